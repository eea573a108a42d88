set_option maxRecDepth 20000 in
theorem ggX9_init_X0_init : GoodIn wsX9_init wsX0_init := goodIn_r _ [39, 40, 2, 3, 41, 42, 43, 44, 45, 46, 123, 124, 125, 126] (by decide +kernel) (by decide +kernel)
set_option maxRecDepth 20000 in
theorem gX9_init_X0_init : GoodIn wsX9_init (wsX0_init) := ggX9_init_X0_init
set_option maxRecDepth 20000 in
theorem ggX9_init_X3_init : GoodIn wsX9_init wsX3_init := goodIn_r _ [49, 50, 2, 3, 51, 52, 5, 6, 53, 43, 54, 55, 56, 38, 39, 40, 41, 42, 44, 45, 46, 136, 137, 138, 139, 123, 124, 125, 126] (by decide +kernel) (by decide +kernel)
set_option maxRecDepth 20000 in
theorem gX9_init_X3_init : GoodIn wsX9_init (wsX3_init) := ggX9_init_X3_init
set_option maxRecDepth 20000 in
theorem ggX9_init_X4_init : GoodIn wsX9_init wsX4_init := goodIn_r _ [59, 60, 2, 3, 41, 61, 62, 140, 141] (by decide +kernel) (by decide +kernel)
set_option maxRecDepth 20000 in
theorem gX9_init_X4_init : GoodIn wsX9_init (wsX4_init) := ggX9_init_X4_init
set_option maxRecDepth 20000 in
theorem ggX9_init_X5_init : GoodIn wsX9_init wsX5_init := goodIn_r _ [65, 66, 2, 3, 41, 67, 68, 69, 70, 142, 143, 144, 145] (by decide +kernel) (by decide +kernel)
set_option maxRecDepth 20000 in
theorem gX9_init_X5_init : GoodIn wsX9_init (wsX5_init) := ggX9_init_X5_init
set_option maxRecDepth 20000 in
theorem ggX9_init_X7_init : GoodIn wsX9_init wsX7_init := goodIn_r _ [73, 74, 2, 3, 41, 75, 76, 77, 78, 79, 80, 81, 82, 83, 84, 85, 86, 87, 88, 89, 90, 91, 92, 146, 147, 148, 149, 150, 151, 152, 153] (by decide +kernel) (by decide +kernel)
set_option maxRecDepth 20000 in
theorem gX9_init_X7_init : GoodIn wsX9_init (wsX7_init) := ggX9_init_X7_init
set_option maxRecDepth 20000 in
theorem ggX9_init_X8_init : GoodIn wsX9_init wsX8_init := goodIn_r _ [95, 96, 2, 3, 97, 43, 98, 77, 99, 100, 101, 102, 103, 154, 155, 156, 157, 158, 159, 160] (by decide +kernel) (by decide +kernel)
set_option maxRecDepth 20000 in
theorem gX9_init_X8_init : GoodIn wsX9_init (wsX8_init) := ggX9_init_X8_init
set_option maxRecDepth 20000 in
theorem ggX9_init_X6_init : GoodIn wsX9_init wsX6_init := goodIn_r _ [106, 107, 2, 3, 108, 41, 109, 110, 111, 161, 162, 163, 164] (by decide +kernel) (by decide +kernel)
set_option maxRecDepth 20000 in
theorem gX9_init_X6_init : GoodIn wsX9_init (wsX6_init) := ggX9_init_X6_init
set_option maxRecDepth 20000 in
theorem ggX9_init_X1_init : GoodIn wsX9_init wsX1_init := goodIn_r _ [114, 115, 2, 3, 116, 41, 117, 118, 5, 6, 119, 120, 121, 122, 38, 39, 40, 42, 43, 44, 45, 46, 165, 166, 167, 168, 169, 123, 124, 125, 126] (by decide +kernel) (by decide +kernel)
set_option maxRecDepth 20000 in
theorem gX9_init_X1_init : GoodIn wsX9_init (wsX1_init) := ggX9_init_X1_init
theorem dX9_init_0 : decode cX9_init 0 = .ok (.aload_n 0, 1) := by decide +kernel
theorem dX9_init_1 : decode cX9_init 1 = .ok (.invokespecial 3, 3) := by decide +kernel
theorem dX9_init_4 : decode cX9_init 4 = .ok (.aload_n 0, 1) := by decide +kernel
theorem dX9_init_5 : decode cX9_init 5 = .ok (.new 9, 3) := by decide +kernel
theorem dX9_init_8 : decode cX9_init 8 = .ok (.dup, 1) := by decide +kernel
theorem dX9_init_9 : decode cX9_init 9 = .ok (.invokespecial 11, 3) := by decide +kernel
theorem dX9_init_12 : decode cX9_init 12 = .ok (.putfield 12, 3) := by decide +kernel
theorem dX9_init_15 : decode cX9_init 15 = .ok (.aload_n 0, 1) := by decide +kernel
theorem dX9_init_16 : decode cX9_init 16 = .ok (.new 9, 3) := by decide +kernel
theorem dX9_init_19 : decode cX9_init 19 = .ok (.dup, 1) := by decide +kernel
theorem dX9_init_20 : decode cX9_init 20 = .ok (.invokespecial 11, 3) := by decide +kernel
theorem dX9_init_23 : decode cX9_init 23 = .ok (.putfield 16, 3) := by decide +kernel
theorem dX9_init_26 : decode cX9_init 26 = .ok (.aload_n 0, 1) := by decide +kernel
theorem dX9_init_27 : decode cX9_init 27 = .ok (.new 19, 3) := by decide +kernel
theorem dX9_init_30 : decode cX9_init 30 = .ok (.dup, 1) := by decide +kernel
theorem dX9_init_31 : decode cX9_init 31 = .ok (.invokespecial 21, 3) := by decide +kernel
theorem dX9_init_34 : decode cX9_init 34 = .ok (.putfield 22, 3) := by decide +kernel
theorem dX9_init_37 : decode cX9_init 37 = .ok (.aload_n 0, 1) := by decide +kernel
theorem dX9_init_38 : decode cX9_init 38 = .ok (.new 26, 3) := by decide +kernel
theorem dX9_init_41 : decode cX9_init 41 = .ok (.dup, 1) := by decide +kernel
theorem dX9_init_42 : decode cX9_init 42 = .ok (.invokespecial 28, 3) := by decide +kernel
theorem dX9_init_45 : decode cX9_init 45 = .ok (.putfield 29, 3) := by decide +kernel
theorem dX9_init_48 : decode cX9_init 48 = .ok (.aload_n 0, 1) := by decide +kernel
theorem dX9_init_49 : decode cX9_init 49 = .ok (.new 33, 3) := by decide +kernel
theorem dX9_init_52 : decode cX9_init 52 = .ok (.dup, 1) := by decide +kernel
theorem dX9_init_53 : decode cX9_init 53 = .ok (.invokespecial 35, 3) := by decide +kernel
theorem dX9_init_56 : decode cX9_init 56 = .ok (.putfield 36, 3) := by decide +kernel
theorem dX9_init_59 : decode cX9_init 59 = .ok (.new 40, 3) := by decide +kernel
theorem dX9_init_62 : decode cX9_init 62 = .ok (.dup, 1) := by decide +kernel
theorem dX9_init_63 : decode cX9_init 63 = .ok (.invokespecial 42, 3) := by decide +kernel
theorem dX9_init_66 : decode cX9_init 66 = .ok (.astore_n 1, 1) := by decide +kernel
theorem dX9_init_67 : decode cX9_init 67 = .ok (.aload_n 0, 1) := by decide +kernel
theorem dX9_init_68 : decode cX9_init 68 = .ok (.aload_n 1, 1) := by decide +kernel
theorem dX9_init_69 : decode cX9_init 69 = .ok (.putfield 43, 3) := by decide +kernel
theorem dX9_init_72 : decode cX9_init 72 = .ok (.aload_n 0, 1) := by decide +kernel
theorem dX9_init_73 : decode cX9_init 73 = .ok (.new 47, 3) := by decide +kernel
theorem dX9_init_76 : decode cX9_init 76 = .ok (.dup, 1) := by decide +kernel
theorem dX9_init_77 : decode cX9_init 77 = .ok (.aload_n 1, 1) := by decide +kernel
theorem dX9_init_78 : decode cX9_init 78 = .ok (.invokespecial 49, 3) := by decide +kernel
theorem dX9_init_81 : decode cX9_init 81 = .ok (.putfield 52, 3) := by decide +kernel
theorem dX9_init_84 : decode cX9_init 84 = .ok (.aload_n 0, 1) := by decide +kernel
theorem dX9_init_85 : decode cX9_init 85 = .ok (.new 56, 3) := by decide +kernel
theorem dX9_init_88 : decode cX9_init 88 = .ok (.dup, 1) := by decide +kernel
theorem dX9_init_89 : decode cX9_init 89 = .ok (.aload_n 1, 1) := by decide +kernel
theorem dX9_init_90 : decode cX9_init 90 = .ok (.invokespecial 58, 3) := by decide +kernel
theorem dX9_init_93 : decode cX9_init 93 = .ok (.putfield 59, 3) := by decide +kernel
theorem dX9_init_96 : decode cX9_init 96 = .ok (.aload_n 0, 1) := by decide +kernel
theorem dX9_init_97 : decode cX9_init 97 = .ok (.new 63, 3) := by decide +kernel
theorem dX9_init_100 : decode cX9_init 100 = .ok (.dup, 1) := by decide +kernel
theorem dX9_init_101 : decode cX9_init 101 = .ok (.aload_n 1, 1) := by decide +kernel
theorem dX9_init_102 : decode cX9_init 102 = .ok (.invokespecial 65, 3) := by decide +kernel
theorem dX9_init_105 : decode cX9_init 105 = .ok (.putfield 66, 3) := by decide +kernel
theorem dX9_init_108 : decode cX9_init 108 = .ok (.return_, 1) := by decide +kernel
set_option maxRecDepth 20000 in
theorem ggX9_write_X9_checkedCell : GoodIn wsX9_write wsX9_checkedCell := goodIn_ca (goodIn_r _ [10, 11, 12, 13, 14, 9, 15] (by decide +kernel) (by decide +kernel)) (goodIn_sub (fun _ h => List.mem_cons_of_mem _ (List.mem_append_right _ h)) (by decide +kernel))
set_option maxRecDepth 20000 in
theorem gX9_write_X9_checkedCell : GoodIn wsX9_write (va_wsS RX9 70 yX9_checkedCell wsX9_checkedCell) := goodIn_app (goodIn_of _ (by decide +kernel)) ggX9_write_X9_checkedCell
set_option maxRecDepth 20000 in
theorem ggX9_write_X0_hasField : GoodIn wsX9_write wsX0_hasField := goodIn_r _ [20, 21, 22, 9, 23, 59, 60, 61, 62] (by decide +kernel) (by decide +kernel)
set_option maxRecDepth 20000 in
theorem gX9_write_X0_hasField : GoodIn wsX9_write (wsV RX9 81 RX0 yX0_hasField wsX0_hasField) := goodIn_app (goodIn_of _ (by decide +kernel)) ggX9_write_X0_hasField
set_option maxRecDepth 20000 in
theorem ggX9_write_X3_save : GoodIn wsX9_write wsX3_save := goodIn_r _ [28, 29, 30, 31, 32, 33, 27, 34, 35, 36, 37, 19, 38, 39, 21, 40, 41, 63, 64, 65, 66, 59, 60, 61, 62] (by decide +kernel) (by decide +kernel)
set_option maxRecDepth 20000 in
theorem gX9_write_X3_save : GoodIn wsX9_write (wsV RX9 90 RX3 yX3_save wsX3_save) := goodIn_app (goodIn_of _ (by decide +kernel)) ggX9_write_X3_save
set_option maxRecDepth 20000 in
theorem ggX9_write_X0_numberIn : GoodIn wsX9_write wsX0_numberIn := goodIn_r _ [45, 39, 22, 9, 23, 59, 60, 61, 62] (by decide +kernel) (by decide +kernel)
set_option maxRecDepth 20000 in
theorem gX9_write_X0_numberIn : GoodIn wsX9_write (wsV RX9 94 RX0 yX0_numberIn wsX0_numberIn) := goodIn_app (goodIn_of _ (by decide +kernel)) ggX9_write_X0_numberIn
set_option maxRecDepth 20000 in
theorem ggX9_write_X0_setNumber : GoodIn wsX9_write wsX0_setNumber := goodIn_r _ [49, 39, 22, 9, 23, 59, 60, 61, 62] (by decide +kernel) (by decide +kernel)
set_option maxRecDepth 20000 in
theorem gX9_write_X0_setNumber : GoodIn wsX9_write (wsV RX9 98 RX0 yX0_setNumber wsX0_setNumber) := goodIn_app (goodIn_of _ (by decide +kernel)) ggX9_write_X0_setNumber
theorem dX9_write_0 : decode cX9_write 0 = .ok (.iload_n 1, 1) := by decide +kernel
theorem dX9_write_1 : decode cX9_write 1 = .ok (.iload_n 2, 1) := by decide +kernel
theorem dX9_write_2 : decode cX9_write 2 = .ok (.invokestatic 70, 3) := by decide +kernel
theorem dX9_write_5 : decode cX9_write 5 = .ok (.istore 4, 2) := by decide +kernel
theorem dX9_write_7 : decode cX9_write 7 = .ok (.iload_n 3, 1) := by decide +kernel
theorem dX9_write_8 : decode cX9_write 8 = .ok (.ifCond .lt 9, 3) := by decide +kernel
theorem dX9_write_11 : decode cX9_write 11 = .ok (.iload_n 3, 1) := by decide +kernel
theorem dX9_write_12 : decode cX9_write 12 = .ok (.bipush 20, 2) := by decide +kernel
theorem dX9_write_14 : decode cX9_write 14 = .ok (.if_icmp .le 13, 3) := by decide +kernel
theorem dX9_write_17 : decode cX9_write 17 = .ok (.new 74, 3) := by decide +kernel
theorem dX9_write_20 : decode cX9_write 20 = .ok (.dup, 1) := by decide +kernel
theorem dX9_write_21 : decode cX9_write 21 = .ok (.ldc 76, 2) := by decide +kernel
theorem dX9_write_23 : decode cX9_write 23 = .ok (.invokespecial 78, 3) := by decide +kernel
theorem dX9_write_26 : decode cX9_write 26 = .ok (.athrow, 1) := by decide +kernel
theorem dX9_write_27 : decode cX9_write 27 = .ok (.aload_n 0, 1) := by decide +kernel
theorem dX9_write_28 : decode cX9_write 28 = .ok (.getfield 12, 3) := by decide +kernel
theorem dX9_write_31 : decode cX9_write 31 = .ok (.iload 4, 2) := by decide +kernel
theorem dX9_write_33 : decode cX9_write 33 = .ok (.invokevirtual 81, 3) := by decide +kernel
theorem dX9_write_36 : decode cX9_write 36 = .ok (.ifCond .eq 13, 3) := by decide +kernel
theorem dX9_write_39 : decode cX9_write 39 = .ok (.new 85, 3) := by decide +kernel
theorem dX9_write_42 : decode cX9_write 42 = .ok (.dup, 1) := by decide +kernel
theorem dX9_write_43 : decode cX9_write 43 = .ok (.ldc 87, 2) := by decide +kernel
theorem dX9_write_45 : decode cX9_write 45 = .ok (.invokespecial 89, 3) := by decide +kernel
theorem dX9_write_48 : decode cX9_write 48 = .ok (.athrow, 1) := by decide +kernel
theorem dX9_write_49 : decode cX9_write 49 = .ok (.aload_n 0, 1) := by decide +kernel
theorem dX9_write_50 : decode cX9_write 50 = .ok (.getfield 22, 3) := by decide +kernel
theorem dX9_write_53 : decode cX9_write 53 = .ok (.aload_n 0, 1) := by decide +kernel
theorem dX9_write_54 : decode cX9_write 54 = .ok (.getfield 12, 3) := by decide +kernel
theorem dX9_write_57 : decode cX9_write 57 = .ok (.invokevirtual 90, 3) := by decide +kernel
theorem dX9_write_60 : decode cX9_write 60 = .ok (.aload_n 0, 1) := by decide +kernel
theorem dX9_write_61 : decode cX9_write 61 = .ok (.getfield 12, 3) := by decide +kernel
theorem dX9_write_64 : decode cX9_write 64 = .ok (.iload 4, 2) := by decide +kernel
theorem dX9_write_66 : decode cX9_write 66 = .ok (.invokevirtual 94, 3) := by decide +kernel
theorem dX9_write_69 : decode cX9_write 69 = .ok (.istore 5, 2) := by decide +kernel
theorem dX9_write_71 : decode cX9_write 71 = .ok (.aload_n 0, 1) := by decide +kernel
theorem dX9_write_72 : decode cX9_write 72 = .ok (.getfield 12, 3) := by decide +kernel
theorem dX9_write_75 : decode cX9_write 75 = .ok (.iload 4, 2) := by decide +kernel
theorem dX9_write_77 : decode cX9_write 77 = .ok (.iload_n 3, 1) := by decide +kernel
theorem dX9_write_78 : decode cX9_write 78 = .ok (.invokevirtual 98, 3) := by decide +kernel
theorem dX9_write_81 : decode cX9_write 81 = .ok (.iload 5, 2) := by decide +kernel
theorem dX9_write_83 : decode cX9_write 83 = .ok (.ireturn, 1) := by decide +kernel
set_option maxRecDepth 20000 in
theorem ggX9_make_X3_save : GoodIn wsX9_make wsX3_save := goodIn_r _ [11, 12, 13, 14, 15, 16, 10, 17, 18, 19, 20, 21, 22, 23, 24, 25, 26, 110, 111, 112, 113, 114, 115, 116, 117] (by decide +kernel) (by decide +kernel)
set_option maxRecDepth 20000 in
theorem gX9_make_X3_save : GoodIn wsX9_make (wsV RX9 90 RX3 yX3_save wsX3_save) := goodIn_app (goodIn_of _ (by decide +kernel)) ggX9_make_X3_save
set_option maxRecDepth 20000 in
theorem ggX9_make_X5_writeNumbers : GoodIn wsX9_make wsX5_writeNumbers := goodIn_r _ [31, 32, 33, 34, 35, 36, 37, 38, 21, 39, 24, 40, 41, 42, 43, 23, 44, 45, 46, 30, 47, 48, 49, 50, 51, 52, 53, 54, 55, 56, 57, 58, 59, 60, 61, 62, 63, 64, 65, 66, 67, 68, 69, 70, 71, 72, 73, 74, 75, 76, 77, 78, 79, 80, 81, 82, 83, 84, 85, 86, 87, 118, 119, 120, 121, 114, 115, 116, 117] (by decide +kernel) (by decide +kernel)
set_option maxRecDepth 20000 in
theorem gX9_make_X5_writeNumbers : GoodIn wsX9_make (wsV RX9 105 RX5 yX5_writeNumbers wsX5_writeNumbers) := goodIn_app (goodIn_of _ (by decide +kernel)) ggX9_make_X5_writeNumbers
set_option maxRecDepth 20000 in
theorem ggX9_make_X0_cellsWithNumber : GoodIn wsX9_make wsX0_cellsWithNumber := goodIn_r _ [91, 23, 92, 57, 93, 114, 115, 116, 117] (by decide +kernel) (by decide +kernel)
set_option maxRecDepth 20000 in
theorem gX9_make_X0_cellsWithNumber : GoodIn wsX9_make (wsV RX9 109 RX0 yX0_cellsWithNumber wsX0_cellsWithNumber) := goodIn_app (goodIn_of _ (by decide +kernel)) ggX9_make_X0_cellsWithNumber
set_option maxRecDepth 20000 in
theorem ggX9_make_J13_bitCount_95d88 : GoodIn wsX9_make wsJ13_bitCount_95d88 := goodIn_r _ [97, 98, 99, 100] (by decide +kernel) (by decide +kernel)
set_option maxRecDepth 20000 in
theorem gX9_make_J13_bitCount_95d88 : GoodIn wsX9_make (va_wsS RX9 113 yJ13_bitCount_95d88 wsJ13_bitCount_95d88) := goodIn_app (goodIn_of _ (by decide +kernel)) ggX9_make_J13_bitCount_95d88
theorem dX9_make_0 : decode cX9_make 0 = .ok (.iload_n 1, 1) := by decide +kernel
theorem dX9_make_1 : decode cX9_make 1 = .ok (.ifCond .lt 9, 3) := by decide +kernel
theorem dX9_make_4 : decode cX9_make 4 = .ok (.iload_n 1, 1) := by decide +kernel
theorem dX9_make_5 : decode cX9_make 5 = .ok (.ldc 102, 2) := by decide +kernel
theorem dX9_make_7 : decode cX9_make 7 = .ok (.if_icmp .le 13, 3) := by decide +kernel
theorem dX9_make_10 : decode cX9_make 10 = .ok (.new 74, 3) := by decide +kernel
theorem dX9_make_13 : decode cX9_make 13 = .ok (.dup, 1) := by decide +kernel
theorem dX9_make_14 : decode cX9_make 14 = .ok (.ldc 103, 2) := by decide +kernel
theorem dX9_make_16 : decode cX9_make 16 = .ok (.invokespecial 78, 3) := by decide +kernel
theorem dX9_make_19 : decode cX9_make 19 = .ok (.athrow, 1) := by decide +kernel
theorem dX9_make_20 : decode cX9_make 20 = .ok (.aload_n 0, 1) := by decide +kernel
theorem dX9_make_21 : decode cX9_make 21 = .ok (.getfield 22, 3) := by decide +kernel
theorem dX9_make_24 : decode cX9_make 24 = .ok (.aload_n 0, 1) := by decide +kernel
theorem dX9_make_25 : decode cX9_make 25 = .ok (.getfield 12, 3) := by decide +kernel
theorem dX9_make_28 : decode cX9_make 28 = .ok (.invokevirtual 90, 3) := by decide +kernel
theorem dX9_make_31 : decode cX9_make 31 = .ok (.aload_n 0, 1) := by decide +kernel
theorem dX9_make_32 : decode cX9_make 32 = .ok (.getfield 36, 3) := by decide +kernel
theorem dX9_make_35 : decode cX9_make 35 = .ok (.aload_n 0, 1) := by decide +kernel
theorem dX9_make_36 : decode cX9_make 36 = .ok (.getfield 12, 3) := by decide +kernel
theorem dX9_make_39 : decode cX9_make 39 = .ok (.iload_n 1, 1) := by decide +kernel
theorem dX9_make_40 : decode cX9_make 40 = .ok (.invokevirtual 105, 3) := by decide +kernel
theorem dX9_make_43 : decode cX9_make 43 = .ok (.aload_n 0, 1) := by decide +kernel
theorem dX9_make_44 : decode cX9_make 44 = .ok (.getfield 12, 3) := by decide +kernel
theorem dX9_make_47 : decode cX9_make 47 = .ok (.invokevirtual 109, 3) := by decide +kernel
theorem dX9_make_50 : decode cX9_make 50 = .ok (.invokestatic 113, 3) := by decide +kernel
theorem dX9_make_53 : decode cX9_make 53 = .ok (.ireturn, 1) := by decide +kernel
set_option maxRecDepth 20000 in
theorem ggX9_draw_X9_checkRectangle : GoodIn wsX9_draw wsX9_checkRectangle := goodIn_ca (goodIn_r _ [8, 9, 10] (by decide +kernel) (by decide +kernel)) (goodIn_sub (fun _ h => List.mem_cons_of_mem _ (List.mem_append_right _ h)) (by decide +kernel))
set_option maxRecDepth 20000 in
theorem gX9_draw_X9_checkRectangle : GoodIn wsX9_draw (va_wsS RX9 119 yX9_checkRectangle wsX9_checkRectangle) := goodIn_app (goodIn_of _ (by decide +kernel)) ggX9_draw_X9_checkRectangle
set_option maxRecDepth 20000 in
theorem ggX9_draw_X9_cellAt : GoodIn wsX9_draw wsX9_cellAt := goodIn_r _ [13] (by decide +kernel) (by decide +kernel)
set_option maxRecDepth 20000 in
theorem gX9_draw_X9_cellAt : GoodIn wsX9_draw (va_wsS RX9 123 yX9_cellAt wsX9_cellAt) := goodIn_app (goodIn_of _ (by decide +kernel)) ggX9_draw_X9_cellAt
set_option maxRecDepth 20000 in
theorem ggX9_draw_X0_reason : GoodIn wsX9_draw wsX0_reason := goodIn_r _ [18, 19, 7, 20, 21, 22, 23, 24, 25, 26, 27, 28, 29, 17, 30, 31, 32, 33, 34, 35, 36, 37, 38, 39, 40, 41, 42, 43, 44, 45, 46, 47, 48, 49, 50, 51, 52, 53, 54, 55, 56, 57, 90, 91, 92, 93] (by decide +kernel) (by decide +kernel)
set_option maxRecDepth 20000 in
theorem gX9_draw_X0_reason : GoodIn wsX9_draw (wsV RX9 126 RX0 yX0_reason wsX0_reason) := goodIn_app (goodIn_of _ (by decide +kernel)) ggX9_draw_X0_reason
set_option maxRecDepth 20000 in
theorem ggX9_draw_X3_save : GoodIn wsX9_draw wsX3_save := goodIn_r _ [62, 63, 64, 65, 66, 67, 61, 68, 69, 70, 71, 17, 72, 31, 43, 73, 74, 94, 95, 96, 97, 90, 91, 92, 93] (by decide +kernel) (by decide +kernel)
set_option maxRecDepth 20000 in
theorem gX9_draw_X3_save : GoodIn wsX9_draw (wsV RX9 90 RX3 yX3_save wsX3_save) := goodIn_app (goodIn_of _ (by decide +kernel)) ggX9_draw_X3_save
set_option maxRecDepth 20000 in
theorem ggX9_draw_X0_place : GoodIn wsX9_draw wsX0_place := goodIn_r _ [78, 43, 73, 74, 22, 7, 23, 90, 91, 92, 93] (by decide +kernel) (by decide +kernel)
set_option maxRecDepth 20000 in
theorem gX9_draw_X0_place : GoodIn wsX9_draw (wsV RX9 131 RX0 yX0_place wsX0_place) := goodIn_app (goodIn_of _ (by decide +kernel)) ggX9_draw_X0_place
set_option maxRecDepth 20000 in
theorem ggX9_draw_X0_cellsInFields : GoodIn wsX9_draw wsX0_cellsInFields := goodIn_r _ [42, 43, 25, 7, 26, 90, 91, 92, 93] (by decide +kernel) (by decide +kernel)
set_option maxRecDepth 20000 in
theorem gX9_draw_X0_cellsInFields : GoodIn wsX9_draw (wsV RX9 134 RX0 yX0_cellsInFields wsX0_cellsInFields) := goodIn_app (goodIn_of _ (by decide +kernel)) ggX9_draw_X0_cellsInFields
set_option maxRecDepth 20000 in
theorem ggX9_draw_J13_bitCount_95d88 : GoodIn wsX9_draw wsJ13_bitCount_95d88 := goodIn_r _ [35, 36, 37, 38] (by decide +kernel) (by decide +kernel)
set_option maxRecDepth 20000 in
theorem gX9_draw_J13_bitCount_95d88 : GoodIn wsX9_draw (va_wsS RX9 113 yJ13_bitCount_95d88 wsJ13_bitCount_95d88) := goodIn_app (goodIn_of _ (by decide +kernel)) ggX9_draw_J13_bitCount_95d88
theorem dX9_draw_0 : decode cX9_draw 0 = .ok (.iload_n 1, 1) := by decide +kernel
theorem dX9_draw_1 : decode cX9_draw 1 = .ok (.iload_n 2, 1) := by decide +kernel
theorem dX9_draw_2 : decode cX9_draw 2 = .ok (.iload_n 3, 1) := by decide +kernel
theorem dX9_draw_3 : decode cX9_draw 3 = .ok (.iload 4, 2) := by decide +kernel
theorem dX9_draw_5 : decode cX9_draw 5 = .ok (.invokestatic 119, 3) := by decide +kernel
theorem dX9_draw_8 : decode cX9_draw 8 = .ok (.iload_n 1, 1) := by decide +kernel
theorem dX9_draw_9 : decode cX9_draw 9 = .ok (.iload_n 2, 1) := by decide +kernel
theorem dX9_draw_10 : decode cX9_draw 10 = .ok (.invokestatic 123, 3) := by decide +kernel
theorem dX9_draw_13 : decode cX9_draw 13 = .ok (.istore 5, 2) := by decide +kernel
theorem dX9_draw_15 : decode cX9_draw 15 = .ok (.iload_n 3, 1) := by decide +kernel
theorem dX9_draw_16 : decode cX9_draw 16 = .ok (.iload 4, 2) := by decide +kernel
theorem dX9_draw_18 : decode cX9_draw 18 = .ok (.invokestatic 123, 3) := by decide +kernel
theorem dX9_draw_21 : decode cX9_draw 21 = .ok (.istore 6, 2) := by decide +kernel
theorem dX9_draw_23 : decode cX9_draw 23 = .ok (.aload_n 0, 1) := by decide +kernel
theorem dX9_draw_24 : decode cX9_draw 24 = .ok (.getfield 12, 3) := by decide +kernel
theorem dX9_draw_27 : decode cX9_draw 27 = .ok (.iload 5, 2) := by decide +kernel
theorem dX9_draw_29 : decode cX9_draw 29 = .ok (.iload 6, 2) := by decide +kernel
theorem dX9_draw_31 : decode cX9_draw 31 = .ok (.invokevirtual 126, 3) := by decide +kernel
theorem dX9_draw_34 : decode cX9_draw 34 = .ok (.ifCond .eq 13, 3) := by decide +kernel
theorem dX9_draw_37 : decode cX9_draw 37 = .ok (.new 85, 3) := by decide +kernel
theorem dX9_draw_40 : decode cX9_draw 40 = .ok (.dup, 1) := by decide +kernel
theorem dX9_draw_41 : decode cX9_draw 41 = .ok (.ldc 129, 2) := by decide +kernel
theorem dX9_draw_43 : decode cX9_draw 43 = .ok (.invokespecial 89, 3) := by decide +kernel
theorem dX9_draw_46 : decode cX9_draw 46 = .ok (.athrow, 1) := by decide +kernel
theorem dX9_draw_47 : decode cX9_draw 47 = .ok (.aload_n 0, 1) := by decide +kernel
theorem dX9_draw_48 : decode cX9_draw 48 = .ok (.getfield 22, 3) := by decide +kernel
theorem dX9_draw_51 : decode cX9_draw 51 = .ok (.aload_n 0, 1) := by decide +kernel
theorem dX9_draw_52 : decode cX9_draw 52 = .ok (.getfield 12, 3) := by decide +kernel
theorem dX9_draw_55 : decode cX9_draw 55 = .ok (.invokevirtual 90, 3) := by decide +kernel
theorem dX9_draw_58 : decode cX9_draw 58 = .ok (.aload_n 0, 1) := by decide +kernel
theorem dX9_draw_59 : decode cX9_draw 59 = .ok (.getfield 12, 3) := by decide +kernel
theorem dX9_draw_62 : decode cX9_draw 62 = .ok (.iload 5, 2) := by decide +kernel
theorem dX9_draw_64 : decode cX9_draw 64 = .ok (.iload 6, 2) := by decide +kernel
theorem dX9_draw_66 : decode cX9_draw 66 = .ok (.invokevirtual 131, 3) := by decide +kernel
theorem dX9_draw_69 : decode cX9_draw 69 = .ok (.aload_n 0, 1) := by decide +kernel
theorem dX9_draw_70 : decode cX9_draw 70 = .ok (.getfield 12, 3) := by decide +kernel
theorem dX9_draw_73 : decode cX9_draw 73 = .ok (.invokevirtual 134, 3) := by decide +kernel
theorem dX9_draw_76 : decode cX9_draw 76 = .ok (.invokestatic 113, 3) := by decide +kernel
theorem dX9_draw_79 : decode cX9_draw 79 = .ok (.ireturn, 1) := by decide +kernel
set_option maxRecDepth 20000 in
theorem ggX9_erase_X9_checkedFieldCell : GoodIn wsX9_erase wsX9_checkedFieldCell := goodIn_ca (goodIn_ca (goodIn_r _ [7, 8, 9, 2, 10, 11, 6, 12, 13, 14, 15, 16, 17, 18, 19, 20, 21, 22, 23, 24, 25, 64, 65, 66, 67, 68, 69, 70, 71, 72, 73, 74, 75, 76] (by decide +kernel) (by decide +kernel)) (goodIn_sub (fun _ h => List.mem_cons_of_mem _ (List.mem_append_left _ (List.mem_append_right _ h))) (by decide +kernel))) (goodIn_sub (fun _ h => List.mem_cons_of_mem _ (List.mem_append_right _ h)) (by decide +kernel))
set_option maxRecDepth 20000 in
theorem gX9_erase_X9_checkedFieldCell : GoodIn wsX9_erase (wsV RX9 137 RX9 yX9_checkedFieldCell wsX9_checkedFieldCell) := goodIn_app (goodIn_of _ (by decide +kernel)) ggX9_erase_X9_checkedFieldCell
set_option maxRecDepth 20000 in
theorem ggX9_erase_X3_save : GoodIn wsX9_erase wsX3_save := goodIn_r _ [30, 31, 32, 33, 34, 35, 29, 36, 37, 38, 39, 21, 40, 41, 23, 42, 43, 77, 78, 79, 80, 73, 74, 75, 76] (by decide +kernel) (by decide +kernel)
set_option maxRecDepth 20000 in
theorem gX9_erase_X3_save : GoodIn wsX9_erase (wsV RX9 90 RX3 yX3_save wsX3_save) := goodIn_app (goodIn_of _ (by decide +kernel)) ggX9_erase_X3_save
set_option maxRecDepth 20000 in
theorem ggX9_erase_X0_sizeOfField : GoodIn wsX9_erase wsX0_sizeOfField := goodIn_r _ [47, 42, 43, 24, 6, 25, 48, 49, 50, 51, 52, 53, 54, 55, 73, 74, 75, 76] (by decide +kernel) (by decide +kernel)
set_option maxRecDepth 20000 in
theorem gX9_erase_X0_sizeOfField : GoodIn wsX9_erase (wsV RX9 140 RX0 yX0_sizeOfField wsX0_sizeOfField) := goodIn_app (goodIn_of _ (by decide +kernel)) ggX9_erase_X0_sizeOfField
set_option maxRecDepth 20000 in
theorem ggX9_erase_X0_removeField : GoodIn wsX9_erase wsX0_removeField := goodIn_r _ [59, 23, 42, 60, 61, 62, 21, 63, 24, 6, 25, 73, 74, 75, 76] (by decide +kernel) (by decide +kernel)
set_option maxRecDepth 20000 in
theorem gX9_erase_X0_removeField : GoodIn wsX9_erase (wsV RX9 143 RX0 yX0_removeField wsX0_removeField) := goodIn_app (goodIn_of _ (by decide +kernel)) ggX9_erase_X0_removeField
theorem dX9_erase_0 : decode cX9_erase 0 = .ok (.aload_n 0, 1) := by decide +kernel
theorem dX9_erase_1 : decode cX9_erase 1 = .ok (.iload_n 1, 1) := by decide +kernel
theorem dX9_erase_2 : decode cX9_erase 2 = .ok (.iload_n 2, 1) := by decide +kernel
theorem dX9_erase_3 : decode cX9_erase 3 = .ok (.invokevirtual 137, 3) := by decide +kernel
theorem dX9_erase_6 : decode cX9_erase 6 = .ok (.istore_n 3, 1) := by decide +kernel
theorem dX9_erase_7 : decode cX9_erase 7 = .ok (.aload_n 0, 1) := by decide +kernel
theorem dX9_erase_8 : decode cX9_erase 8 = .ok (.getfield 22, 3) := by decide +kernel
theorem dX9_erase_11 : decode cX9_erase 11 = .ok (.aload_n 0, 1) := by decide +kernel
theorem dX9_erase_12 : decode cX9_erase 12 = .ok (.getfield 12, 3) := by decide +kernel
theorem dX9_erase_15 : decode cX9_erase 15 = .ok (.invokevirtual 90, 3) := by decide +kernel
theorem dX9_erase_18 : decode cX9_erase 18 = .ok (.aload_n 0, 1) := by decide +kernel
theorem dX9_erase_19 : decode cX9_erase 19 = .ok (.getfield 12, 3) := by decide +kernel
theorem dX9_erase_22 : decode cX9_erase 22 = .ok (.iload_n 3, 1) := by decide +kernel
theorem dX9_erase_23 : decode cX9_erase 23 = .ok (.invokevirtual 140, 3) := by decide +kernel
theorem dX9_erase_26 : decode cX9_erase 26 = .ok (.istore 4, 2) := by decide +kernel
theorem dX9_erase_28 : decode cX9_erase 28 = .ok (.aload_n 0, 1) := by decide +kernel
theorem dX9_erase_29 : decode cX9_erase 29 = .ok (.getfield 12, 3) := by decide +kernel
theorem dX9_erase_32 : decode cX9_erase 32 = .ok (.iload_n 3, 1) := by decide +kernel
theorem dX9_erase_33 : decode cX9_erase 33 = .ok (.invokevirtual 143, 3) := by decide +kernel
theorem dX9_erase_36 : decode cX9_erase 36 = .ok (.iload 4, 2) := by decide +kernel
theorem dX9_erase_38 : decode cX9_erase 38 = .ok (.ireturn, 1) := by decide +kernel
set_option maxRecDepth 20000 in
theorem ggX9_eraseAll_X3_save : GoodIn wsX9_eraseAll wsX3_save := goodIn_r _ [7, 8, 9, 10, 11, 12, 6, 13, 14, 15, 16, 17, 18, 19, 20, 21, 22, 47, 48, 49, 50, 51, 52, 53, 54] (by decide +kernel) (by decide +kernel)
set_option maxRecDepth 20000 in
theorem gX9_eraseAll_X3_save : GoodIn wsX9_eraseAll (wsV RX9 90 RX3 yX3_save wsX3_save) := goodIn_app (goodIn_of _ (by decide +kernel)) ggX9_eraseAll_X3_save
set_option maxRecDepth 20000 in
theorem ggX9_eraseAll_X0_countFields : GoodIn wsX9_eraseAll wsX0_countFields := goodIn_r _ [26, 27, 28, 29, 17, 30, 20, 21, 31, 32, 33, 51, 52, 53, 54] (by decide +kernel) (by decide +kernel)
set_option maxRecDepth 20000 in
theorem gX9_eraseAll_X0_countFields : GoodIn wsX9_eraseAll (wsV RX9 147 RX0 yX0_countFields wsX0_countFields) := goodIn_app (goodIn_of _ (by decide +kernel)) ggX9_eraseAll_X0_countFields
set_option maxRecDepth 20000 in
theorem ggX9_eraseAll_X0_removeFields : GoodIn wsX9_eraseAll wsX0_removeFields := goodIn_r _ [37, 20, 51, 52, 53, 54] (by decide +kernel) (by decide +kernel)
set_option maxRecDepth 20000 in
theorem gX9_eraseAll_X0_removeFields : GoodIn wsX9_eraseAll (wsV RX9 151 RX0 yX0_removeFields wsX0_removeFields) := goodIn_app (goodIn_of _ (by decide +kernel)) ggX9_eraseAll_X0_removeFields
theorem dX9_eraseAll_0 : decode cX9_eraseAll 0 = .ok (.aload_n 0, 1) := by decide +kernel
theorem dX9_eraseAll_1 : decode cX9_eraseAll 1 = .ok (.getfield 22, 3) := by decide +kernel
theorem dX9_eraseAll_4 : decode cX9_eraseAll 4 = .ok (.aload_n 0, 1) := by decide +kernel
theorem dX9_eraseAll_5 : decode cX9_eraseAll 5 = .ok (.getfield 12, 3) := by decide +kernel
theorem dX9_eraseAll_8 : decode cX9_eraseAll 8 = .ok (.invokevirtual 90, 3) := by decide +kernel
theorem dX9_eraseAll_11 : decode cX9_eraseAll 11 = .ok (.aload_n 0, 1) := by decide +kernel
theorem dX9_eraseAll_12 : decode cX9_eraseAll 12 = .ok (.getfield 12, 3) := by decide +kernel
theorem dX9_eraseAll_15 : decode cX9_eraseAll 15 = .ok (.invokevirtual 147, 3) := by decide +kernel
theorem dX9_eraseAll_18 : decode cX9_eraseAll 18 = .ok (.istore_n 1, 1) := by decide +kernel
theorem dX9_eraseAll_19 : decode cX9_eraseAll 19 = .ok (.aload_n 0, 1) := by decide +kernel
theorem dX9_eraseAll_20 : decode cX9_eraseAll 20 = .ok (.getfield 12, 3) := by decide +kernel
theorem dX9_eraseAll_23 : decode cX9_eraseAll 23 = .ok (.invokevirtual 151, 3) := by decide +kernel
theorem dX9_eraseAll_26 : decode cX9_eraseAll 26 = .ok (.iload_n 1, 1) := by decide +kernel
theorem dX9_eraseAll_27 : decode cX9_eraseAll 27 = .ok (.ireturn, 1) := by decide +kernel
set_option maxRecDepth 20000 in
theorem ggX9_settle_X9_runWithoutContradiction : GoodIn wsX9_settle wsX9_runWithoutContradiction := goodIn_ca (goodIn_r _ [8, 9, 10, 3, 2, 11, 12, 13, 14, 15, 16, 17, 18, 19, 20, 21, 22, 23, 24, 25, 26, 27, 28, 29, 30, 31, 32, 33, 34, 35, 36, 7, 37, 38, 39, 40, 41, 42, 43, 44, 45, 46, 47, 48, 49, 50, 51, 52, 53, 54, 55, 56, 57, 58, 59, 60, 61, 62, 63, 64, 65, 66, 67, 68, 69, 70, 71, 72, 73, 74, 75, 76, 77, 78, 79, 80, 81, 82, 83, 84, 85, 86, 87, 88, 89, 90, 91, 92, 93, 94, 95, 96, 97, 98, 99, 100, 101, 102, 103, 104, 105, 106, 107, 108, 109, 110, 111, 151, 152, 153, 154, 155, 156, 157, 158, 159, 160, 161, 162, 163, 164, 165, 166, 167, 168, 169, 170, 171, 172, 173, 174, 175, 176, 177, 178] (by decide +kernel) (by decide +kernel)) (goodIn_sub (fun _ h => List.mem_cons_of_mem _ (List.mem_append_right _ h)) (by decide +kernel))
set_option maxRecDepth 20000 in
theorem gX9_settle_X9_runWithoutContradiction : GoodIn wsX9_settle (wsV RX9 154 RX9 yX9_runWithoutContradiction wsX9_runWithoutContradiction) := goodIn_app (goodIn_of _ (by decide +kernel)) ggX9_settle_X9_runWithoutContradiction
set_option maxRecDepth 20000 in
theorem ggX9_settle_X3_save : GoodIn wsX9_settle wsX3_save := goodIn_r _ [116, 117, 118, 119, 120, 121, 115, 122, 123, 124, 125, 33, 126, 42, 35, 127, 128, 179, 180, 181, 182, 175, 176, 177, 178] (by decide +kernel) (by decide +kernel)
set_option maxRecDepth 20000 in
theorem gX9_settle_X3_save : GoodIn wsX9_settle (wsV RX9 90 RX3 yX3_save wsX3_save) := goodIn_app (goodIn_of _ (by decide +kernel)) ggX9_settle_X3_save
set_option maxRecDepth 20000 in
theorem ggX9_settle_X8_placeCertain : GoodIn wsX9_settle wsX8_placeCertain := goodIn_r _ [132, 21, 16, 91, 92, 93, 26, 94, 28, 68, 133, 134, 135, 14, 136, 137, 138, 139, 140, 63, 141, 142, 143, 144, 65, 145, 146, 147, 33, 148, 35, 127, 128, 149, 7, 150, 160, 161, 162, 163, 164, 165, 166, 167, 168, 169, 170, 171, 172, 173, 174, 175, 176, 177, 178] (by decide +kernel) (by decide +kernel)
set_option maxRecDepth 20000 in
theorem gX9_settle_X8_placeCertain : GoodIn wsX9_settle (wsV RX9 157 RX8 yX8_placeCertain wsX8_placeCertain) := goodIn_app (goodIn_of _ (by decide +kernel)) ggX9_settle_X8_placeCertain
theorem dX9_settle_0 : decode cX9_settle 0 = .ok (.aload_n 0, 1) := by decide +kernel
theorem dX9_settle_1 : decode cX9_settle 1 = .ok (.invokevirtual 154, 3) := by decide +kernel
theorem dX9_settle_4 : decode cX9_settle 4 = .ok (.aload_n 0, 1) := by decide +kernel
theorem dX9_settle_5 : decode cX9_settle 5 = .ok (.getfield 22, 3) := by decide +kernel
theorem dX9_settle_8 : decode cX9_settle 8 = .ok (.aload_n 0, 1) := by decide +kernel
theorem dX9_settle_9 : decode cX9_settle 9 = .ok (.getfield 12, 3) := by decide +kernel
theorem dX9_settle_12 : decode cX9_settle 12 = .ok (.invokevirtual 90, 3) := by decide +kernel
theorem dX9_settle_15 : decode cX9_settle 15 = .ok (.aload_n 0, 1) := by decide +kernel
theorem dX9_settle_16 : decode cX9_settle 16 = .ok (.getfield 52, 3) := by decide +kernel
theorem dX9_settle_19 : decode cX9_settle 19 = .ok (.aload_n 0, 1) := by decide +kernel
theorem dX9_settle_20 : decode cX9_settle 20 = .ok (.getfield 12, 3) := by decide +kernel
theorem dX9_settle_23 : decode cX9_settle 23 = .ok (.invokevirtual 157, 3) := by decide +kernel
theorem dX9_settle_26 : decode cX9_settle 26 = .ok (.ireturn, 1) := by decide +kernel
set_option maxRecDepth 20000 in
theorem ggX9_finish_X9_findFirstWay : GoodIn wsX9_finish wsX9_findFirstWay := goodIn_ca (goodIn_r _ [8, 9, 10, 3, 11, 12, 13, 14, 15, 16, 17, 18, 19, 20, 21, 22, 23, 24, 25, 26, 27, 28, 29, 30, 31, 32, 33, 7, 34, 35, 36, 37, 38, 39, 40, 41, 42, 43, 44, 45, 46, 47, 48, 49, 50, 51, 52, 53, 54, 55, 56, 57, 58, 59, 60, 61, 62, 63, 64, 65, 66, 67, 68, 69, 70, 71, 72, 73, 74, 75, 76, 77, 78, 79, 80, 81, 82, 83, 84, 85, 86, 87, 88, 89, 90, 91, 92, 93, 94, 95, 96, 97, 98, 99, 100, 101, 102, 103, 104, 105, 106, 107, 108, 109, 110, 111, 112, 113, 114, 115, 116, 117, 118, 119, 120, 121, 122, 123, 124, 125, 126, 127, 128, 129, 155, 156, 157, 158, 159, 160, 161, 162, 163, 164, 165, 166, 167, 168, 169, 170, 171, 172, 173, 174, 175, 176, 177, 178, 179, 180] (by decide +kernel) (by decide +kernel)) (goodIn_sub (fun _ h => List.mem_cons_of_mem _ (List.mem_append_right _ h)) (by decide +kernel))
set_option maxRecDepth 20000 in
theorem gX9_finish_X9_findFirstWay : GoodIn wsX9_finish (wsV RX9 161 RX9 yX9_findFirstWay wsX9_findFirstWay) := goodIn_app (goodIn_of _ (by decide +kernel)) ggX9_finish_X9_findFirstWay
set_option maxRecDepth 20000 in
theorem ggX9_finish_X3_save : GoodIn wsX9_finish wsX3_save := goodIn_r _ [134, 135, 136, 137, 138, 139, 133, 140, 141, 67, 68, 30, 69, 39, 32, 70, 71, 181, 182, 183, 184, 177, 178, 179, 180] (by decide +kernel) (by decide +kernel)
set_option maxRecDepth 20000 in
theorem gX9_finish_X3_save : GoodIn wsX9_finish (wsV RX9 90 RX3 yX3_save wsX3_save) := goodIn_app (goodIn_of _ (by decide +kernel)) ggX9_finish_X3_save
set_option maxRecDepth 20000 in
theorem ggX9_finish_X0_countFields : GoodIn wsX9_finish wsX0_countFields := goodIn_r _ [145, 146, 147, 148, 30, 149, 32, 70, 54, 7, 55, 177, 178, 179, 180] (by decide +kernel) (by decide +kernel)
set_option maxRecDepth 20000 in
theorem gX9_finish_X0_countFields : GoodIn wsX9_finish (wsV RX9 147 RX0 yX0_countFields wsX0_countFields) := goodIn_app (goodIn_of _ (by decide +kernel)) ggX9_finish_X0_countFields
set_option maxRecDepth 20000 in
theorem ggX9_finish_X1_firstWay : GoodIn wsX9_finish wsX1_firstWay := goodIn_r _ [153, 17, 164, 165, 166, 167, 168] (by decide +kernel) (by decide +kernel)
set_option maxRecDepth 20000 in
theorem gX9_finish_X1_firstWay : GoodIn wsX9_finish (wsV RX9 164 RX1 yX1_firstWay wsX1_firstWay) := goodIn_app (goodIn_of _ (by decide +kernel)) ggX9_finish_X1_firstWay
set_option maxRecDepth 20000 in
theorem ggX9_finish_X0_copy : GoodIn wsX9_finish wsX0_copy := goodIn_r _ [69, 39, 32, 70, 71, 177, 178, 179, 180] (by decide +kernel) (by decide +kernel)
set_option maxRecDepth 20000 in
theorem gX9_finish_X0_copy : GoodIn wsX9_finish (wsV RX9 168 RX0 yX0_copy wsX0_copy) := goodIn_app (goodIn_of _ (by decide +kernel)) ggX9_finish_X0_copy
theorem dX9_finish_0 : decode cX9_finish 0 = .ok (.aload_n 0, 1) := by decide +kernel
theorem dX9_finish_1 : decode cX9_finish 1 = .ok (.aload_n 0, 1) := by decide +kernel
theorem dX9_finish_2 : decode cX9_finish 2 = .ok (.getfield 12, 3) := by decide +kernel
theorem dX9_finish_5 : decode cX9_finish 5 = .ok (.invokevirtual 161, 3) := by decide +kernel
theorem dX9_finish_8 : decode cX9_finish 8 = .ok (.aload_n 0, 1) := by decide +kernel
theorem dX9_finish_9 : decode cX9_finish 9 = .ok (.getfield 22, 3) := by decide +kernel
theorem dX9_finish_12 : decode cX9_finish 12 = .ok (.aload_n 0, 1) := by decide +kernel
theorem dX9_finish_13 : decode cX9_finish 13 = .ok (.getfield 12, 3) := by decide +kernel
theorem dX9_finish_16 : decode cX9_finish 16 = .ok (.invokevirtual 90, 3) := by decide +kernel
theorem dX9_finish_19 : decode cX9_finish 19 = .ok (.aload_n 0, 1) := by decide +kernel
theorem dX9_finish_20 : decode cX9_finish 20 = .ok (.getfield 12, 3) := by decide +kernel
theorem dX9_finish_23 : decode cX9_finish 23 = .ok (.invokevirtual 147, 3) := by decide +kernel
theorem dX9_finish_26 : decode cX9_finish 26 = .ok (.istore_n 1, 1) := by decide +kernel
theorem dX9_finish_27 : decode cX9_finish 27 = .ok (.aload_n 0, 1) := by decide +kernel
theorem dX9_finish_28 : decode cX9_finish 28 = .ok (.getfield 12, 3) := by decide +kernel
theorem dX9_finish_31 : decode cX9_finish 31 = .ok (.aload_n 0, 1) := by decide +kernel
theorem dX9_finish_32 : decode cX9_finish 32 = .ok (.getfield 66, 3) := by decide +kernel
theorem dX9_finish_35 : decode cX9_finish 35 = .ok (.invokevirtual 164, 3) := by decide +kernel
theorem dX9_finish_38 : decode cX9_finish 38 = .ok (.invokevirtual 168, 3) := by decide +kernel
theorem dX9_finish_41 : decode cX9_finish 41 = .ok (.aload_n 0, 1) := by decide +kernel
theorem dX9_finish_42 : decode cX9_finish 42 = .ok (.getfield 12, 3) := by decide +kernel
theorem dX9_finish_45 : decode cX9_finish 45 = .ok (.invokevirtual 147, 3) := by decide +kernel
theorem dX9_finish_48 : decode cX9_finish 48 = .ok (.iload_n 1, 1) := by decide +kernel
theorem dX9_finish_49 : decode cX9_finish 49 = .ok (.isub, 1) := by decide +kernel
theorem dX9_finish_50 : decode cX9_finish 50 = .ok (.ireturn, 1) := by decide +kernel
set_option maxRecDepth 20000 in
theorem ggX9_numberAt_X9_checkedCell : GoodIn wsX9_numberAt wsX9_checkedCell := goodIn_ca (goodIn_r _ [5, 6, 7, 8, 9, 4, 10] (by decide +kernel) (by decide +kernel)) (goodIn_sub (fun _ h => List.mem_cons_of_mem _ (List.mem_append_right _ h)) (by decide +kernel))
set_option maxRecDepth 20000 in
theorem gX9_numberAt_X9_checkedCell : GoodIn wsX9_numberAt (va_wsS RX9 70 yX9_checkedCell wsX9_checkedCell) := goodIn_app (goodIn_of _ (by decide +kernel)) ggX9_numberAt_X9_checkedCell
set_option maxRecDepth 20000 in
theorem ggX9_numberAt_X0_numberIn : GoodIn wsX9_numberAt wsX0_numberIn := goodIn_r _ [15, 16, 17, 4, 18, 28, 29, 30, 31] (by decide +kernel) (by decide +kernel)
set_option maxRecDepth 20000 in
theorem gX9_numberAt_X0_numberIn : GoodIn wsX9_numberAt (wsV RX9 94 RX0 yX0_numberIn wsX0_numberIn) := goodIn_app (goodIn_of _ (by decide +kernel)) ggX9_numberAt_X0_numberIn
theorem dX9_numberAt_0 : decode cX9_numberAt 0 = .ok (.aload_n 0, 1) := by decide +kernel
theorem dX9_numberAt_1 : decode cX9_numberAt 1 = .ok (.getfield 12, 3) := by decide +kernel
theorem dX9_numberAt_4 : decode cX9_numberAt 4 = .ok (.iload_n 1, 1) := by decide +kernel
theorem dX9_numberAt_5 : decode cX9_numberAt 5 = .ok (.iload_n 2, 1) := by decide +kernel
theorem dX9_numberAt_6 : decode cX9_numberAt 6 = .ok (.invokestatic 70, 3) := by decide +kernel
theorem dX9_numberAt_9 : decode cX9_numberAt 9 = .ok (.invokevirtual 94, 3) := by decide +kernel
theorem dX9_numberAt_12 : decode cX9_numberAt 12 = .ok (.ireturn, 1) := by decide +kernel
set_option maxRecDepth 20000 in
theorem ggX9_numbers_X0_cellsWithNumber : GoodIn wsX9_numbers wsX0_cellsWithNumber := goodIn_r _ [6, 7, 8, 9, 10, 27, 28, 29, 30] (by decide +kernel) (by decide +kernel)
set_option maxRecDepth 20000 in
theorem gX9_numbers_X0_cellsWithNumber : GoodIn wsX9_numbers (wsV RX9 109 RX0 yX0_cellsWithNumber wsX0_cellsWithNumber) := goodIn_app (goodIn_of _ (by decide +kernel)) ggX9_numbers_X0_cellsWithNumber
set_option maxRecDepth 20000 in
theorem ggX9_numbers_J13_bitCount_95d88 : GoodIn wsX9_numbers wsJ13_bitCount_95d88 := goodIn_r _ [14, 15, 16, 17] (by decide +kernel) (by decide +kernel)
set_option maxRecDepth 20000 in
theorem gX9_numbers_J13_bitCount_95d88 : GoodIn wsX9_numbers (va_wsS RX9 113 yJ13_bitCount_95d88 wsJ13_bitCount_95d88) := goodIn_app (goodIn_of _ (by decide +kernel)) ggX9_numbers_J13_bitCount_95d88
theorem dX9_numbers_0 : decode cX9_numbers 0 = .ok (.aload_n 0, 1) := by decide +kernel
theorem dX9_numbers_1 : decode cX9_numbers 1 = .ok (.getfield 12, 3) := by decide +kernel
theorem dX9_numbers_4 : decode cX9_numbers 4 = .ok (.invokevirtual 109, 3) := by decide +kernel
theorem dX9_numbers_7 : decode cX9_numbers 7 = .ok (.invokestatic 113, 3) := by decide +kernel
theorem dX9_numbers_10 : decode cX9_numbers 10 = .ok (.ireturn, 1) := by decide +kernel
set_option maxRecDepth 20000 in
theorem ggX9_sum_X0_sumIn : GoodIn wsX9_sum wsX0_sumIn := goodIn_r _ [7, 8, 9, 10, 11, 12, 13, 14, 24, 25, 26, 27] (by decide +kernel) (by decide +kernel)
set_option maxRecDepth 20000 in
theorem gX9_sum_X0_sumIn : GoodIn wsX9_sum (wsV RX9 231 RX0 yX0_sumIn wsX0_sumIn) := goodIn_app (goodIn_of _ (by decide +kernel)) ggX9_sum_X0_sumIn
theorem dX9_sum_0 : decode cX9_sum 0 = .ok (.aload_n 0, 1) := by decide +kernel
theorem dX9_sum_1 : decode cX9_sum 1 = .ok (.getfield 12, 3) := by decide +kernel
theorem dX9_sum_4 : decode cX9_sum 4 = .ok (.ldc2_w 229, 3) := by decide +kernel
theorem dX9_sum_7 : decode cX9_sum 7 = .ok (.invokevirtual 231, 3) := by decide +kernel
theorem dX9_sum_10 : decode cX9_sum 10 = .ok (.ireturn, 1) := by decide +kernel
set_option maxRecDepth 20000 in
theorem ggX9_isInField_X9_checkedCell : GoodIn wsX9_isInField wsX9_checkedCell := goodIn_ca (goodIn_r _ [5, 6, 7, 8, 9, 4, 10] (by decide +kernel) (by decide +kernel)) (goodIn_sub (fun _ h => List.mem_cons_of_mem _ (List.mem_append_right _ h)) (by decide +kernel))
set_option maxRecDepth 20000 in
theorem gX9_isInField_X9_checkedCell : GoodIn wsX9_isInField (va_wsS RX9 70 yX9_checkedCell wsX9_checkedCell) := goodIn_app (goodIn_of _ (by decide +kernel)) ggX9_isInField_X9_checkedCell
set_option maxRecDepth 20000 in
theorem ggX9_isInField_X0_hasField : GoodIn wsX9_isInField wsX0_hasField := goodIn_r _ [15, 16, 17, 4, 18, 28, 29, 30, 31] (by decide +kernel) (by decide +kernel)
set_option maxRecDepth 20000 in
theorem gX9_isInField_X0_hasField : GoodIn wsX9_isInField (wsV RX9 81 RX0 yX0_hasField wsX0_hasField) := goodIn_app (goodIn_of _ (by decide +kernel)) ggX9_isInField_X0_hasField
theorem dX9_isInField_0 : decode cX9_isInField 0 = .ok (.aload_n 0, 1) := by decide +kernel
theorem dX9_isInField_1 : decode cX9_isInField 1 = .ok (.getfield 12, 3) := by decide +kernel
theorem dX9_isInField_4 : decode cX9_isInField 4 = .ok (.iload_n 1, 1) := by decide +kernel
theorem dX9_isInField_5 : decode cX9_isInField 5 = .ok (.iload_n 2, 1) := by decide +kernel
theorem dX9_isInField_6 : decode cX9_isInField 6 = .ok (.invokestatic 70, 3) := by decide +kernel
theorem dX9_isInField_9 : decode cX9_isInField 9 = .ok (.invokevirtual 81, 3) := by decide +kernel
theorem dX9_isInField_12 : decode cX9_isInField 12 = .ok (.ireturn, 1) := by decide +kernel
set_option maxRecDepth 20000 in
theorem ggX9_fieldSize_X9_checkedFieldCell : GoodIn wsX9_fieldSize wsX9_checkedFieldCell := goodIn_ca (goodIn_ca (goodIn_r _ [6, 7, 8, 1, 9, 10, 5, 11, 12, 13, 14, 15, 16, 17, 18, 19, 20, 21, 22, 23, 24, 39, 40, 41, 42, 43, 44, 45, 46, 47, 48, 49, 50, 51] (by decide +kernel) (by decide +kernel)) (goodIn_sub (fun _ h => List.mem_cons_of_mem _ (List.mem_append_left _ (List.mem_append_right _ h))) (by decide +kernel))) (goodIn_sub (fun _ h => List.mem_cons_of_mem _ (List.mem_append_right _ h)) (by decide +kernel))
set_option maxRecDepth 20000 in
theorem gX9_fieldSize_X9_checkedFieldCell : GoodIn wsX9_fieldSize (wsV RX9 137 RX9 yX9_checkedFieldCell wsX9_checkedFieldCell) := goodIn_app (goodIn_of _ (by decide +kernel)) ggX9_fieldSize_X9_checkedFieldCell
set_option maxRecDepth 20000 in
theorem ggX9_fieldSize_X0_sizeOfField : GoodIn wsX9_fieldSize wsX0_sizeOfField := goodIn_r _ [28, 29, 30, 23, 5, 24, 31, 32, 33, 34, 35, 36, 37, 38, 48, 49, 50, 51] (by decide +kernel) (by decide +kernel)
set_option maxRecDepth 20000 in
theorem gX9_fieldSize_X0_sizeOfField : GoodIn wsX9_fieldSize (wsV RX9 140 RX0 yX0_sizeOfField wsX0_sizeOfField) := goodIn_app (goodIn_of _ (by decide +kernel)) ggX9_fieldSize_X0_sizeOfField
theorem dX9_fieldSize_0 : decode cX9_fieldSize 0 = .ok (.aload_n 0, 1) := by decide +kernel
theorem dX9_fieldSize_1 : decode cX9_fieldSize 1 = .ok (.getfield 12, 3) := by decide +kernel
theorem dX9_fieldSize_4 : decode cX9_fieldSize 4 = .ok (.aload_n 0, 1) := by decide +kernel
theorem dX9_fieldSize_5 : decode cX9_fieldSize 5 = .ok (.iload_n 1, 1) := by decide +kernel
theorem dX9_fieldSize_6 : decode cX9_fieldSize 6 = .ok (.iload_n 2, 1) := by decide +kernel
theorem dX9_fieldSize_7 : decode cX9_fieldSize 7 = .ok (.invokevirtual 137, 3) := by decide +kernel
theorem dX9_fieldSize_10 : decode cX9_fieldSize 10 = .ok (.invokevirtual 140, 3) := by decide +kernel
theorem dX9_fieldSize_13 : decode cX9_fieldSize 13 = .ok (.ireturn, 1) := by decide +kernel
set_option maxRecDepth 20000 in
theorem ggX9_cornerOf_X9_checkedFieldCell : GoodIn wsX9_cornerOf wsX9_checkedFieldCell := goodIn_ca (goodIn_ca (goodIn_r _ [6, 7, 8, 1, 9, 10, 5, 11, 12, 13, 14, 15, 16, 17, 18, 19, 20, 21, 22, 23, 24, 30, 31, 32, 33, 34, 35, 36, 37, 38, 39, 40, 41, 42] (by decide +kernel) (by decide +kernel)) (goodIn_sub (fun _ h => List.mem_cons_of_mem _ (List.mem_append_left _ (List.mem_append_right _ h))) (by decide +kernel))) (goodIn_sub (fun _ h => List.mem_cons_of_mem _ (List.mem_append_right _ h)) (by decide +kernel))
set_option maxRecDepth 20000 in
theorem gX9_cornerOf_X9_checkedFieldCell : GoodIn wsX9_cornerOf (wsV RX9 137 RX9 yX9_checkedFieldCell wsX9_checkedFieldCell) := goodIn_app (goodIn_of _ (by decide +kernel)) ggX9_cornerOf_X9_checkedFieldCell
set_option maxRecDepth 20000 in
theorem ggX9_cornerOf_X0_firstOfField : GoodIn wsX9_cornerOf wsX0_firstOfField := goodIn_r _ [28, 29, 23, 5, 24, 39, 40, 41, 42] (by decide +kernel) (by decide +kernel)
set_option maxRecDepth 20000 in
theorem gX9_cornerOf_X0_firstOfField : GoodIn wsX9_cornerOf (wsV RX9 234 RX0 yX0_firstOfField wsX0_firstOfField) := goodIn_app (goodIn_of _ (by decide +kernel)) ggX9_cornerOf_X0_firstOfField
theorem dX9_cornerOf_0 : decode cX9_cornerOf 0 = .ok (.aload_n 0, 1) := by decide +kernel
theorem dX9_cornerOf_1 : decode cX9_cornerOf 1 = .ok (.getfield 12, 3) := by decide +kernel
theorem dX9_cornerOf_4 : decode cX9_cornerOf 4 = .ok (.aload_n 0, 1) := by decide +kernel
theorem dX9_cornerOf_5 : decode cX9_cornerOf 5 = .ok (.iload_n 1, 1) := by decide +kernel
theorem dX9_cornerOf_6 : decode cX9_cornerOf 6 = .ok (.iload_n 2, 1) := by decide +kernel
theorem dX9_cornerOf_7 : decode cX9_cornerOf 7 = .ok (.invokevirtual 137, 3) := by decide +kernel
theorem dX9_cornerOf_10 : decode cX9_cornerOf 10 = .ok (.invokevirtual 234, 3) := by decide +kernel
theorem dX9_cornerOf_13 : decode cX9_cornerOf 13 = .ok (.ireturn, 1) := by decide +kernel
set_option maxRecDepth 20000 in
theorem ggX9_fields_X0_countFields : GoodIn wsX9_fields wsX0_countFields := goodIn_r _ [6, 7, 8, 9, 5, 10, 11, 12, 13, 14, 15, 25, 26, 27, 28] (by decide +kernel) (by decide +kernel)
set_option maxRecDepth 20000 in
theorem gX9_fields_X0_countFields : GoodIn wsX9_fields (wsV RX9 147 RX0 yX0_countFields wsX0_countFields) := goodIn_app (goodIn_of _ (by decide +kernel)) ggX9_fields_X0_countFields
theorem dX9_fields_0 : decode cX9_fields 0 = .ok (.aload_n 0, 1) := by decide +kernel
theorem dX9_fields_1 : decode cX9_fields 1 = .ok (.getfield 12, 3) := by decide +kernel
theorem dX9_fields_4 : decode cX9_fields 4 = .ok (.invokevirtual 147, 3) := by decide +kernel
theorem dX9_fields_7 : decode cX9_fields 7 = .ok (.ireturn, 1) := by decide +kernel
set_option maxRecDepth 20000 in
theorem ggX9_openCells_X9_countOpenCells : GoodIn wsX9_openCells wsX9_countOpenCells := goodIn_r _ [5, 6, 7, 8, 9, 10, 11, 12, 13, 4, 14, 15, 16, 17, 18, 19, 20, 21, 22, 23, 24, 25, 26, 27, 28, 29, 30, 31, 32, 33, 34] (by decide +kernel) (by decide +kernel)
set_option maxRecDepth 20000 in
theorem gX9_openCells_X9_countOpenCells : GoodIn wsX9_openCells (wsV RX9 237 RX9 yX9_countOpenCells wsX9_countOpenCells) := goodIn_app (goodIn_of _ (by decide +kernel)) ggX9_openCells_X9_countOpenCells
theorem dX9_openCells_0 : decode cX9_openCells 0 = .ok (.aload_n 0, 1) := by decide +kernel
theorem dX9_openCells_1 : decode cX9_openCells 1 = .ok (.invokevirtual 237, 3) := by decide +kernel
theorem dX9_openCells_4 : decode cX9_openCells 4 = .ok (.ireturn, 1) := by decide +kernel
set_option maxRecDepth 20000 in
theorem ggX9_isFull_X0_cellsInFields : GoodIn wsX9_isFull wsX0_cellsInFields := goodIn_r _ [7, 8, 9, 10, 11, 21, 22, 23, 24] (by decide +kernel) (by decide +kernel)
set_option maxRecDepth 20000 in
theorem gX9_isFull_X0_cellsInFields : GoodIn wsX9_isFull (wsV RX9 134 RX0 yX0_cellsInFields wsX0_cellsInFields) := goodIn_app (goodIn_of _ (by decide +kernel)) ggX9_isFull_X0_cellsInFields
theorem dX9_isFull_0 : decode cX9_isFull 0 = .ok (.aload_n 0, 1) := by decide +kernel
theorem dX9_isFull_1 : decode cX9_isFull 1 = .ok (.getfield 12, 3) := by decide +kernel
theorem dX9_isFull_4 : decode cX9_isFull 4 = .ok (.invokevirtual 134, 3) := by decide +kernel
theorem dX9_isFull_7 : decode cX9_isFull 7 = .ok (.ldc2_w 229, 3) := by decide +kernel
theorem dX9_isFull_10 : decode cX9_isFull 10 = .ok (.lcmp, 1) := by decide +kernel
theorem dX9_isFull_11 : decode cX9_isFull 11 = .ok (.ifCond .ne 7, 3) := by decide +kernel
theorem dX9_isFull_14 : decode cX9_isFull 14 = .ok (.iconst 1, 1) := by decide +kernel
theorem dX9_isFull_15 : decode cX9_isFull 15 = .ok (.goto 4, 3) := by decide +kernel
theorem dX9_isFull_18 : decode cX9_isFull 18 = .ok (.iconst 0, 1) := by decide +kernel
theorem dX9_isFull_19 : decode cX9_isFull 19 = .ok (.ireturn, 1) := by decide +kernel
set_option maxRecDepth 20000 in
theorem ggX9_reasonAgainst_X9_checkRectangle : GoodIn wsX9_reasonAgainst wsX9_checkRectangle := goodIn_ca (goodIn_r _ [5, 6, 7] (by decide +kernel) (by decide +kernel)) (goodIn_sub (fun _ h => List.mem_cons_of_mem _ (List.mem_append_right _ h)) (by decide +kernel))
set_option maxRecDepth 20000 in
theorem gX9_reasonAgainst_X9_checkRectangle : GoodIn wsX9_reasonAgainst (va_wsS RX9 119 yX9_checkRectangle wsX9_checkRectangle) := goodIn_app (goodIn_of _ (by decide +kernel)) ggX9_reasonAgainst_X9_checkRectangle
set_option maxRecDepth 20000 in
theorem ggX9_reasonAgainst_X9_cellAt : GoodIn wsX9_reasonAgainst wsX9_cellAt := goodIn_r _ [10] (by decide +kernel) (by decide +kernel)
set_option maxRecDepth 20000 in
theorem gX9_reasonAgainst_X9_cellAt : GoodIn wsX9_reasonAgainst (va_wsS RX9 123 yX9_cellAt wsX9_cellAt) := goodIn_app (goodIn_of _ (by decide +kernel)) ggX9_reasonAgainst_X9_cellAt
set_option maxRecDepth 20000 in
theorem ggX9_reasonAgainst_X0_reason : GoodIn wsX9_reasonAgainst wsX0_reason := goodIn_r _ [15, 16, 4, 17, 18, 19, 20, 21, 22, 23, 24, 25, 26, 14, 27, 28, 29, 30, 31, 32, 33, 34, 35, 36, 37, 38, 39, 40, 41, 42, 43, 44, 45, 46, 47, 48, 49, 50, 51, 52, 53, 54, 64, 65, 66, 67] (by decide +kernel) (by decide +kernel)
set_option maxRecDepth 20000 in
theorem gX9_reasonAgainst_X0_reason : GoodIn wsX9_reasonAgainst (wsV RX9 126 RX0 yX0_reason wsX0_reason) := goodIn_app (goodIn_of _ (by decide +kernel)) ggX9_reasonAgainst_X0_reason
theorem dX9_reasonAgainst_0 : decode cX9_reasonAgainst 0 = .ok (.iload_n 1, 1) := by decide +kernel
theorem dX9_reasonAgainst_1 : decode cX9_reasonAgainst 1 = .ok (.iload_n 2, 1) := by decide +kernel
theorem dX9_reasonAgainst_2 : decode cX9_reasonAgainst 2 = .ok (.iload_n 3, 1) := by decide +kernel
theorem dX9_reasonAgainst_3 : decode cX9_reasonAgainst 3 = .ok (.iload 4, 2) := by decide +kernel
theorem dX9_reasonAgainst_5 : decode cX9_reasonAgainst 5 = .ok (.invokestatic 119, 3) := by decide +kernel
theorem dX9_reasonAgainst_8 : decode cX9_reasonAgainst 8 = .ok (.aload_n 0, 1) := by decide +kernel
theorem dX9_reasonAgainst_9 : decode cX9_reasonAgainst 9 = .ok (.getfield 12, 3) := by decide +kernel
theorem dX9_reasonAgainst_12 : decode cX9_reasonAgainst 12 = .ok (.iload_n 1, 1) := by decide +kernel
theorem dX9_reasonAgainst_13 : decode cX9_reasonAgainst 13 = .ok (.iload_n 2, 1) := by decide +kernel
theorem dX9_reasonAgainst_14 : decode cX9_reasonAgainst 14 = .ok (.invokestatic 123, 3) := by decide +kernel
theorem dX9_reasonAgainst_17 : decode cX9_reasonAgainst 17 = .ok (.iload_n 3, 1) := by decide +kernel
theorem dX9_reasonAgainst_18 : decode cX9_reasonAgainst 18 = .ok (.iload 4, 2) := by decide +kernel
theorem dX9_reasonAgainst_20 : decode cX9_reasonAgainst 20 = .ok (.invokestatic 123, 3) := by decide +kernel
theorem dX9_reasonAgainst_23 : decode cX9_reasonAgainst 23 = .ok (.invokevirtual 126, 3) := by decide +kernel
theorem dX9_reasonAgainst_26 : decode cX9_reasonAgainst 26 = .ok (.ireturn, 1) := by decide +kernel
set_option maxRecDepth 20000 in
theorem ggX9_possibleFor_X9_checkedCell : GoodIn wsX9_possibleFor wsX9_checkedCell := goodIn_ca (goodIn_r _ [6, 7, 8, 9, 10, 5, 11] (by decide +kernel) (by decide +kernel)) (goodIn_sub (fun _ h => List.mem_cons_of_mem _ (List.mem_append_right _ h)) (by decide +kernel))
set_option maxRecDepth 20000 in
theorem gX9_possibleFor_X9_checkedCell : GoodIn wsX9_possibleFor (va_wsS RX9 70 yX9_checkedCell wsX9_checkedCell) := goodIn_app (goodIn_of _ (by decide +kernel)) ggX9_possibleFor_X9_checkedCell
set_option maxRecDepth 20000 in
theorem ggX9_possibleFor_X7_find : GoodIn wsX9_possibleFor wsX7_find := goodIn_r _ [16, 17, 18, 19, 20, 21, 22, 23, 24, 25, 5, 26, 27, 28, 29, 30, 31, 32, 33, 34, 35, 36, 37, 38, 39, 40, 41, 42, 43, 44, 45, 46, 47, 48, 49, 50, 15, 51, 52, 53, 54, 55, 56, 57, 75, 76, 77, 78, 79, 80, 81, 82, 83, 84, 85, 86] (by decide +kernel) (by decide +kernel)
set_option maxRecDepth 20000 in
theorem gX9_possibleFor_X7_find : GoodIn wsX9_possibleFor (wsV RX9 240 RX7 yX7_find wsX7_find) := goodIn_app (goodIn_of _ (by decide +kernel)) ggX9_possibleFor_X7_find
set_option maxRecDepth 20000 in
theorem ggX9_possibleFor_X7_countOf : GoodIn wsX9_possibleFor wsX7_countOf := goodIn_r _ [61, 17, 62, 63, 64, 15, 65, 57, 75, 76, 77, 78, 79, 80, 81, 82] (by decide +kernel) (by decide +kernel)
set_option maxRecDepth 20000 in
theorem gX9_possibleFor_X7_countOf : GoodIn wsX9_possibleFor (wsV RX9 243 RX7 yX7_countOf wsX7_countOf) := goodIn_app (goodIn_of _ (by decide +kernel)) ggX9_possibleFor_X7_countOf
theorem dX9_possibleFor_0 : decode cX9_possibleFor 0 = .ok (.iload_n 1, 1) := by decide +kernel
theorem dX9_possibleFor_1 : decode cX9_possibleFor 1 = .ok (.iload_n 2, 1) := by decide +kernel
theorem dX9_possibleFor_2 : decode cX9_possibleFor 2 = .ok (.invokestatic 70, 3) := by decide +kernel
theorem dX9_possibleFor_5 : decode cX9_possibleFor 5 = .ok (.istore_n 3, 1) := by decide +kernel
theorem dX9_possibleFor_6 : decode cX9_possibleFor 6 = .ok (.aload_n 0, 1) := by decide +kernel
theorem dX9_possibleFor_7 : decode cX9_possibleFor 7 = .ok (.getfield 43, 3) := by decide +kernel
theorem dX9_possibleFor_10 : decode cX9_possibleFor 10 = .ok (.aload_n 0, 1) := by decide +kernel
theorem dX9_possibleFor_11 : decode cX9_possibleFor 11 = .ok (.getfield 12, 3) := by decide +kernel
theorem dX9_possibleFor_14 : decode cX9_possibleFor 14 = .ok (.invokevirtual 240, 3) := by decide +kernel
theorem dX9_possibleFor_17 : decode cX9_possibleFor 17 = .ok (.aload_n 0, 1) := by decide +kernel
theorem dX9_possibleFor_18 : decode cX9_possibleFor 18 = .ok (.getfield 43, 3) := by decide +kernel
theorem dX9_possibleFor_21 : decode cX9_possibleFor 21 = .ok (.iload_n 3, 1) := by decide +kernel
theorem dX9_possibleFor_22 : decode cX9_possibleFor 22 = .ok (.invokevirtual 243, 3) := by decide +kernel
theorem dX9_possibleFor_25 : decode cX9_possibleFor 25 = .ok (.ireturn, 1) := by decide +kernel
set_option maxRecDepth 20000 in
theorem ggX9_possibleAt_X9_checkedCell : GoodIn wsX9_possibleAt wsX9_checkedCell := goodIn_ca (goodIn_r _ [8, 1, 2, 9, 10, 7, 11] (by decide +kernel) (by decide +kernel)) (goodIn_sub (fun _ h => List.mem_cons_of_mem _ (List.mem_append_right _ h)) (by decide +kernel))
set_option maxRecDepth 20000 in
theorem gX9_possibleAt_X9_checkedCell : GoodIn wsX9_possibleAt (va_wsS RX9 70 yX9_checkedCell wsX9_checkedCell) := goodIn_app (goodIn_of _ (by decide +kernel)) ggX9_possibleAt_X9_checkedCell
set_option maxRecDepth 20000 in
theorem ggX9_possibleAt_X7_find : GoodIn wsX9_possibleAt wsX7_find := goodIn_r _ [16, 17, 18, 19, 20, 21, 22, 23, 24, 25, 7, 26, 27, 28, 29, 30, 31, 32, 33, 34, 35, 36, 37, 38, 39, 40, 41, 42, 43, 44, 45, 46, 47, 48, 49, 50, 15, 51, 52, 53, 54, 55, 56, 57, 91, 92, 93, 94, 95, 96, 97, 98, 99, 100, 101, 102] (by decide +kernel) (by decide +kernel)
set_option maxRecDepth 20000 in
theorem gX9_possibleAt_X7_find : GoodIn wsX9_possibleAt (wsV RX9 240 RX7 yX7_find wsX7_find) := goodIn_app (goodIn_of _ (by decide +kernel)) ggX9_possibleAt_X7_find
set_option maxRecDepth 20000 in
theorem ggX9_possibleAt_X7_countOf : GoodIn wsX9_possibleAt wsX7_countOf := goodIn_r _ [61, 17, 62, 63, 64, 15, 65, 57, 91, 92, 93, 94, 95, 96, 97, 98] (by decide +kernel) (by decide +kernel)
set_option maxRecDepth 20000 in
theorem gX9_possibleAt_X7_countOf : GoodIn wsX9_possibleAt (wsV RX9 243 RX7 yX7_countOf wsX7_countOf) := goodIn_app (goodIn_of _ (by decide +kernel)) ggX9_possibleAt_X7_countOf
set_option maxRecDepth 20000 in
theorem ggX9_possibleAt_X7_indexOf : GoodIn wsX9_possibleAt wsX7_indexOf := goodIn_r _ [69, 17, 62, 63, 64, 15, 65, 57, 91, 92, 93, 94, 95, 96, 97, 98] (by decide +kernel) (by decide +kernel)
set_option maxRecDepth 20000 in
theorem gX9_possibleAt_X7_indexOf : GoodIn wsX9_possibleAt (wsV RX9 248 RX7 yX7_indexOf wsX7_indexOf) := goodIn_app (goodIn_of _ (by decide +kernel)) ggX9_possibleAt_X7_indexOf
set_option maxRecDepth 20000 in
theorem ggX9_possibleAt_X7_bothEnds : GoodIn wsX9_possibleAt wsX7_bothEnds := goodIn_r _ [73, 74, 75, 76, 15, 77, 17, 52, 78, 79, 80, 81, 54, 91, 92, 93, 94, 95, 96, 97, 98] (by decide +kernel) (by decide +kernel)
set_option maxRecDepth 20000 in
theorem gX9_possibleAt_X7_bothEnds : GoodIn wsX9_possibleAt (wsV RX9 251 RX7 yX7_bothEnds wsX7_bothEnds) := goodIn_app (goodIn_of _ (by decide +kernel)) ggX9_possibleAt_X7_bothEnds
theorem dX9_possibleAt_0 : decode cX9_possibleAt 0 = .ok (.iload_n 1, 1) := by decide +kernel
theorem dX9_possibleAt_1 : decode cX9_possibleAt 1 = .ok (.iload_n 2, 1) := by decide +kernel
theorem dX9_possibleAt_2 : decode cX9_possibleAt 2 = .ok (.invokestatic 70, 3) := by decide +kernel
theorem dX9_possibleAt_5 : decode cX9_possibleAt 5 = .ok (.istore 4, 2) := by decide +kernel
theorem dX9_possibleAt_7 : decode cX9_possibleAt 7 = .ok (.aload_n 0, 1) := by decide +kernel
theorem dX9_possibleAt_8 : decode cX9_possibleAt 8 = .ok (.getfield 43, 3) := by decide +kernel
theorem dX9_possibleAt_11 : decode cX9_possibleAt 11 = .ok (.aload_n 0, 1) := by decide +kernel
theorem dX9_possibleAt_12 : decode cX9_possibleAt 12 = .ok (.getfield 12, 3) := by decide +kernel
theorem dX9_possibleAt_15 : decode cX9_possibleAt 15 = .ok (.invokevirtual 240, 3) := by decide +kernel
theorem dX9_possibleAt_18 : decode cX9_possibleAt 18 = .ok (.iload_n 3, 1) := by decide +kernel
theorem dX9_possibleAt_19 : decode cX9_possibleAt 19 = .ok (.ifCond .lt 16, 3) := by decide +kernel
theorem dX9_possibleAt_22 : decode cX9_possibleAt 22 = .ok (.iload_n 3, 1) := by decide +kernel
theorem dX9_possibleAt_23 : decode cX9_possibleAt 23 = .ok (.aload_n 0, 1) := by decide +kernel
theorem dX9_possibleAt_24 : decode cX9_possibleAt 24 = .ok (.getfield 43, 3) := by decide +kernel
theorem dX9_possibleAt_27 : decode cX9_possibleAt 27 = .ok (.iload 4, 2) := by decide +kernel
theorem dX9_possibleAt_29 : decode cX9_possibleAt 29 = .ok (.invokevirtual 243, 3) := by decide +kernel
theorem dX9_possibleAt_32 : decode cX9_possibleAt 32 = .ok (.if_icmp .lt 13, 3) := by decide +kernel
theorem dX9_possibleAt_35 : decode cX9_possibleAt 35 = .ok (.new 187, 3) := by decide +kernel
theorem dX9_possibleAt_38 : decode cX9_possibleAt 38 = .ok (.dup, 1) := by decide +kernel
theorem dX9_possibleAt_39 : decode cX9_possibleAt 39 = .ok (.ldc 246, 2) := by decide +kernel
theorem dX9_possibleAt_41 : decode cX9_possibleAt 41 = .ok (.invokespecial 191, 3) := by decide +kernel
theorem dX9_possibleAt_44 : decode cX9_possibleAt 44 = .ok (.athrow, 1) := by decide +kernel
theorem dX9_possibleAt_45 : decode cX9_possibleAt 45 = .ok (.aload_n 0, 1) := by decide +kernel
theorem dX9_possibleAt_46 : decode cX9_possibleAt 46 = .ok (.getfield 43, 3) := by decide +kernel
theorem dX9_possibleAt_49 : decode cX9_possibleAt 49 = .ok (.aload_n 0, 1) := by decide +kernel
theorem dX9_possibleAt_50 : decode cX9_possibleAt 50 = .ok (.getfield 43, 3) := by decide +kernel
theorem dX9_possibleAt_53 : decode cX9_possibleAt 53 = .ok (.iload 4, 2) := by decide +kernel
theorem dX9_possibleAt_55 : decode cX9_possibleAt 55 = .ok (.iload_n 3, 1) := by decide +kernel
theorem dX9_possibleAt_56 : decode cX9_possibleAt 56 = .ok (.invokevirtual 248, 3) := by decide +kernel
theorem dX9_possibleAt_59 : decode cX9_possibleAt 59 = .ok (.invokevirtual 251, 3) := by decide +kernel
theorem dX9_possibleAt_62 : decode cX9_possibleAt 62 = .ok (.ireturn, 1) := by decide +kernel
set_option maxRecDepth 20000 in
theorem ggX9_coveredBy_X9_checkedCell : GoodIn wsX9_coveredBy wsX9_checkedCell := goodIn_ca (goodIn_r _ [6, 7, 8, 9, 10, 5, 11] (by decide +kernel) (by decide +kernel)) (goodIn_sub (fun _ h => List.mem_cons_of_mem _ (List.mem_append_right _ h)) (by decide +kernel))
set_option maxRecDepth 20000 in
theorem gX9_coveredBy_X9_checkedCell : GoodIn wsX9_coveredBy (va_wsS RX9 70 yX9_checkedCell wsX9_checkedCell) := goodIn_app (goodIn_of _ (by decide +kernel)) ggX9_coveredBy_X9_checkedCell
set_option maxRecDepth 20000 in
theorem ggX9_coveredBy_X7_find : GoodIn wsX9_coveredBy wsX7_find := goodIn_r _ [16, 17, 18, 19, 20, 21, 22, 23, 24, 25, 5, 26, 27, 28, 29, 30, 31, 32, 33, 34, 35, 36, 37, 38, 39, 40, 41, 42, 43, 44, 45, 46, 47, 48, 49, 50, 15, 51, 52, 53, 54, 55, 56, 57, 78, 79, 80, 81, 82, 83, 84, 85, 86, 87, 88, 89] (by decide +kernel) (by decide +kernel)
set_option maxRecDepth 20000 in
theorem gX9_coveredBy_X7_find : GoodIn wsX9_coveredBy (wsV RX9 240 RX7 yX7_find wsX7_find) := goodIn_app (goodIn_of _ (by decide +kernel)) ggX9_coveredBy_X7_find
set_option maxRecDepth 20000 in
theorem ggX9_coveredBy_X7_countOver : GoodIn wsX9_coveredBy wsX7_countOver := goodIn_r _ [61, 17, 62, 63, 64, 15, 65, 56, 66, 5, 67, 68, 25, 26, 78, 79, 80, 81, 82, 83, 84, 85] (by decide +kernel) (by decide +kernel)
set_option maxRecDepth 20000 in
theorem gX9_coveredBy_X7_countOver : GoodIn wsX9_coveredBy (wsV RX9 254 RX7 yX7_countOver wsX7_countOver) := goodIn_app (goodIn_of _ (by decide +kernel)) ggX9_coveredBy_X7_countOver
theorem dX9_coveredBy_0 : decode cX9_coveredBy 0 = .ok (.iload_n 1, 1) := by decide +kernel
theorem dX9_coveredBy_1 : decode cX9_coveredBy 1 = .ok (.iload_n 2, 1) := by decide +kernel
theorem dX9_coveredBy_2 : decode cX9_coveredBy 2 = .ok (.invokestatic 70, 3) := by decide +kernel
theorem dX9_coveredBy_5 : decode cX9_coveredBy 5 = .ok (.istore_n 3, 1) := by decide +kernel
theorem dX9_coveredBy_6 : decode cX9_coveredBy 6 = .ok (.aload_n 0, 1) := by decide +kernel
theorem dX9_coveredBy_7 : decode cX9_coveredBy 7 = .ok (.getfield 43, 3) := by decide +kernel
theorem dX9_coveredBy_10 : decode cX9_coveredBy 10 = .ok (.aload_n 0, 1) := by decide +kernel
theorem dX9_coveredBy_11 : decode cX9_coveredBy 11 = .ok (.getfield 12, 3) := by decide +kernel
theorem dX9_coveredBy_14 : decode cX9_coveredBy 14 = .ok (.invokevirtual 240, 3) := by decide +kernel
theorem dX9_coveredBy_17 : decode cX9_coveredBy 17 = .ok (.aload_n 0, 1) := by decide +kernel
theorem dX9_coveredBy_18 : decode cX9_coveredBy 18 = .ok (.getfield 43, 3) := by decide +kernel
theorem dX9_coveredBy_21 : decode cX9_coveredBy 21 = .ok (.iload_n 3, 1) := by decide +kernel
theorem dX9_coveredBy_22 : decode cX9_coveredBy 22 = .ok (.invokevirtual 254, 3) := by decide +kernel
theorem dX9_coveredBy_25 : decode cX9_coveredBy 25 = .ok (.ireturn, 1) := by decide +kernel
set_option maxRecDepth 20000 in
theorem ggX9_claimedBy_X9_checkedCell : GoodIn wsX9_claimedBy wsX9_checkedCell := goodIn_ca (goodIn_r _ [6, 7, 8, 9, 10, 5, 11] (by decide +kernel) (by decide +kernel)) (goodIn_sub (fun _ h => List.mem_cons_of_mem _ (List.mem_append_right _ h)) (by decide +kernel))
set_option maxRecDepth 20000 in
theorem gX9_claimedBy_X9_checkedCell : GoodIn wsX9_claimedBy (va_wsS RX9 70 yX9_checkedCell wsX9_checkedCell) := goodIn_app (goodIn_of _ (by decide +kernel)) ggX9_claimedBy_X9_checkedCell
set_option maxRecDepth 20000 in
theorem ggX9_claimedBy_X7_find : GoodIn wsX9_claimedBy wsX7_find := goodIn_r _ [16, 17, 18, 19, 20, 21, 22, 23, 24, 25, 5, 26, 27, 28, 29, 30, 31, 32, 33, 34, 35, 36, 37, 38, 39, 40, 41, 42, 43, 44, 45, 46, 47, 48, 49, 50, 15, 51, 52, 53, 54, 55, 56, 57, 82, 83, 84, 85, 86, 87, 88, 89, 90, 91, 92, 93] (by decide +kernel) (by decide +kernel)
set_option maxRecDepth 20000 in
theorem gX9_claimedBy_X7_find : GoodIn wsX9_claimedBy (wsV RX9 240 RX7 yX7_find wsX7_find) := goodIn_app (goodIn_of _ (by decide +kernel)) ggX9_claimedBy_X7_find
set_option maxRecDepth 20000 in
theorem ggX9_claimedBy_X7_countOwnersOver : GoodIn wsX9_claimedBy wsX7_countOwnersOver := goodIn_r _ [61, 17, 62, 63, 64, 15, 65, 56, 66, 5, 67, 68, 25, 26, 69, 70, 71, 72, 57, 32, 33, 34, 35, 36, 37, 38, 82, 83, 84, 85, 86, 87, 88, 89] (by decide +kernel) (by decide +kernel)
set_option maxRecDepth 20000 in
theorem gX9_claimedBy_X7_countOwnersOver : GoodIn wsX9_claimedBy (wsV RX9 257 RX7 yX7_countOwnersOver wsX7_countOwnersOver) := goodIn_app (goodIn_of _ (by decide +kernel)) ggX9_claimedBy_X7_countOwnersOver
theorem dX9_claimedBy_0 : decode cX9_claimedBy 0 = .ok (.iload_n 1, 1) := by decide +kernel
theorem dX9_claimedBy_1 : decode cX9_claimedBy 1 = .ok (.iload_n 2, 1) := by decide +kernel
theorem dX9_claimedBy_2 : decode cX9_claimedBy 2 = .ok (.invokestatic 70, 3) := by decide +kernel
theorem dX9_claimedBy_5 : decode cX9_claimedBy 5 = .ok (.istore_n 3, 1) := by decide +kernel
theorem dX9_claimedBy_6 : decode cX9_claimedBy 6 = .ok (.aload_n 0, 1) := by decide +kernel
theorem dX9_claimedBy_7 : decode cX9_claimedBy 7 = .ok (.getfield 43, 3) := by decide +kernel
theorem dX9_claimedBy_10 : decode cX9_claimedBy 10 = .ok (.aload_n 0, 1) := by decide +kernel
theorem dX9_claimedBy_11 : decode cX9_claimedBy 11 = .ok (.getfield 12, 3) := by decide +kernel
theorem dX9_claimedBy_14 : decode cX9_claimedBy 14 = .ok (.invokevirtual 240, 3) := by decide +kernel
theorem dX9_claimedBy_17 : decode cX9_claimedBy 17 = .ok (.aload_n 0, 1) := by decide +kernel
theorem dX9_claimedBy_18 : decode cX9_claimedBy 18 = .ok (.getfield 43, 3) := by decide +kernel
theorem dX9_claimedBy_21 : decode cX9_claimedBy 21 = .ok (.iload_n 3, 1) := by decide +kernel
theorem dX9_claimedBy_22 : decode cX9_claimedBy 22 = .ok (.invokevirtual 257, 3) := by decide +kernel
theorem dX9_claimedBy_25 : decode cX9_claimedBy 25 = .ok (.ireturn, 1) := by decide +kernel
set_option maxRecDepth 20000 in
theorem ggX9_possible_X7_find : GoodIn wsX9_possible wsX7_find := goodIn_r _ [7, 8, 9, 10, 11, 12, 13, 14, 15, 16, 17, 18, 19, 20, 21, 22, 23, 24, 25, 26, 27, 28, 29, 30, 31, 32, 33, 34, 35, 36, 37, 38, 39, 40, 41, 42, 6, 43, 44, 45, 46, 47, 48, 49, 63, 64, 65, 66, 67, 68, 69, 70, 71, 72, 73, 74] (by decide +kernel) (by decide +kernel)
set_option maxRecDepth 20000 in
theorem gX9_possible_X7_find : GoodIn wsX9_possible (wsV RX9 240 RX7 yX7_find wsX7_find) := goodIn_app (goodIn_of _ (by decide +kernel)) ggX9_possible_X7_find
set_option maxRecDepth 20000 in
theorem ggX9_possible_X7_size : GoodIn wsX9_possible wsX7_size := goodIn_r _ [53, 8, 63, 64, 65, 66, 67, 68, 69, 70] (by decide +kernel) (by decide +kernel)
set_option maxRecDepth 20000 in
theorem gX9_possible_X7_size : GoodIn wsX9_possible (wsV RX9 260 RX7 yX7_size wsX7_size) := goodIn_app (goodIn_of _ (by decide +kernel)) ggX9_possible_X7_size
theorem dX9_possible_0 : decode cX9_possible 0 = .ok (.aload_n 0, 1) := by decide +kernel
theorem dX9_possible_1 : decode cX9_possible 1 = .ok (.getfield 43, 3) := by decide +kernel
theorem dX9_possible_4 : decode cX9_possible 4 = .ok (.aload_n 0, 1) := by decide +kernel
theorem dX9_possible_5 : decode cX9_possible 5 = .ok (.getfield 12, 3) := by decide +kernel
theorem dX9_possible_8 : decode cX9_possible 8 = .ok (.invokevirtual 240, 3) := by decide +kernel
theorem dX9_possible_11 : decode cX9_possible 11 = .ok (.aload_n 0, 1) := by decide +kernel
theorem dX9_possible_12 : decode cX9_possible 12 = .ok (.getfield 43, 3) := by decide +kernel
theorem dX9_possible_15 : decode cX9_possible 15 = .ok (.invokevirtual 260, 3) := by decide +kernel
theorem dX9_possible_18 : decode cX9_possible 18 = .ok (.ireturn, 1) := by decide +kernel
set_option maxRecDepth 20000 in
theorem ggX9_rounds_X8_run : GoodIn wsX9_rounds wsX8_run := goodIn_r _ [7, 8, 9, 10, 11, 12, 13, 14, 15, 16, 17, 18, 19, 20, 21, 22, 23, 24, 25, 26, 27, 28, 29, 30, 31, 32, 33, 34, 35, 36, 37, 38, 39, 40, 41, 42, 43, 44, 45, 46, 47, 48, 49, 50, 51, 52, 53, 54, 55, 56, 57, 58, 59, 60, 61, 62, 63, 64, 65, 66, 67, 68, 69, 70, 71, 72, 73, 74, 75, 76, 6, 77, 78, 79, 80, 81, 82, 83, 84, 85, 86, 87, 88, 89, 90, 91, 92, 93, 94, 95, 96, 97, 111, 112, 113, 114, 115, 116, 117, 118, 119, 120, 121, 122, 123, 124, 125, 126, 127, 128, 129] (by decide +kernel) (by decide +kernel)
set_option maxRecDepth 20000 in
theorem gX9_rounds_X8_run : GoodIn wsX9_rounds (wsV RX9 263 RX8 yX8_run wsX8_run) := goodIn_app (goodIn_of _ (by decide +kernel)) ggX9_rounds_X8_run
set_option maxRecDepth 20000 in
theorem ggX9_rounds_X8_countRounds : GoodIn wsX9_rounds wsX8_countRounds := goodIn_r _ [101, 14, 111, 112, 113, 114, 115, 116, 117] (by decide +kernel) (by decide +kernel)
set_option maxRecDepth 20000 in
theorem gX9_rounds_X8_countRounds : GoodIn wsX9_rounds (wsV RX9 266 RX8 yX8_countRounds wsX8_countRounds) := goodIn_app (goodIn_of _ (by decide +kernel)) ggX9_rounds_X8_countRounds
theorem dX9_rounds_0 : decode cX9_rounds 0 = .ok (.aload_n 0, 1) := by decide +kernel
theorem dX9_rounds_1 : decode cX9_rounds 1 = .ok (.getfield 52, 3) := by decide +kernel
theorem dX9_rounds_4 : decode cX9_rounds 4 = .ok (.aload_n 0, 1) := by decide +kernel
theorem dX9_rounds_5 : decode cX9_rounds 5 = .ok (.getfield 12, 3) := by decide +kernel
theorem dX9_rounds_8 : decode cX9_rounds 8 = .ok (.invokevirtual 263, 3) := by decide +kernel
theorem dX9_rounds_11 : decode cX9_rounds 11 = .ok (.aload_n 0, 1) := by decide +kernel
theorem dX9_rounds_12 : decode cX9_rounds 12 = .ok (.getfield 52, 3) := by decide +kernel
theorem dX9_rounds_15 : decode cX9_rounds 15 = .ok (.invokevirtual 266, 3) := by decide +kernel
theorem dX9_rounds_18 : decode cX9_rounds 18 = .ok (.ireturn, 1) := by decide +kernel
set_option maxRecDepth 20000 in
theorem ggX9_leftInTheEnd_X8_run : GoodIn wsX9_leftInTheEnd wsX8_run := goodIn_r _ [7, 8, 9, 10, 11, 12, 13, 14, 15, 16, 17, 18, 19, 20, 21, 22, 23, 24, 25, 26, 27, 28, 29, 30, 31, 32, 33, 34, 35, 36, 37, 38, 39, 40, 41, 42, 43, 44, 45, 46, 47, 48, 49, 50, 51, 52, 53, 54, 55, 56, 57, 58, 59, 60, 61, 62, 63, 64, 65, 66, 67, 68, 69, 70, 71, 72, 73, 74, 75, 76, 6, 77, 78, 79, 80, 81, 82, 83, 84, 85, 86, 87, 88, 89, 90, 91, 92, 93, 94, 95, 96, 97, 111, 112, 113, 114, 115, 116, 117, 118, 119, 120, 121, 122, 123, 124, 125, 126, 127, 128, 129] (by decide +kernel) (by decide +kernel)
set_option maxRecDepth 20000 in
theorem gX9_leftInTheEnd_X8_run : GoodIn wsX9_leftInTheEnd (wsV RX9 263 RX8 yX8_run wsX8_run) := goodIn_app (goodIn_of _ (by decide +kernel)) ggX9_leftInTheEnd_X8_run
set_option maxRecDepth 20000 in
theorem ggX9_leftInTheEnd_X8_countLeft : GoodIn wsX9_leftInTheEnd wsX8_countLeft := goodIn_r _ [101, 13, 111, 112, 113, 114, 115, 116, 117] (by decide +kernel) (by decide +kernel)
set_option maxRecDepth 20000 in
theorem gX9_leftInTheEnd_X8_countLeft : GoodIn wsX9_leftInTheEnd (wsV RX9 269 RX8 yX8_countLeft wsX8_countLeft) := goodIn_app (goodIn_of _ (by decide +kernel)) ggX9_leftInTheEnd_X8_countLeft
theorem dX9_leftInTheEnd_0 : decode cX9_leftInTheEnd 0 = .ok (.aload_n 0, 1) := by decide +kernel
theorem dX9_leftInTheEnd_1 : decode cX9_leftInTheEnd 1 = .ok (.getfield 52, 3) := by decide +kernel
theorem dX9_leftInTheEnd_4 : decode cX9_leftInTheEnd 4 = .ok (.aload_n 0, 1) := by decide +kernel
theorem dX9_leftInTheEnd_5 : decode cX9_leftInTheEnd 5 = .ok (.getfield 12, 3) := by decide +kernel
theorem dX9_leftInTheEnd_8 : decode cX9_leftInTheEnd 8 = .ok (.invokevirtual 263, 3) := by decide +kernel
theorem dX9_leftInTheEnd_11 : decode cX9_leftInTheEnd 11 = .ok (.aload_n 0, 1) := by decide +kernel
theorem dX9_leftInTheEnd_12 : decode cX9_leftInTheEnd 12 = .ok (.getfield 52, 3) := by decide +kernel
theorem dX9_leftInTheEnd_15 : decode cX9_leftInTheEnd 15 = .ok (.invokevirtual 269, 3) := by decide +kernel
theorem dX9_leftInTheEnd_18 : decode cX9_leftInTheEnd 18 = .ok (.ireturn, 1) := by decide +kernel
set_option maxRecDepth 20000 in
theorem ggX9_leftFor_X9_checkedCell : GoodIn wsX9_leftFor wsX9_checkedCell := goodIn_ca (goodIn_r _ [6, 7, 8, 9, 10, 5, 11] (by decide +kernel) (by decide +kernel)) (goodIn_sub (fun _ h => List.mem_cons_of_mem _ (List.mem_append_right _ h)) (by decide +kernel))
set_option maxRecDepth 20000 in
theorem gX9_leftFor_X9_checkedCell : GoodIn wsX9_leftFor (va_wsS RX9 70 yX9_checkedCell wsX9_checkedCell) := goodIn_app (goodIn_of _ (by decide +kernel)) ggX9_leftFor_X9_checkedCell
set_option maxRecDepth 20000 in
theorem ggX9_leftFor_X8_run : GoodIn wsX9_leftFor wsX8_run := goodIn_r _ [16, 17, 18, 19, 20, 21, 22, 23, 24, 25, 26, 27, 28, 29, 30, 31, 32, 33, 34, 35, 36, 37, 5, 38, 39, 40, 41, 42, 43, 44, 45, 46, 47, 48, 49, 50, 51, 52, 53, 54, 55, 56, 57, 58, 59, 60, 61, 62, 63, 64, 65, 66, 67, 68, 69, 70, 71, 72, 73, 74, 75, 76, 77, 78, 79, 80, 81, 82, 83, 84, 15, 85, 86, 87, 88, 89, 90, 91, 92, 93, 94, 95, 96, 97, 98, 99, 100, 101, 102, 103, 104, 105, 119, 120, 121, 122, 123, 124, 125, 126, 127, 128, 129, 130, 131, 132, 133, 134, 135, 136, 137] (by decide +kernel) (by decide +kernel)
set_option maxRecDepth 20000 in
theorem gX9_leftFor_X8_run : GoodIn wsX9_leftFor (wsV RX9 263 RX8 yX8_run wsX8_run) := goodIn_app (goodIn_of _ (by decide +kernel)) ggX9_leftFor_X8_run
set_option maxRecDepth 20000 in
theorem ggX9_leftFor_X8_countLeftOf : GoodIn wsX9_leftFor wsX8_countLeftOf := goodIn_r _ [109, 22, 17, 92, 93, 94, 27, 95, 29, 69, 119, 120, 121, 122, 123, 124, 125, 126, 127, 128, 129, 130, 131, 132, 133] (by decide +kernel) (by decide +kernel)
set_option maxRecDepth 20000 in
theorem gX9_leftFor_X8_countLeftOf : GoodIn wsX9_leftFor (wsV RX9 272 RX8 yX8_countLeftOf wsX8_countLeftOf) := goodIn_app (goodIn_of _ (by decide +kernel)) ggX9_leftFor_X8_countLeftOf
theorem dX9_leftFor_0 : decode cX9_leftFor 0 = .ok (.iload_n 1, 1) := by decide +kernel
theorem dX9_leftFor_1 : decode cX9_leftFor 1 = .ok (.iload_n 2, 1) := by decide +kernel
theorem dX9_leftFor_2 : decode cX9_leftFor 2 = .ok (.invokestatic 70, 3) := by decide +kernel
theorem dX9_leftFor_5 : decode cX9_leftFor 5 = .ok (.istore_n 3, 1) := by decide +kernel
theorem dX9_leftFor_6 : decode cX9_leftFor 6 = .ok (.aload_n 0, 1) := by decide +kernel
theorem dX9_leftFor_7 : decode cX9_leftFor 7 = .ok (.getfield 52, 3) := by decide +kernel
theorem dX9_leftFor_10 : decode cX9_leftFor 10 = .ok (.aload_n 0, 1) := by decide +kernel
theorem dX9_leftFor_11 : decode cX9_leftFor 11 = .ok (.getfield 12, 3) := by decide +kernel
theorem dX9_leftFor_14 : decode cX9_leftFor 14 = .ok (.invokevirtual 263, 3) := by decide +kernel
theorem dX9_leftFor_17 : decode cX9_leftFor 17 = .ok (.aload_n 0, 1) := by decide +kernel
theorem dX9_leftFor_18 : decode cX9_leftFor 18 = .ok (.getfield 52, 3) := by decide +kernel
theorem dX9_leftFor_21 : decode cX9_leftFor 21 = .ok (.iload_n 3, 1) := by decide +kernel
theorem dX9_leftFor_22 : decode cX9_leftFor 22 = .ok (.invokevirtual 272, 3) := by decide +kernel
theorem dX9_leftFor_25 : decode cX9_leftFor 25 = .ok (.ireturn, 1) := by decide +kernel
set_option maxRecDepth 20000 in
theorem ggX9_isContradiction_X8_run : GoodIn wsX9_isContradiction wsX8_run := goodIn_r _ [7, 8, 9, 10, 11, 12, 13, 14, 15, 16, 17, 18, 19, 20, 21, 22, 23, 24, 25, 26, 27, 28, 29, 30, 31, 32, 33, 34, 35, 36, 37, 38, 39, 40, 41, 42, 43, 44, 45, 46, 47, 48, 49, 50, 51, 52, 53, 54, 55, 56, 57, 58, 59, 60, 61, 62, 63, 64, 65, 66, 67, 68, 69, 70, 71, 72, 73, 74, 75, 76, 6, 77, 78, 79, 80, 81, 82, 83, 84, 85, 86, 87, 88, 89, 90, 91, 92, 93, 94, 95, 96, 97, 114, 115, 116, 117, 118, 119, 120, 121, 122, 123, 124, 125, 126, 127, 128, 129, 130, 131, 132] (by decide +kernel) (by decide +kernel)
set_option maxRecDepth 20000 in
theorem gX9_isContradiction_X8_run : GoodIn wsX9_isContradiction (wsV RX9 263 RX8 yX8_run wsX8_run) := goodIn_app (goodIn_of _ (by decide +kernel)) ggX9_isContradiction_X8_run
set_option maxRecDepth 20000 in
theorem ggX9_isContradiction_X8_endsInContradiction : GoodIn wsX9_isContradiction wsX8_endsInContradiction := goodIn_r _ [101, 12, 78, 11, 102, 29, 103, 104, 28, 30, 95, 96, 6, 97, 114, 115, 116, 117, 118, 119, 120] (by decide +kernel) (by decide +kernel)
set_option maxRecDepth 20000 in
theorem gX9_isContradiction_X8_endsInContradiction : GoodIn wsX9_isContradiction (wsV RX9 275 RX8 yX8_endsInContradiction wsX8_endsInContradiction) := goodIn_app (goodIn_of _ (by decide +kernel)) ggX9_isContradiction_X8_endsInContradiction
theorem dX9_isContradiction_0 : decode cX9_isContradiction 0 = .ok (.aload_n 0, 1) := by decide +kernel
theorem dX9_isContradiction_1 : decode cX9_isContradiction 1 = .ok (.getfield 52, 3) := by decide +kernel
theorem dX9_isContradiction_4 : decode cX9_isContradiction 4 = .ok (.aload_n 0, 1) := by decide +kernel
theorem dX9_isContradiction_5 : decode cX9_isContradiction 5 = .ok (.getfield 12, 3) := by decide +kernel
theorem dX9_isContradiction_8 : decode cX9_isContradiction 8 = .ok (.invokevirtual 263, 3) := by decide +kernel
theorem dX9_isContradiction_11 : decode cX9_isContradiction 11 = .ok (.aload_n 0, 1) := by decide +kernel
theorem dX9_isContradiction_12 : decode cX9_isContradiction 12 = .ok (.getfield 52, 3) := by decide +kernel
theorem dX9_isContradiction_15 : decode cX9_isContradiction 15 = .ok (.invokevirtual 275, 3) := by decide +kernel
theorem dX9_isContradiction_18 : decode cX9_isContradiction 18 = .ok (.ireturn, 1) := by decide +kernel
set_option maxRecDepth 20000 in
theorem ggX9_certain_X9_runWithoutContradiction : GoodIn wsX9_certain wsX9_runWithoutContradiction := goodIn_ca (goodIn_r _ [6, 7, 8, 1, 9, 10, 11, 12, 13, 14, 15, 16, 17, 18, 19, 20, 21, 22, 23, 24, 25, 26, 27, 28, 29, 30, 31, 32, 33, 34, 35, 5, 36, 37, 38, 39, 40, 41, 42, 43, 44, 45, 46, 47, 48, 49, 50, 51, 52, 53, 54, 55, 56, 57, 58, 59, 60, 61, 62, 63, 64, 65, 66, 67, 68, 69, 70, 71, 72, 73, 74, 75, 76, 77, 78, 79, 80, 81, 82, 83, 84, 85, 86, 87, 88, 89, 90, 91, 92, 93, 94, 95, 96, 97, 98, 99, 100, 101, 102, 103, 104, 105, 106, 107, 108, 109, 110, 119, 120, 121, 122, 123, 124, 125, 126, 127, 128, 129, 130, 131, 132, 133, 134, 135, 136, 137, 138, 139, 140, 141, 142, 143, 144, 145, 146] (by decide +kernel) (by decide +kernel)) (goodIn_sub (fun _ h => List.mem_cons_of_mem _ (List.mem_append_right _ h)) (by decide +kernel))
set_option maxRecDepth 20000 in
theorem gX9_certain_X9_runWithoutContradiction : GoodIn wsX9_certain (wsV RX9 154 RX9 yX9_runWithoutContradiction wsX9_runWithoutContradiction) := goodIn_app (goodIn_of _ (by decide +kernel)) ggX9_certain_X9_runWithoutContradiction
set_option maxRecDepth 20000 in
theorem ggX9_certain_X8_countCertain : GoodIn wsX9_certain wsX8_countCertain := goodIn_r _ [114, 115, 116, 117, 13, 118, 20, 15, 90, 91, 92, 25, 93, 27, 67, 128, 129, 130, 131, 132, 133, 134, 135, 136, 137, 138, 139, 140, 141, 142] (by decide +kernel) (by decide +kernel)
set_option maxRecDepth 20000 in
theorem gX9_certain_X8_countCertain : GoodIn wsX9_certain (wsV RX9 278 RX8 yX8_countCertain wsX8_countCertain) := goodIn_app (goodIn_of _ (by decide +kernel)) ggX9_certain_X8_countCertain
theorem dX9_certain_0 : decode cX9_certain 0 = .ok (.aload_n 0, 1) := by decide +kernel
theorem dX9_certain_1 : decode cX9_certain 1 = .ok (.invokevirtual 154, 3) := by decide +kernel
theorem dX9_certain_4 : decode cX9_certain 4 = .ok (.aload_n 0, 1) := by decide +kernel
theorem dX9_certain_5 : decode cX9_certain 5 = .ok (.getfield 52, 3) := by decide +kernel
theorem dX9_certain_8 : decode cX9_certain 8 = .ok (.invokevirtual 278, 3) := by decide +kernel
theorem dX9_certain_11 : decode cX9_certain 11 = .ok (.ireturn, 1) := by decide +kernel
set_option maxRecDepth 20000 in
theorem ggX9_hint_X9_runWithoutContradiction : GoodIn wsX9_hint wsX9_runWithoutContradiction := goodIn_ca (goodIn_r _ [8, 1, 2, 3, 9, 10, 11, 12, 13, 14, 15, 16, 17, 18, 19, 20, 21, 22, 23, 24, 25, 26, 27, 28, 29, 30, 31, 32, 33, 34, 35, 7, 36, 37, 38, 39, 40, 41, 42, 43, 44, 45, 46, 47, 48, 49, 50, 51, 52, 53, 54, 55, 56, 57, 58, 59, 60, 61, 62, 63, 64, 65, 66, 67, 68, 69, 70, 71, 72, 73, 74, 75, 76, 77, 78, 79, 80, 81, 82, 83, 84, 85, 86, 87, 88, 89, 90, 91, 92, 93, 94, 95, 96, 97, 98, 99, 100, 101, 102, 103, 104, 105, 106, 107, 108, 109, 110, 119, 120, 121, 122, 123, 124, 125, 126, 127, 128, 129, 130, 131, 132, 133, 134, 135, 136, 137, 138, 139, 140, 141, 142, 143, 144, 145, 146] (by decide +kernel) (by decide +kernel)) (goodIn_sub (fun _ h => List.mem_cons_of_mem _ (List.mem_append_right _ h)) (by decide +kernel))
set_option maxRecDepth 20000 in
theorem gX9_hint_X9_runWithoutContradiction : GoodIn wsX9_hint (wsV RX9 154 RX9 yX9_runWithoutContradiction wsX9_runWithoutContradiction) := goodIn_app (goodIn_of _ (by decide +kernel)) ggX9_hint_X9_runWithoutContradiction
set_option maxRecDepth 20000 in
theorem ggX9_hint_X8_firstCertain : GoodIn wsX9_hint wsX8_firstCertain := goodIn_r _ [114, 115, 116, 117, 13, 118, 20, 15, 90, 91, 92, 25, 93, 27, 67, 128, 129, 130, 131, 132, 133, 134, 135, 136, 137, 138, 139, 140, 141, 142] (by decide +kernel) (by decide +kernel)
set_option maxRecDepth 20000 in
theorem gX9_hint_X8_firstCertain : GoodIn wsX9_hint (wsV RX9 281 RX8 yX8_firstCertain wsX8_firstCertain) := goodIn_app (goodIn_of _ (by decide +kernel)) ggX9_hint_X8_firstCertain
theorem dX9_hint_0 : decode cX9_hint 0 = .ok (.aload_n 0, 1) := by decide +kernel
theorem dX9_hint_1 : decode cX9_hint 1 = .ok (.invokevirtual 154, 3) := by decide +kernel
theorem dX9_hint_4 : decode cX9_hint 4 = .ok (.aload_n 0, 1) := by decide +kernel
theorem dX9_hint_5 : decode cX9_hint 5 = .ok (.getfield 52, 3) := by decide +kernel
theorem dX9_hint_8 : decode cX9_hint 8 = .ok (.invokevirtual 281, 3) := by decide +kernel
theorem dX9_hint_11 : decode cX9_hint 11 = .ok (.istore_n 1, 1) := by decide +kernel
theorem dX9_hint_12 : decode cX9_hint 12 = .ok (.iload_n 1, 1) := by decide +kernel
theorem dX9_hint_13 : decode cX9_hint 13 = .ok (.bipush 42, 2) := by decide +kernel
theorem dX9_hint_15 : decode cX9_hint 15 = .ok (.if_icmp .ne 14, 3) := by decide +kernel
theorem dX9_hint_18 : decode cX9_hint 18 = .ok (.new 85, 3) := by decide +kernel
theorem dX9_hint_21 : decode cX9_hint 21 = .ok (.dup, 1) := by decide +kernel
theorem dX9_hint_22 : decode cX9_hint 22 = .ok (.ldc_w 284, 3) := by decide +kernel
theorem dX9_hint_25 : decode cX9_hint 25 = .ok (.invokespecial 89, 3) := by decide +kernel
theorem dX9_hint_28 : decode cX9_hint 28 = .ok (.athrow, 1) := by decide +kernel
theorem dX9_hint_29 : decode cX9_hint 29 = .ok (.iload_n 1, 1) := by decide +kernel
theorem dX9_hint_30 : decode cX9_hint 30 = .ok (.ireturn, 1) := by decide +kernel
set_option maxRecDepth 20000 in
theorem ggX9_waysByNumbers_X6_countWays : GoodIn wsX9_waysByNumbers wsX6_countWays := goodIn_r _ [7, 8, 9, 10, 11, 12, 13, 14, 15, 16, 17, 18, 19, 20, 21, 22, 23, 24, 25, 26, 27, 28, 29, 30, 31, 32, 33, 34, 35, 36, 37, 38, 39, 40, 41, 42, 43, 44, 45, 46, 47, 48, 49, 50, 51, 52, 53, 54, 55, 56, 57, 58, 59, 60, 61, 62, 63, 64, 65, 66, 67, 68, 69, 70, 71, 72, 73, 74, 75, 76, 77, 78, 79, 80, 81, 6, 82, 83, 84, 85, 86, 87, 88, 89, 90, 91, 92, 93, 94, 95, 96, 97, 98, 99, 100, 101, 102, 103, 104, 105, 106, 107, 108, 109, 110, 111, 112, 113, 114, 124, 125, 126, 127, 128, 129, 130, 131, 132, 133, 134, 135, 136, 137, 138, 139] (by decide +kernel) (by decide +kernel)
set_option maxRecDepth 20000 in
theorem gX9_waysByNumbers_X6_countWays : GoodIn wsX9_waysByNumbers (wsV RX9 286 RX6 yX6_countWays wsX6_countWays) := goodIn_app (goodIn_of _ (by decide +kernel)) ggX9_waysByNumbers_X6_countWays
theorem dX9_waysByNumbers_0 : decode cX9_waysByNumbers 0 = .ok (.aload_n 0, 1) := by decide +kernel
theorem dX9_waysByNumbers_1 : decode cX9_waysByNumbers 1 = .ok (.getfield 59, 3) := by decide +kernel
theorem dX9_waysByNumbers_4 : decode cX9_waysByNumbers 4 = .ok (.aload_n 0, 1) := by decide +kernel
theorem dX9_waysByNumbers_5 : decode cX9_waysByNumbers 5 = .ok (.getfield 12, 3) := by decide +kernel
theorem dX9_waysByNumbers_8 : decode cX9_waysByNumbers 8 = .ok (.invokevirtual 286, 3) := by decide +kernel
theorem dX9_waysByNumbers_11 : decode cX9_waysByNumbers 11 = .ok (.ireturn, 1) := by decide +kernel
set_option maxRecDepth 20000 in
theorem ggX9_waysByCells_X1_countWays : GoodIn wsX9_waysByCells wsX1_countWays := goodIn_r _ [7, 8, 9, 10, 11, 12, 13, 14, 15, 16, 17, 18, 19, 20, 21, 22, 23, 24, 25, 26, 27, 28, 29, 30, 31, 32, 33, 34, 35, 36, 37, 38, 39, 40, 41, 42, 43, 44, 45, 46, 47, 48, 49, 50, 51, 52, 53, 54, 55, 56, 57, 58, 59, 60, 61, 62, 63, 64, 65, 66, 67, 68, 69, 70, 71, 72, 73, 74, 75, 76, 77, 78, 79, 80, 81, 82, 83, 6, 84, 85, 86, 87, 88, 89, 90, 91, 92, 93, 94, 95, 96, 97, 98, 99, 100, 101, 102, 103, 104, 105, 106, 107, 108, 109, 110, 111, 112, 113, 114, 115, 116, 117, 118, 119, 120, 121, 122, 132, 133, 134, 135, 136, 137, 138, 139, 140, 141, 142, 143, 144, 145, 146, 147, 148] (by decide +kernel) (by decide +kernel)
set_option maxRecDepth 20000 in
theorem gX9_waysByCells_X1_countWays : GoodIn wsX9_waysByCells (wsV RX9 289 RX1 yX1_countWays wsX1_countWays) := goodIn_app (goodIn_of _ (by decide +kernel)) ggX9_waysByCells_X1_countWays
theorem dX9_waysByCells_0 : decode cX9_waysByCells 0 = .ok (.aload_n 0, 1) := by decide +kernel
theorem dX9_waysByCells_1 : decode cX9_waysByCells 1 = .ok (.getfield 66, 3) := by decide +kernel
theorem dX9_waysByCells_4 : decode cX9_waysByCells 4 = .ok (.aload_n 0, 1) := by decide +kernel
theorem dX9_waysByCells_5 : decode cX9_waysByCells 5 = .ok (.getfield 12, 3) := by decide +kernel
theorem dX9_waysByCells_8 : decode cX9_waysByCells 8 = .ok (.bipush 50, 2) := by decide +kernel
theorem dX9_waysByCells_10 : decode cX9_waysByCells 10 = .ok (.invokevirtual 289, 3) := by decide +kernel
theorem dX9_waysByCells_13 : decode cX9_waysByCells 13 = .ok (.ireturn, 1) := by decide +kernel
set_option maxRecDepth 20000 in
theorem ggX9_isUnique_X1_countWays : GoodIn wsX9_isUnique wsX1_countWays := goodIn_r _ [7, 8, 9, 10, 11, 12, 13, 14, 15, 16, 17, 18, 19, 20, 21, 22, 23, 24, 25, 26, 27, 28, 29, 30, 31, 32, 33, 34, 35, 36, 37, 38, 39, 40, 41, 42, 43, 44, 45, 46, 47, 48, 49, 50, 51, 52, 53, 54, 55, 56, 57, 58, 59, 60, 61, 62, 63, 64, 65, 66, 67, 68, 69, 70, 71, 72, 73, 74, 75, 76, 77, 78, 79, 80, 81, 82, 83, 6, 84, 85, 86, 87, 88, 89, 90, 91, 92, 93, 94, 95, 96, 97, 98, 99, 100, 101, 102, 103, 104, 105, 106, 107, 108, 109, 110, 111, 112, 113, 114, 115, 116, 117, 118, 119, 120, 121, 122, 132, 133, 134, 135, 136, 137, 138, 139, 140, 141, 142, 143, 144, 145, 146, 147, 148] (by decide +kernel) (by decide +kernel)
set_option maxRecDepth 20000 in
theorem gX9_isUnique_X1_countWays : GoodIn wsX9_isUnique (wsV RX9 289 RX1 yX1_countWays wsX1_countWays) := goodIn_app (goodIn_of _ (by decide +kernel)) ggX9_isUnique_X1_countWays
theorem dX9_isUnique_0 : decode cX9_isUnique 0 = .ok (.aload_n 0, 1) := by decide +kernel
theorem dX9_isUnique_1 : decode cX9_isUnique 1 = .ok (.getfield 66, 3) := by decide +kernel
theorem dX9_isUnique_4 : decode cX9_isUnique 4 = .ok (.aload_n 0, 1) := by decide +kernel
theorem dX9_isUnique_5 : decode cX9_isUnique 5 = .ok (.getfield 12, 3) := by decide +kernel
theorem dX9_isUnique_8 : decode cX9_isUnique 8 = .ok (.iconst 2, 1) := by decide +kernel
theorem dX9_isUnique_9 : decode cX9_isUnique 9 = .ok (.invokevirtual 289, 3) := by decide +kernel
theorem dX9_isUnique_12 : decode cX9_isUnique 12 = .ok (.iconst 1, 1) := by decide +kernel
theorem dX9_isUnique_13 : decode cX9_isUnique 13 = .ok (.if_icmp .ne 7, 3) := by decide +kernel
theorem dX9_isUnique_16 : decode cX9_isUnique 16 = .ok (.iconst 1, 1) := by decide +kernel
theorem dX9_isUnique_17 : decode cX9_isUnique 17 = .ok (.goto 4, 3) := by decide +kernel
theorem dX9_isUnique_20 : decode cX9_isUnique 20 = .ok (.iconst 0, 1) := by decide +kernel
theorem dX9_isUnique_21 : decode cX9_isUnique 21 = .ok (.ireturn, 1) := by decide +kernel
set_option maxRecDepth 20000 in
theorem ggX9_sizeInFirst_X9_checkedCell : GoodIn wsX9_sizeInFirst wsX9_checkedCell := goodIn_ca (goodIn_r _ [6, 7, 8, 9, 10, 5, 11] (by decide +kernel) (by decide +kernel)) (goodIn_sub (fun _ h => List.mem_cons_of_mem _ (List.mem_append_left _ (List.mem_append_right _ h))) (by decide +kernel))
set_option maxRecDepth 20000 in
theorem gX9_sizeInFirst_X9_checkedCell : GoodIn wsX9_sizeInFirst (va_wsS RX9 70 yX9_checkedCell wsX9_checkedCell) := goodIn_app (goodIn_of _ (by decide +kernel)) ggX9_sizeInFirst_X9_checkedCell
set_option maxRecDepth 20000 in
theorem ggX9_sizeInFirst_X9_findFirstWay : GoodIn wsX9_sizeInFirst wsX9_findFirstWay := goodIn_ca (goodIn_r _ [15, 16, 17, 2, 18, 19, 20, 21, 22, 23, 24, 25, 26, 27, 28, 29, 30, 31, 32, 33, 34, 35, 36, 37, 38, 39, 40, 5, 41, 42, 43, 44, 45, 46, 47, 48, 49, 50, 51, 52, 53, 54, 55, 56, 57, 58, 59, 60, 61, 62, 63, 64, 65, 66, 67, 68, 69, 70, 71, 72, 73, 74, 75, 76, 77, 78, 79, 80, 81, 82, 83, 84, 85, 86, 87, 88, 89, 90, 91, 92, 93, 94, 95, 96, 97, 98, 99, 100, 101, 102, 103, 104, 105, 106, 107, 108, 109, 110, 111, 112, 113, 114, 115, 116, 117, 118, 119, 120, 121, 122, 123, 124, 125, 126, 127, 128, 129, 130, 131, 132, 133, 134, 135, 136, 153, 154, 155, 156, 157, 158, 159, 160, 161, 162, 163, 164, 165, 166, 167, 168, 169, 170, 171, 172, 173, 174, 175, 176, 177, 178] (by decide +kernel) (by decide +kernel)) (goodIn_sub (fun _ h => List.mem_cons_of_mem _ (List.mem_append_right _ h)) (by decide +kernel))
set_option maxRecDepth 20000 in
theorem gX9_sizeInFirst_X9_findFirstWay : GoodIn wsX9_sizeInFirst (wsV RX9 161 RX9 yX9_findFirstWay wsX9_findFirstWay) := goodIn_app (goodIn_of _ (by decide +kernel)) ggX9_sizeInFirst_X9_findFirstWay
set_option maxRecDepth 20000 in
theorem ggX9_sizeInFirst_X1_firstWay : GoodIn wsX9_sizeInFirst wsX1_firstWay := goodIn_r _ [140, 24, 162, 163, 164, 165, 166] (by decide +kernel) (by decide +kernel)
set_option maxRecDepth 20000 in
theorem gX9_sizeInFirst_X1_firstWay : GoodIn wsX9_sizeInFirst (wsV RX9 164 RX1 yX1_firstWay wsX1_firstWay) := goodIn_app (goodIn_of _ (by decide +kernel)) ggX9_sizeInFirst_X1_firstWay
set_option maxRecDepth 20000 in
theorem ggX9_sizeInFirst_X0_sizeOfField : GoodIn wsX9_sizeInFirst wsX0_sizeOfField := goodIn_r _ [144, 77, 78, 61, 5, 62, 145, 146, 147, 148, 149, 150, 151, 152, 175, 176, 177, 178] (by decide +kernel) (by decide +kernel)
set_option maxRecDepth 20000 in
theorem gX9_sizeInFirst_X0_sizeOfField : GoodIn wsX9_sizeInFirst (wsV RX9 140 RX0 yX0_sizeOfField wsX0_sizeOfField) := goodIn_app (goodIn_of _ (by decide +kernel)) ggX9_sizeInFirst_X0_sizeOfField
theorem dX9_sizeInFirst_0 : decode cX9_sizeInFirst 0 = .ok (.iload_n 1, 1) := by decide +kernel
theorem dX9_sizeInFirst_1 : decode cX9_sizeInFirst 1 = .ok (.iload_n 2, 1) := by decide +kernel
theorem dX9_sizeInFirst_2 : decode cX9_sizeInFirst 2 = .ok (.invokestatic 70, 3) := by decide +kernel
theorem dX9_sizeInFirst_5 : decode cX9_sizeInFirst 5 = .ok (.istore_n 3, 1) := by decide +kernel
theorem dX9_sizeInFirst_6 : decode cX9_sizeInFirst 6 = .ok (.aload_n 0, 1) := by decide +kernel
theorem dX9_sizeInFirst_7 : decode cX9_sizeInFirst 7 = .ok (.aload_n 0, 1) := by decide +kernel
theorem dX9_sizeInFirst_8 : decode cX9_sizeInFirst 8 = .ok (.getfield 12, 3) := by decide +kernel
theorem dX9_sizeInFirst_11 : decode cX9_sizeInFirst 11 = .ok (.invokevirtual 161, 3) := by decide +kernel
theorem dX9_sizeInFirst_14 : decode cX9_sizeInFirst 14 = .ok (.aload_n 0, 1) := by decide +kernel
theorem dX9_sizeInFirst_15 : decode cX9_sizeInFirst 15 = .ok (.getfield 66, 3) := by decide +kernel
theorem dX9_sizeInFirst_18 : decode cX9_sizeInFirst 18 = .ok (.invokevirtual 164, 3) := by decide +kernel
theorem dX9_sizeInFirst_21 : decode cX9_sizeInFirst 21 = .ok (.iload_n 3, 1) := by decide +kernel
theorem dX9_sizeInFirst_22 : decode cX9_sizeInFirst 22 = .ok (.invokevirtual 140, 3) := by decide +kernel
theorem dX9_sizeInFirst_25 : decode cX9_sizeInFirst 25 = .ok (.ireturn, 1) := by decide +kernel
set_option maxRecDepth 20000 in
theorem ggX9_cornerInFirst_X9_checkedCell : GoodIn wsX9_cornerInFirst wsX9_checkedCell := goodIn_ca (goodIn_r _ [6, 7, 8, 9, 10, 5, 11] (by decide +kernel) (by decide +kernel)) (goodIn_sub (fun _ h => List.mem_cons_of_mem _ (List.mem_append_left _ (List.mem_append_right _ h))) (by decide +kernel))
set_option maxRecDepth 20000 in
theorem gX9_cornerInFirst_X9_checkedCell : GoodIn wsX9_cornerInFirst (va_wsS RX9 70 yX9_checkedCell wsX9_checkedCell) := goodIn_app (goodIn_of _ (by decide +kernel)) ggX9_cornerInFirst_X9_checkedCell
set_option maxRecDepth 20000 in
theorem ggX9_cornerInFirst_X9_findFirstWay : GoodIn wsX9_cornerInFirst wsX9_findFirstWay := goodIn_ca (goodIn_r _ [15, 16, 17, 2, 18, 19, 20, 21, 22, 23, 24, 25, 26, 27, 28, 29, 30, 31, 32, 33, 34, 35, 36, 37, 38, 39, 40, 5, 41, 42, 43, 44, 45, 46, 47, 48, 49, 50, 51, 52, 53, 54, 55, 56, 57, 58, 59, 60, 61, 62, 63, 64, 65, 66, 67, 68, 69, 70, 71, 72, 73, 74, 75, 76, 77, 78, 79, 80, 81, 82, 83, 84, 85, 86, 87, 88, 89, 90, 91, 92, 93, 94, 95, 96, 97, 98, 99, 100, 101, 102, 103, 104, 105, 106, 107, 108, 109, 110, 111, 112, 113, 114, 115, 116, 117, 118, 119, 120, 121, 122, 123, 124, 125, 126, 127, 128, 129, 130, 131, 132, 133, 134, 135, 136, 145, 146, 147, 148, 149, 150, 151, 152, 153, 154, 155, 156, 157, 158, 159, 160, 161, 162, 163, 164, 165, 166, 167, 168, 169, 170] (by decide +kernel) (by decide +kernel)) (goodIn_sub (fun _ h => List.mem_cons_of_mem _ (List.mem_append_right _ h)) (by decide +kernel))
set_option maxRecDepth 20000 in
theorem gX9_cornerInFirst_X9_findFirstWay : GoodIn wsX9_cornerInFirst (wsV RX9 161 RX9 yX9_findFirstWay wsX9_findFirstWay) := goodIn_app (goodIn_of _ (by decide +kernel)) ggX9_cornerInFirst_X9_findFirstWay
set_option maxRecDepth 20000 in
theorem ggX9_cornerInFirst_X1_firstWay : GoodIn wsX9_cornerInFirst wsX1_firstWay := goodIn_r _ [140, 24, 154, 155, 156, 157, 158] (by decide +kernel) (by decide +kernel)
set_option maxRecDepth 20000 in
theorem gX9_cornerInFirst_X1_firstWay : GoodIn wsX9_cornerInFirst (wsV RX9 164 RX1 yX1_firstWay wsX1_firstWay) := goodIn_app (goodIn_of _ (by decide +kernel)) ggX9_cornerInFirst_X1_firstWay
set_option maxRecDepth 20000 in
theorem ggX9_cornerInFirst_X0_firstOfField : GoodIn wsX9_cornerInFirst wsX0_firstOfField := goodIn_r _ [144, 77, 61, 5, 62, 167, 168, 169, 170] (by decide +kernel) (by decide +kernel)
set_option maxRecDepth 20000 in
theorem gX9_cornerInFirst_X0_firstOfField : GoodIn wsX9_cornerInFirst (wsV RX9 234 RX0 yX0_firstOfField wsX0_firstOfField) := goodIn_app (goodIn_of _ (by decide +kernel)) ggX9_cornerInFirst_X0_firstOfField
theorem dX9_cornerInFirst_0 : decode cX9_cornerInFirst 0 = .ok (.iload_n 1, 1) := by decide +kernel
theorem dX9_cornerInFirst_1 : decode cX9_cornerInFirst 1 = .ok (.iload_n 2, 1) := by decide +kernel
theorem dX9_cornerInFirst_2 : decode cX9_cornerInFirst 2 = .ok (.invokestatic 70, 3) := by decide +kernel
theorem dX9_cornerInFirst_5 : decode cX9_cornerInFirst 5 = .ok (.istore_n 3, 1) := by decide +kernel
theorem dX9_cornerInFirst_6 : decode cX9_cornerInFirst 6 = .ok (.aload_n 0, 1) := by decide +kernel
theorem dX9_cornerInFirst_7 : decode cX9_cornerInFirst 7 = .ok (.aload_n 0, 1) := by decide +kernel
theorem dX9_cornerInFirst_8 : decode cX9_cornerInFirst 8 = .ok (.getfield 12, 3) := by decide +kernel
theorem dX9_cornerInFirst_11 : decode cX9_cornerInFirst 11 = .ok (.invokevirtual 161, 3) := by decide +kernel
theorem dX9_cornerInFirst_14 : decode cX9_cornerInFirst 14 = .ok (.aload_n 0, 1) := by decide +kernel
theorem dX9_cornerInFirst_15 : decode cX9_cornerInFirst 15 = .ok (.getfield 66, 3) := by decide +kernel
theorem dX9_cornerInFirst_18 : decode cX9_cornerInFirst 18 = .ok (.invokevirtual 164, 3) := by decide +kernel
theorem dX9_cornerInFirst_21 : decode cX9_cornerInFirst 21 = .ok (.iload_n 3, 1) := by decide +kernel
theorem dX9_cornerInFirst_22 : decode cX9_cornerInFirst 22 = .ok (.invokevirtual 234, 3) := by decide +kernel
theorem dX9_cornerInFirst_25 : decode cX9_cornerInFirst 25 = .ok (.ireturn, 1) := by decide +kernel
set_option maxRecDepth 20000 in
theorem ggX9_strayFields_X0_copy : GoodIn wsX9_strayFields wsX0_copy := goodIn_r _ [8, 9, 10, 11, 12, 156, 157, 158, 159] (by decide +kernel) (by decide +kernel)
set_option maxRecDepth 20000 in
theorem gX9_strayFields_X0_copy : GoodIn wsX9_strayFields (wsV RX9 168 RX0 yX0_copy wsX0_copy) := goodIn_app (goodIn_of _ (by decide +kernel)) ggX9_strayFields_X0_copy
set_option maxRecDepth 20000 in
theorem ggX9_strayFields_X0_removeFields : GoodIn wsX9_strayFields wsX0_removeFields := goodIn_r _ [16, 10, 156, 157, 158, 159] (by decide +kernel) (by decide +kernel)
set_option maxRecDepth 20000 in
theorem gX9_strayFields_X0_removeFields : GoodIn wsX9_strayFields (wsV RX9 151 RX0 yX0_removeFields wsX0_removeFields) := goodIn_app (goodIn_of _ (by decide +kernel)) ggX9_strayFields_X0_removeFields
set_option maxRecDepth 20000 in
theorem ggX9_strayFields_X9_findFirstWay : GoodIn wsX9_strayFields wsX9_findFirstWay := goodIn_ca (goodIn_r _ [21, 22, 23, 3, 24, 25, 26, 27, 28, 29, 30, 31, 32, 33, 34, 35, 36, 37, 38, 39, 40, 41, 42, 7, 43, 10, 44, 20, 45, 46, 47, 48, 49, 9, 50, 51, 52, 53, 54, 55, 56, 57, 58, 59, 60, 61, 62, 63, 64, 65, 66, 67, 68, 69, 70, 71, 72, 73, 74, 75, 76, 5, 6, 8, 11, 12, 77, 78, 79, 80, 81, 82, 83, 84, 85, 86, 87, 88, 89, 90, 91, 92, 93, 94, 95, 96, 97, 98, 99, 100, 101, 102, 103, 104, 105, 106, 107, 108, 109, 110, 111, 112, 113, 114, 115, 116, 117, 118, 119, 120, 121, 122, 123, 124, 125, 126, 127, 128, 129, 130, 131, 132, 133, 134, 147, 148, 149, 150, 151, 152, 153, 154, 155, 160, 161, 162, 163, 164, 165, 166, 167, 168, 169, 170, 171, 172, 156, 157, 158, 159] (by decide +kernel) (by decide +kernel)) (goodIn_sub (fun _ h => List.mem_cons_of_mem _ (List.mem_append_right _ h)) (by decide +kernel))
set_option maxRecDepth 20000 in
theorem gX9_strayFields_X9_findFirstWay : GoodIn wsX9_strayFields (wsV RX9 161 RX9 yX9_findFirstWay wsX9_findFirstWay) := goodIn_app (goodIn_of _ (by decide +kernel)) ggX9_strayFields_X9_findFirstWay
set_option maxRecDepth 20000 in
theorem ggX9_strayFields_X1_firstWay : GoodIn wsX9_strayFields wsX1_firstWay := goodIn_r _ [138, 30, 160, 161, 162, 163, 164] (by decide +kernel) (by decide +kernel)
set_option maxRecDepth 20000 in
theorem gX9_strayFields_X1_firstWay : GoodIn wsX9_strayFields (wsV RX9 164 RX1 yX1_firstWay wsX1_firstWay) := goodIn_app (goodIn_of _ (by decide +kernel)) ggX9_strayFields_X1_firstWay
set_option maxRecDepth 20000 in
theorem ggX9_strayFields_X0_countFieldsMissingIn : GoodIn wsX9_strayFields wsX0_countFieldsMissingIn := goodIn_r _ [142, 12, 143, 144, 145, 7, 146, 10, 11, 64, 20, 65, 156, 157, 158, 159] (by decide +kernel) (by decide +kernel)
set_option maxRecDepth 20000 in
theorem gX9_strayFields_X0_countFieldsMissingIn : GoodIn wsX9_strayFields (wsV RX9 292 RX0 yX0_countFieldsMissingIn wsX0_countFieldsMissingIn) := goodIn_app (goodIn_of _ (by decide +kernel)) ggX9_strayFields_X0_countFieldsMissingIn
theorem dX9_strayFields_0 : decode cX9_strayFields 0 = .ok (.aload_n 0, 1) := by decide +kernel
theorem dX9_strayFields_1 : decode cX9_strayFields 1 = .ok (.getfield 16, 3) := by decide +kernel
theorem dX9_strayFields_4 : decode cX9_strayFields 4 = .ok (.aload_n 0, 1) := by decide +kernel
theorem dX9_strayFields_5 : decode cX9_strayFields 5 = .ok (.getfield 12, 3) := by decide +kernel
theorem dX9_strayFields_8 : decode cX9_strayFields 8 = .ok (.invokevirtual 168, 3) := by decide +kernel
theorem dX9_strayFields_11 : decode cX9_strayFields 11 = .ok (.aload_n 0, 1) := by decide +kernel
theorem dX9_strayFields_12 : decode cX9_strayFields 12 = .ok (.getfield 16, 3) := by decide +kernel
theorem dX9_strayFields_15 : decode cX9_strayFields 15 = .ok (.invokevirtual 151, 3) := by decide +kernel
theorem dX9_strayFields_18 : decode cX9_strayFields 18 = .ok (.aload_n 0, 1) := by decide +kernel
theorem dX9_strayFields_19 : decode cX9_strayFields 19 = .ok (.aload_n 0, 1) := by decide +kernel
theorem dX9_strayFields_20 : decode cX9_strayFields 20 = .ok (.getfield 16, 3) := by decide +kernel
theorem dX9_strayFields_23 : decode cX9_strayFields 23 = .ok (.invokevirtual 161, 3) := by decide +kernel
theorem dX9_strayFields_26 : decode cX9_strayFields 26 = .ok (.aload_n 0, 1) := by decide +kernel
theorem dX9_strayFields_27 : decode cX9_strayFields 27 = .ok (.getfield 12, 3) := by decide +kernel
theorem dX9_strayFields_30 : decode cX9_strayFields 30 = .ok (.aload_n 0, 1) := by decide +kernel
theorem dX9_strayFields_31 : decode cX9_strayFields 31 = .ok (.getfield 66, 3) := by decide +kernel
theorem dX9_strayFields_34 : decode cX9_strayFields 34 = .ok (.invokevirtual 164, 3) := by decide +kernel
theorem dX9_strayFields_37 : decode cX9_strayFields 37 = .ok (.invokevirtual 292, 3) := by decide +kernel
theorem dX9_strayFields_40 : decode cX9_strayFields 40 = .ok (.ireturn, 1) := by decide +kernel
set_option maxRecDepth 20000 in
theorem ggX9_meanPossible_X7_find : GoodIn wsX9_meanPossible wsX7_find := goodIn_r _ [7, 8, 9, 10, 11, 12, 13, 14, 15, 16, 17, 18, 19, 20, 21, 22, 23, 24, 25, 26, 27, 28, 29, 30, 31, 32, 33, 34, 35, 36, 37, 38, 39, 40, 41, 42, 6, 43, 44, 45, 46, 47, 48, 49, 70, 71, 72, 73, 74, 75, 76, 77, 78, 79, 80, 81] (by decide +kernel) (by decide +kernel)
set_option maxRecDepth 20000 in
theorem gX9_meanPossible_X7_find : GoodIn wsX9_meanPossible (wsV RX9 240 RX7 yX7_find wsX7_find) := goodIn_app (goodIn_of _ (by decide +kernel)) ggX9_meanPossible_X7_find
set_option maxRecDepth 20000 in
theorem ggX9_meanPossible_X0_openNumbers : GoodIn wsX9_meanPossible wsX0_openNumbers := goodIn_r _ [53, 54, 55, 20, 21, 13, 22, 23, 16, 17, 18, 56, 11, 12, 14, 15, 78, 79, 80, 81] (by decide +kernel) (by decide +kernel)
set_option maxRecDepth 20000 in
theorem gX9_meanPossible_X0_openNumbers : GoodIn wsX9_meanPossible (wsV RX9 295 RX0 yX0_openNumbers wsX0_openNumbers) := goodIn_app (goodIn_of _ (by decide +kernel)) ggX9_meanPossible_X0_openNumbers
set_option maxRecDepth 20000 in
theorem ggX9_meanPossible_J13_bitCount_95d88 : GoodIn wsX9_meanPossible wsJ13_bitCount_95d88 := goodIn_r _ [27, 28, 29, 30] (by decide +kernel) (by decide +kernel)
set_option maxRecDepth 20000 in
theorem gX9_meanPossible_J13_bitCount_95d88 : GoodIn wsX9_meanPossible (va_wsS RX9 113 yJ13_bitCount_95d88 wsJ13_bitCount_95d88) := goodIn_app (goodIn_of _ (by decide +kernel)) ggX9_meanPossible_J13_bitCount_95d88
set_option maxRecDepth 20000 in
theorem ggX9_meanPossible_X7_size : GoodIn wsX9_meanPossible wsX7_size := goodIn_r _ [60, 8, 70, 71, 72, 73, 74, 75, 76, 77] (by decide +kernel) (by decide +kernel)
set_option maxRecDepth 20000 in
theorem gX9_meanPossible_X7_size : GoodIn wsX9_meanPossible (wsV RX9 260 RX7 yX7_size wsX7_size) := goodIn_app (goodIn_of _ (by decide +kernel)) ggX9_meanPossible_X7_size
theorem dX9_meanPossible_0 : decode cX9_meanPossible 0 = .ok (.aload_n 0, 1) := by decide +kernel
theorem dX9_meanPossible_1 : decode cX9_meanPossible 1 = .ok (.getfield 43, 3) := by decide +kernel
theorem dX9_meanPossible_4 : decode cX9_meanPossible 4 = .ok (.aload_n 0, 1) := by decide +kernel
theorem dX9_meanPossible_5 : decode cX9_meanPossible 5 = .ok (.getfield 12, 3) := by decide +kernel
theorem dX9_meanPossible_8 : decode cX9_meanPossible 8 = .ok (.invokevirtual 240, 3) := by decide +kernel
theorem dX9_meanPossible_11 : decode cX9_meanPossible 11 = .ok (.aload_n 0, 1) := by decide +kernel
theorem dX9_meanPossible_12 : decode cX9_meanPossible 12 = .ok (.getfield 12, 3) := by decide +kernel
theorem dX9_meanPossible_15 : decode cX9_meanPossible 15 = .ok (.invokevirtual 295, 3) := by decide +kernel
theorem dX9_meanPossible_18 : decode cX9_meanPossible 18 = .ok (.invokestatic 113, 3) := by decide +kernel
theorem dX9_meanPossible_21 : decode cX9_meanPossible 21 = .ok (.istore_n 1, 1) := by decide +kernel
theorem dX9_meanPossible_22 : decode cX9_meanPossible 22 = .ok (.iload_n 1, 1) := by decide +kernel
theorem dX9_meanPossible_23 : decode cX9_meanPossible 23 = .ok (.ifCond .le 17, 3) := by decide +kernel
theorem dX9_meanPossible_26 : decode cX9_meanPossible 26 = .ok (.aload_n 0, 1) := by decide +kernel
theorem dX9_meanPossible_27 : decode cX9_meanPossible 27 = .ok (.getfield 43, 3) := by decide +kernel
theorem dX9_meanPossible_30 : decode cX9_meanPossible 30 = .ok (.invokevirtual 260, 3) := by decide +kernel
theorem dX9_meanPossible_33 : decode cX9_meanPossible 33 = .ok (.i2d, 1) := by decide +kernel
theorem dX9_meanPossible_34 : decode cX9_meanPossible 34 = .ok (.iload_n 1, 1) := by decide +kernel
theorem dX9_meanPossible_35 : decode cX9_meanPossible 35 = .ok (.i2d, 1) := by decide +kernel
theorem dX9_meanPossible_36 : decode cX9_meanPossible 36 = .ok (.ddiv, 1) := by decide +kernel
theorem dX9_meanPossible_37 : decode cX9_meanPossible 37 = .ok (.goto 4, 3) := by decide +kernel
theorem dX9_meanPossible_40 : decode cX9_meanPossible 40 = .ok (.dconst 0, 1) := by decide +kernel
theorem dX9_meanPossible_41 : decode cX9_meanPossible 41 = .ok (.dreturn, 1) := by decide +kernel
set_option maxRecDepth 20000 in
theorem ggX9_countOpenCells_X0_cellsInFields : GoodIn wsX9_countOpenCells wsX0_cellsInFields := goodIn_r _ [6, 7, 8, 9, 10, 27, 28, 29, 30] (by decide +kernel) (by decide +kernel)
set_option maxRecDepth 20000 in
theorem gX9_countOpenCells_X0_cellsInFields : GoodIn wsX9_countOpenCells (wsV RX9 134 RX0 yX0_cellsInFields wsX0_cellsInFields) := goodIn_app (goodIn_of _ (by decide +kernel)) ggX9_countOpenCells_X0_cellsInFields
set_option maxRecDepth 20000 in
theorem ggX9_countOpenCells_J13_bitCount_95d88 : GoodIn wsX9_countOpenCells wsJ13_bitCount_95d88 := goodIn_r _ [14, 15, 16, 17] (by decide +kernel) (by decide +kernel)
set_option maxRecDepth 20000 in
theorem gX9_countOpenCells_J13_bitCount_95d88 : GoodIn wsX9_countOpenCells (va_wsS RX9 113 yJ13_bitCount_95d88 wsJ13_bitCount_95d88) := goodIn_app (goodIn_of _ (by decide +kernel)) ggX9_countOpenCells_J13_bitCount_95d88
theorem dX9_countOpenCells_0 : decode cX9_countOpenCells 0 = .ok (.bipush 42, 2) := by decide +kernel
theorem dX9_countOpenCells_2 : decode cX9_countOpenCells 2 = .ok (.aload_n 0, 1) := by decide +kernel
theorem dX9_countOpenCells_3 : decode cX9_countOpenCells 3 = .ok (.getfield 12, 3) := by decide +kernel
theorem dX9_countOpenCells_6 : decode cX9_countOpenCells 6 = .ok (.invokevirtual 134, 3) := by decide +kernel
theorem dX9_countOpenCells_9 : decode cX9_countOpenCells 9 = .ok (.invokestatic 113, 3) := by decide +kernel
theorem dX9_countOpenCells_12 : decode cX9_countOpenCells 12 = .ok (.isub, 1) := by decide +kernel
theorem dX9_countOpenCells_13 : decode cX9_countOpenCells 13 = .ok (.ireturn, 1) := by decide +kernel
set_option maxRecDepth 20000 in
theorem ggX9_checkedFieldCell_X9_checkedCell : GoodIn wsX9_checkedFieldCell wsX9_checkedCell := goodIn_ca (goodIn_r _ [7, 8, 9, 10, 11, 6, 12] (by decide +kernel) (by decide +kernel)) (goodIn_sub (fun _ h => List.mem_cons_of_mem _ (List.mem_append_right _ h)) (by decide +kernel))
set_option maxRecDepth 20000 in
theorem gX9_checkedFieldCell_X9_checkedCell : GoodIn wsX9_checkedFieldCell (va_wsS RX9 70 yX9_checkedCell wsX9_checkedCell) := goodIn_app (goodIn_of _ (by decide +kernel)) ggX9_checkedFieldCell_X9_checkedCell
set_option maxRecDepth 20000 in
theorem ggX9_checkedFieldCell_X0_hasField : GoodIn wsX9_checkedFieldCell wsX0_hasField := goodIn_r _ [17, 18, 19, 6, 20, 30, 31, 32, 33] (by decide +kernel) (by decide +kernel)
set_option maxRecDepth 20000 in
theorem gX9_checkedFieldCell_X0_hasField : GoodIn wsX9_checkedFieldCell (wsV RX9 81 RX0 yX0_hasField wsX0_hasField) := goodIn_app (goodIn_of _ (by decide +kernel)) ggX9_checkedFieldCell_X0_hasField
theorem dX9_checkedFieldCell_0 : decode cX9_checkedFieldCell 0 = .ok (.iload_n 1, 1) := by decide +kernel
theorem dX9_checkedFieldCell_1 : decode cX9_checkedFieldCell 1 = .ok (.iload_n 2, 1) := by decide +kernel
theorem dX9_checkedFieldCell_2 : decode cX9_checkedFieldCell 2 = .ok (.invokestatic 70, 3) := by decide +kernel
theorem dX9_checkedFieldCell_5 : decode cX9_checkedFieldCell 5 = .ok (.istore_n 3, 1) := by decide +kernel
theorem dX9_checkedFieldCell_6 : decode cX9_checkedFieldCell 6 = .ok (.aload_n 0, 1) := by decide +kernel
theorem dX9_checkedFieldCell_7 : decode cX9_checkedFieldCell 7 = .ok (.getfield 12, 3) := by decide +kernel
theorem dX9_checkedFieldCell_10 : decode cX9_checkedFieldCell 10 = .ok (.iload_n 3, 1) := by decide +kernel
theorem dX9_checkedFieldCell_11 : decode cX9_checkedFieldCell 11 = .ok (.invokevirtual 81, 3) := by decide +kernel
theorem dX9_checkedFieldCell_14 : decode cX9_checkedFieldCell 14 = .ok (.ifCond .ne 14, 3) := by decide +kernel
theorem dX9_checkedFieldCell_17 : decode cX9_checkedFieldCell 17 = .ok (.new 85, 3) := by decide +kernel
theorem dX9_checkedFieldCell_20 : decode cX9_checkedFieldCell 20 = .ok (.dup, 1) := by decide +kernel
theorem dX9_checkedFieldCell_21 : decode cX9_checkedFieldCell 21 = .ok (.ldc_w 332, 3) := by decide +kernel
theorem dX9_checkedFieldCell_24 : decode cX9_checkedFieldCell 24 = .ok (.invokespecial 89, 3) := by decide +kernel
theorem dX9_checkedFieldCell_27 : decode cX9_checkedFieldCell 27 = .ok (.athrow, 1) := by decide +kernel
theorem dX9_checkedFieldCell_28 : decode cX9_checkedFieldCell 28 = .ok (.iload_n 3, 1) := by decide +kernel
theorem dX9_checkedFieldCell_29 : decode cX9_checkedFieldCell 29 = .ok (.ireturn, 1) := by decide +kernel
set_option maxRecDepth 20000 in
theorem ggX9_runWithoutContradiction_X8_run : GoodIn wsX9_runWithoutContradiction wsX8_run := goodIn_r _ [9, 10, 11, 12, 13, 14, 15, 16, 17, 18, 19, 20, 21, 22, 23, 24, 25, 26, 27, 28, 29, 30, 31, 32, 33, 34, 35, 36, 37, 38, 39, 40, 41, 42, 43, 44, 45, 46, 47, 48, 49, 50, 51, 52, 53, 54, 55, 56, 57, 58, 59, 60, 61, 62, 63, 64, 65, 66, 67, 68, 69, 70, 71, 72, 73, 74, 75, 76, 77, 78, 8, 79, 80, 81, 82, 83, 84, 85, 86, 87, 88, 89, 90, 91, 92, 93, 94, 95, 96, 97, 98, 99, 116, 117, 118, 119, 120, 121, 122, 123, 124, 125, 126, 127, 128, 129, 130, 131, 132, 133, 134] (by decide +kernel) (by decide +kernel)
set_option maxRecDepth 20000 in
theorem gX9_runWithoutContradiction_X8_run : GoodIn wsX9_runWithoutContradiction (wsV RX9 263 RX8 yX8_run wsX8_run) := goodIn_app (goodIn_of _ (by decide +kernel)) ggX9_runWithoutContradiction_X8_run
set_option maxRecDepth 20000 in
theorem ggX9_runWithoutContradiction_X8_endsInContradiction : GoodIn wsX9_runWithoutContradiction wsX8_endsInContradiction := goodIn_r _ [103, 14, 80, 13, 104, 31, 105, 106, 30, 32, 97, 98, 8, 99, 116, 117, 118, 119, 120, 121, 122] (by decide +kernel) (by decide +kernel)
set_option maxRecDepth 20000 in
theorem gX9_runWithoutContradiction_X8_endsInContradiction : GoodIn wsX9_runWithoutContradiction (wsV RX9 275 RX8 yX8_endsInContradiction wsX8_endsInContradiction) := goodIn_app (goodIn_of _ (by decide +kernel)) ggX9_runWithoutContradiction_X8_endsInContradiction
theorem dX9_runWithoutContradiction_0 : decode cX9_runWithoutContradiction 0 = .ok (.aload_n 0, 1) := by decide +kernel
theorem dX9_runWithoutContradiction_1 : decode cX9_runWithoutContradiction 1 = .ok (.getfield 52, 3) := by decide +kernel
theorem dX9_runWithoutContradiction_4 : decode cX9_runWithoutContradiction 4 = .ok (.aload_n 0, 1) := by decide +kernel
theorem dX9_runWithoutContradiction_5 : decode cX9_runWithoutContradiction 5 = .ok (.getfield 12, 3) := by decide +kernel
theorem dX9_runWithoutContradiction_8 : decode cX9_runWithoutContradiction 8 = .ok (.invokevirtual 263, 3) := by decide +kernel
theorem dX9_runWithoutContradiction_11 : decode cX9_runWithoutContradiction 11 = .ok (.aload_n 0, 1) := by decide +kernel
theorem dX9_runWithoutContradiction_12 : decode cX9_runWithoutContradiction 12 = .ok (.getfield 52, 3) := by decide +kernel
theorem dX9_runWithoutContradiction_15 : decode cX9_runWithoutContradiction 15 = .ok (.invokevirtual 275, 3) := by decide +kernel
theorem dX9_runWithoutContradiction_18 : decode cX9_runWithoutContradiction 18 = .ok (.ifCond .eq 14, 3) := by decide +kernel
theorem dX9_runWithoutContradiction_21 : decode cX9_runWithoutContradiction 21 = .ok (.new 85, 3) := by decide +kernel
theorem dX9_runWithoutContradiction_24 : decode cX9_runWithoutContradiction 24 = .ok (.dup, 1) := by decide +kernel
theorem dX9_runWithoutContradiction_25 : decode cX9_runWithoutContradiction 25 = .ok (.ldc_w 334, 3) := by decide +kernel
theorem dX9_runWithoutContradiction_28 : decode cX9_runWithoutContradiction 28 = .ok (.invokespecial 89, 3) := by decide +kernel
theorem dX9_runWithoutContradiction_31 : decode cX9_runWithoutContradiction 31 = .ok (.athrow, 1) := by decide +kernel
theorem dX9_runWithoutContradiction_32 : decode cX9_runWithoutContradiction 32 = .ok (.return_, 1) := by decide +kernel
set_option maxRecDepth 20000 in
theorem ggX9_findFirstWay_X1_countWays : GoodIn wsX9_findFirstWay wsX1_countWays := goodIn_r _ [8, 9, 10, 11, 12, 13, 14, 15, 16, 17, 18, 19, 20, 21, 22, 23, 24, 25, 26, 27, 28, 29, 30, 31, 32, 33, 34, 35, 36, 37, 38, 39, 40, 41, 42, 43, 44, 45, 46, 47, 48, 49, 50, 51, 52, 53, 54, 55, 56, 57, 58, 59, 60, 61, 62, 63, 64, 65, 66, 67, 68, 69, 70, 71, 72, 73, 74, 75, 76, 77, 78, 79, 80, 81, 82, 83, 84, 7, 85, 86, 87, 88, 89, 90, 91, 92, 93, 94, 95, 96, 97, 98, 99, 100, 101, 102, 103, 104, 105, 106, 107, 108, 109, 110, 111, 112, 113, 114, 115, 116, 117, 118, 119, 120, 121, 122, 123, 133, 134, 135, 136, 137, 138, 139, 140, 141, 142, 143, 144, 145, 146, 147, 148, 149] (by decide +kernel) (by decide +kernel)
set_option maxRecDepth 20000 in
theorem gX9_findFirstWay_X1_countWays : GoodIn wsX9_findFirstWay (wsV RX9 289 RX1 yX1_countWays wsX1_countWays) := goodIn_app (goodIn_of _ (by decide +kernel)) ggX9_findFirstWay_X1_countWays
theorem dX9_findFirstWay_0 : decode cX9_findFirstWay 0 = .ok (.aload_n 0, 1) := by decide +kernel
theorem dX9_findFirstWay_1 : decode cX9_findFirstWay 1 = .ok (.getfield 66, 3) := by decide +kernel
theorem dX9_findFirstWay_4 : decode cX9_findFirstWay 4 = .ok (.aload_n 1, 1) := by decide +kernel
theorem dX9_findFirstWay_5 : decode cX9_findFirstWay 5 = .ok (.iconst 1, 1) := by decide +kernel
theorem dX9_findFirstWay_6 : decode cX9_findFirstWay 6 = .ok (.invokevirtual 289, 3) := by decide +kernel
theorem dX9_findFirstWay_9 : decode cX9_findFirstWay 9 = .ok (.ifCond .ne 14, 3) := by decide +kernel
theorem dX9_findFirstWay_12 : decode cX9_findFirstWay 12 = .ok (.new 85, 3) := by decide +kernel
theorem dX9_findFirstWay_15 : decode cX9_findFirstWay 15 = .ok (.dup, 1) := by decide +kernel
theorem dX9_findFirstWay_16 : decode cX9_findFirstWay 16 = .ok (.ldc_w 336, 3) := by decide +kernel
theorem dX9_findFirstWay_19 : decode cX9_findFirstWay 19 = .ok (.invokespecial 89, 3) := by decide +kernel
theorem dX9_findFirstWay_22 : decode cX9_findFirstWay 22 = .ok (.athrow, 1) := by decide +kernel
theorem dX9_findFirstWay_23 : decode cX9_findFirstWay 23 = .ok (.return_, 1) := by decide +kernel
set_option maxRecDepth 20000 in
theorem ggX9_checkedCell_X9_cellAt : GoodIn wsX9_checkedCell wsX9_cellAt := goodIn_r _ [6] (by decide +kernel) (by decide +kernel)
set_option maxRecDepth 20000 in
theorem gX9_checkedCell_X9_cellAt : GoodIn wsX9_checkedCell (va_wsS RX9 123 yX9_cellAt wsX9_cellAt) := goodIn_app (goodIn_of _ (by decide +kernel)) ggX9_checkedCell_X9_cellAt
theorem dX9_checkedCell_0 : decode cX9_checkedCell 0 = .ok (.iload_n 0, 1) := by decide +kernel
theorem dX9_checkedCell_1 : decode cX9_checkedCell 1 = .ok (.ifCond .lt 19, 3) := by decide +kernel
theorem dX9_checkedCell_4 : decode cX9_checkedCell 4 = .ok (.iload_n 0, 1) := by decide +kernel
theorem dX9_checkedCell_5 : decode cX9_checkedCell 5 = .ok (.bipush 6, 2) := by decide +kernel
theorem dX9_checkedCell_7 : decode cX9_checkedCell 7 = .ok (.if_icmp .ge 13, 3) := by decide +kernel
theorem dX9_checkedCell_10 : decode cX9_checkedCell 10 = .ok (.iload_n 1, 1) := by decide +kernel
theorem dX9_checkedCell_11 : decode cX9_checkedCell 11 = .ok (.ifCond .lt 9, 3) := by decide +kernel
theorem dX9_checkedCell_14 : decode cX9_checkedCell 14 = .ok (.iload_n 1, 1) := by decide +kernel
theorem dX9_checkedCell_15 : decode cX9_checkedCell 15 = .ok (.bipush 7, 2) := by decide +kernel
theorem dX9_checkedCell_17 : decode cX9_checkedCell 17 = .ok (.if_icmp .lt 14, 3) := by decide +kernel
theorem dX9_checkedCell_20 : decode cX9_checkedCell 20 = .ok (.new 187, 3) := by decide +kernel
theorem dX9_checkedCell_23 : decode cX9_checkedCell 23 = .ok (.dup, 1) := by decide +kernel
theorem dX9_checkedCell_24 : decode cX9_checkedCell 24 = .ok (.ldc_w 338, 3) := by decide +kernel
theorem dX9_checkedCell_27 : decode cX9_checkedCell 27 = .ok (.invokespecial 191, 3) := by decide +kernel
theorem dX9_checkedCell_30 : decode cX9_checkedCell 30 = .ok (.athrow, 1) := by decide +kernel
theorem dX9_checkedCell_31 : decode cX9_checkedCell 31 = .ok (.iload_n 0, 1) := by decide +kernel
theorem dX9_checkedCell_32 : decode cX9_checkedCell 32 = .ok (.iload_n 1, 1) := by decide +kernel
theorem dX9_checkedCell_33 : decode cX9_checkedCell 33 = .ok (.invokestatic 123, 3) := by decide +kernel
theorem dX9_checkedCell_36 : decode cX9_checkedCell 36 = .ok (.ireturn, 1) := by decide +kernel
theorem dX9_checkRectangle_0 : decode cX9_checkRectangle 0 = .ok (.iload_n 0, 1) := by decide +kernel
theorem dX9_checkRectangle_1 : decode cX9_checkRectangle 1 = .ok (.ifCond .lt 29, 3) := by decide +kernel
theorem dX9_checkRectangle_4 : decode cX9_checkRectangle 4 = .ok (.iload_n 2, 1) := by decide +kernel
theorem dX9_checkRectangle_5 : decode cX9_checkRectangle 5 = .ok (.iload_n 0, 1) := by decide +kernel
theorem dX9_checkRectangle_6 : decode cX9_checkRectangle 6 = .ok (.if_icmp .lt 24, 3) := by decide +kernel
theorem dX9_checkRectangle_9 : decode cX9_checkRectangle 9 = .ok (.iload_n 2, 1) := by decide +kernel
theorem dX9_checkRectangle_10 : decode cX9_checkRectangle 10 = .ok (.bipush 6, 2) := by decide +kernel
theorem dX9_checkRectangle_12 : decode cX9_checkRectangle 12 = .ok (.if_icmp .ge 18, 3) := by decide +kernel
theorem dX9_checkRectangle_15 : decode cX9_checkRectangle 15 = .ok (.iload_n 1, 1) := by decide +kernel
theorem dX9_checkRectangle_16 : decode cX9_checkRectangle 16 = .ok (.ifCond .lt 14, 3) := by decide +kernel
theorem dX9_checkRectangle_19 : decode cX9_checkRectangle 19 = .ok (.iload_n 3, 1) := by decide +kernel
theorem dX9_checkRectangle_20 : decode cX9_checkRectangle 20 = .ok (.iload_n 1, 1) := by decide +kernel
theorem dX9_checkRectangle_21 : decode cX9_checkRectangle 21 = .ok (.if_icmp .lt 9, 3) := by decide +kernel
theorem dX9_checkRectangle_24 : decode cX9_checkRectangle 24 = .ok (.iload_n 3, 1) := by decide +kernel
theorem dX9_checkRectangle_25 : decode cX9_checkRectangle 25 = .ok (.bipush 7, 2) := by decide +kernel
theorem dX9_checkRectangle_27 : decode cX9_checkRectangle 27 = .ok (.if_icmp .lt 14, 3) := by decide +kernel
theorem dX9_checkRectangle_30 : decode cX9_checkRectangle 30 = .ok (.new 187, 3) := by decide +kernel
theorem dX9_checkRectangle_33 : decode cX9_checkRectangle 33 = .ok (.dup, 1) := by decide +kernel
theorem dX9_checkRectangle_34 : decode cX9_checkRectangle 34 = .ok (.ldc_w 340, 3) := by decide +kernel
theorem dX9_checkRectangle_37 : decode cX9_checkRectangle 37 = .ok (.invokespecial 191, 3) := by decide +kernel
theorem dX9_checkRectangle_40 : decode cX9_checkRectangle 40 = .ok (.athrow, 1) := by decide +kernel
theorem dX9_checkRectangle_41 : decode cX9_checkRectangle 41 = .ok (.return_, 1) := by decide +kernel
theorem dX9_cellAt_0 : decode cX9_cellAt 0 = .ok (.iload_n 0, 1) := by decide +kernel
theorem dX9_cellAt_1 : decode cX9_cellAt 1 = .ok (.bipush 7, 2) := by decide +kernel
theorem dX9_cellAt_3 : decode cX9_cellAt 3 = .ok (.imul, 1) := by decide +kernel
theorem dX9_cellAt_4 : decode cX9_cellAt 4 = .ok (.iload_n 1, 1) := by decide +kernel
theorem dX9_cellAt_5 : decode cX9_cellAt 5 = .ok (.iadd, 1) := by decide +kernel
theorem dX9_cellAt_6 : decode cX9_cellAt 6 = .ok (.ireturn, 1) := by decide +kernel
theorem dX9_isCell_0 : decode cX9_isCell 0 = .ok (.iload_n 0, 1) := by decide +kernel
theorem dX9_isCell_1 : decode cX9_isCell 1 = .ok (.ifCond .lt 13, 3) := by decide +kernel
theorem dX9_isCell_4 : decode cX9_isCell 4 = .ok (.iload_n 0, 1) := by decide +kernel
theorem dX9_isCell_5 : decode cX9_isCell 5 = .ok (.bipush 42, 2) := by decide +kernel
theorem dX9_isCell_7 : decode cX9_isCell 7 = .ok (.if_icmp .ge 7, 3) := by decide +kernel
theorem dX9_isCell_10 : decode cX9_isCell 10 = .ok (.iconst 1, 1) := by decide +kernel
theorem dX9_isCell_11 : decode cX9_isCell 11 = .ok (.goto 4, 3) := by decide +kernel
theorem dX9_isCell_14 : decode cX9_isCell 14 = .ok (.iconst 0, 1) := by decide +kernel
theorem dX9_isCell_15 : decode cX9_isCell 15 = .ok (.ireturn, 1) := by decide +kernel
theorem dX9_bit_0 : decode cX9_bit 0 = .ok (.iload_n 0, 1) := by decide +kernel
theorem dX9_bit_1 : decode cX9_bit 1 = .ok (.ifCond .lt 15, 3) := by decide +kernel
theorem dX9_bit_4 : decode cX9_bit 4 = .ok (.iload_n 0, 1) := by decide +kernel
theorem dX9_bit_5 : decode cX9_bit 5 = .ok (.bipush 42, 2) := by decide +kernel
theorem dX9_bit_7 : decode cX9_bit 7 = .ok (.if_icmp .ge 9, 3) := by decide +kernel
theorem dX9_bit_10 : decode cX9_bit 10 = .ok (.lconst 1, 1) := by decide +kernel
theorem dX9_bit_11 : decode cX9_bit 11 = .ok (.iload_n 0, 1) := by decide +kernel
theorem dX9_bit_12 : decode cX9_bit 12 = .ok (.lshl, 1) := by decide +kernel
theorem dX9_bit_13 : decode cX9_bit 13 = .ok (.goto 4, 3) := by decide +kernel
theorem dX9_bit_16 : decode cX9_bit 16 = .ok (.lconst 0, 1) := by decide +kernel
theorem dX9_bit_17 : decode cX9_bit 17 = .ok (.lreturn, 1) := by decide +kernel
set_option maxRecDepth 20000 in
theorem ggX9_has_X9_bit : GoodIn wsX9_has wsX9_bit := goodIn_r _ [4] (by decide +kernel) (by decide +kernel)
set_option maxRecDepth 20000 in
theorem gX9_has_X9_bit : GoodIn wsX9_has (va_wsS RX9 344 yX9_bit wsX9_bit) := goodIn_app (goodIn_of _ (by decide +kernel)) ggX9_has_X9_bit
theorem dX9_has_0 : decode cX9_has 0 = .ok (.lload_n 0, 1) := by decide +kernel
theorem dX9_has_1 : decode cX9_has 1 = .ok (.iload_n 2, 1) := by decide +kernel
theorem dX9_has_2 : decode cX9_has 2 = .ok (.invokestatic 344, 3) := by decide +kernel
theorem dX9_has_5 : decode cX9_has 5 = .ok (.land, 1) := by decide +kernel
theorem dX9_has_6 : decode cX9_has 6 = .ok (.lconst 0, 1) := by decide +kernel
theorem dX9_has_7 : decode cX9_has 7 = .ok (.lcmp, 1) := by decide +kernel
theorem dX9_has_8 : decode cX9_has 8 = .ok (.ifCond .eq 7, 3) := by decide +kernel
theorem dX9_has_11 : decode cX9_has 11 = .ok (.iconst 1, 1) := by decide +kernel
theorem dX9_has_12 : decode cX9_has 12 = .ok (.goto 4, 3) := by decide +kernel
theorem dX9_has_15 : decode cX9_has 15 = .ok (.iconst 0, 1) := by decide +kernel
theorem dX9_has_16 : decode cX9_has 16 = .ok (.ireturn, 1) := by decide +kernel
set_option maxRecDepth 20000 in
theorem ggX9_lowestCell_J13_bitCount_95d88 : GoodIn wsX9_lowestCell wsJ13_bitCount_95d88 := goodIn_r _ [4, 5, 6, 7] (by decide +kernel) (by decide +kernel)
set_option maxRecDepth 20000 in
theorem gX9_lowestCell_J13_bitCount_95d88 : GoodIn wsX9_lowestCell (va_wsS RX9 113 yJ13_bitCount_95d88 wsJ13_bitCount_95d88) := goodIn_app (goodIn_of _ (by decide +kernel)) ggX9_lowestCell_J13_bitCount_95d88
theorem dX9_lowestCell_0 : decode cX9_lowestCell 0 = .ok (.lload_n 0, 1) := by decide +kernel
theorem dX9_lowestCell_1 : decode cX9_lowestCell 1 = .ok (.lconst 0, 1) := by decide +kernel
theorem dX9_lowestCell_2 : decode cX9_lowestCell 2 = .ok (.lcmp, 1) := by decide +kernel
theorem dX9_lowestCell_3 : decode cX9_lowestCell 3 = .ok (.ifCond .ne 8, 3) := by decide +kernel
theorem dX9_lowestCell_6 : decode cX9_lowestCell 6 = .ok (.bipush 42, 2) := by decide +kernel
theorem dX9_lowestCell_8 : decode cX9_lowestCell 8 = .ok (.goto 12, 3) := by decide +kernel
theorem dX9_lowestCell_11 : decode cX9_lowestCell 11 = .ok (.lload_n 0, 1) := by decide +kernel
theorem dX9_lowestCell_12 : decode cX9_lowestCell 12 = .ok (.lload_n 0, 1) := by decide +kernel
theorem dX9_lowestCell_13 : decode cX9_lowestCell 13 = .ok (.lneg, 1) := by decide +kernel
theorem dX9_lowestCell_14 : decode cX9_lowestCell 14 = .ok (.land, 1) := by decide +kernel
theorem dX9_lowestCell_15 : decode cX9_lowestCell 15 = .ok (.lconst 1, 1) := by decide +kernel
theorem dX9_lowestCell_16 : decode cX9_lowestCell 16 = .ok (.lsub, 1) := by decide +kernel
theorem dX9_lowestCell_17 : decode cX9_lowestCell 17 = .ok (.invokestatic 113, 3) := by decide +kernel
theorem dX9_lowestCell_20 : decode cX9_lowestCell 20 = .ok (.ireturn, 1) := by decide +kernel
theorem dX9_rowsOf_0 : decode cX9_rowsOf 0 = .ok (.iload_n 1, 1) := by decide +kernel
theorem dX9_rowsOf_1 : decode cX9_rowsOf 1 = .ok (.bipush 7, 2) := by decide +kernel
theorem dX9_rowsOf_3 : decode cX9_rowsOf 3 = .ok (.idiv, 1) := by decide +kernel
theorem dX9_rowsOf_4 : decode cX9_rowsOf 4 = .ok (.iload_n 0, 1) := by decide +kernel
theorem dX9_rowsOf_5 : decode cX9_rowsOf 5 = .ok (.bipush 7, 2) := by decide +kernel
theorem dX9_rowsOf_7 : decode cX9_rowsOf 7 = .ok (.idiv, 1) := by decide +kernel
theorem dX9_rowsOf_8 : decode cX9_rowsOf 8 = .ok (.isub, 1) := by decide +kernel
theorem dX9_rowsOf_9 : decode cX9_rowsOf 9 = .ok (.iconst 1, 1) := by decide +kernel
theorem dX9_rowsOf_10 : decode cX9_rowsOf 10 = .ok (.iadd, 1) := by decide +kernel
theorem dX9_rowsOf_11 : decode cX9_rowsOf 11 = .ok (.ireturn, 1) := by decide +kernel
theorem dX9_columnsOf_0 : decode cX9_columnsOf 0 = .ok (.iload_n 1, 1) := by decide +kernel
theorem dX9_columnsOf_1 : decode cX9_columnsOf 1 = .ok (.bipush 7, 2) := by decide +kernel
theorem dX9_columnsOf_3 : decode cX9_columnsOf 3 = .ok (.irem, 1) := by decide +kernel
theorem dX9_columnsOf_4 : decode cX9_columnsOf 4 = .ok (.iload_n 0, 1) := by decide +kernel
theorem dX9_columnsOf_5 : decode cX9_columnsOf 5 = .ok (.bipush 7, 2) := by decide +kernel
theorem dX9_columnsOf_7 : decode cX9_columnsOf 7 = .ok (.irem, 1) := by decide +kernel
theorem dX9_columnsOf_8 : decode cX9_columnsOf 8 = .ok (.isub, 1) := by decide +kernel
theorem dX9_columnsOf_9 : decode cX9_columnsOf 9 = .ok (.iconst 1, 1) := by decide +kernel
theorem dX9_columnsOf_10 : decode cX9_columnsOf 10 = .ok (.iadd, 1) := by decide +kernel
theorem dX9_columnsOf_11 : decode cX9_columnsOf 11 = .ok (.ireturn, 1) := by decide +kernel
set_option maxRecDepth 20000 in
theorem ggX9_sizeOf_X9_rowsOf : GoodIn wsX9_sizeOf wsX9_rowsOf := goodIn_r _ [4] (by decide +kernel) (by decide +kernel)
set_option maxRecDepth 20000 in
theorem gX9_sizeOf_X9_rowsOf : GoodIn wsX9_sizeOf (va_wsS RX9 348 yX9_rowsOf wsX9_rowsOf) := goodIn_app (goodIn_of _ (by decide +kernel)) ggX9_sizeOf_X9_rowsOf
set_option maxRecDepth 20000 in
theorem ggX9_sizeOf_X9_columnsOf : GoodIn wsX9_sizeOf wsX9_columnsOf := goodIn_r _ [7] (by decide +kernel) (by decide +kernel)
set_option maxRecDepth 20000 in
theorem gX9_sizeOf_X9_columnsOf : GoodIn wsX9_sizeOf (va_wsS RX9 351 yX9_columnsOf wsX9_columnsOf) := goodIn_app (goodIn_of _ (by decide +kernel)) ggX9_sizeOf_X9_columnsOf
theorem dX9_sizeOf_0 : decode cX9_sizeOf 0 = .ok (.iload_n 0, 1) := by decide +kernel
theorem dX9_sizeOf_1 : decode cX9_sizeOf 1 = .ok (.iload_n 1, 1) := by decide +kernel
theorem dX9_sizeOf_2 : decode cX9_sizeOf 2 = .ok (.invokestatic 348, 3) := by decide +kernel
theorem dX9_sizeOf_5 : decode cX9_sizeOf 5 = .ok (.iload_n 0, 1) := by decide +kernel
theorem dX9_sizeOf_6 : decode cX9_sizeOf 6 = .ok (.iload_n 1, 1) := by decide +kernel
theorem dX9_sizeOf_7 : decode cX9_sizeOf 7 = .ok (.invokestatic 351, 3) := by decide +kernel
theorem dX9_sizeOf_10 : decode cX9_sizeOf 10 = .ok (.imul, 1) := by decide +kernel
theorem dX9_sizeOf_11 : decode cX9_sizeOf 11 = .ok (.ireturn, 1) := by decide +kernel
theorem dX9_isInside_0 : decode cX9_isInside 0 = .ok (.iload_n 0, 1) := by decide +kernel
theorem dX9_isInside_1 : decode cX9_isInside 1 = .ok (.bipush 7, 2) := by decide +kernel
theorem dX9_isInside_3 : decode cX9_isInside 3 = .ok (.irem, 1) := by decide +kernel
theorem dX9_isInside_4 : decode cX9_isInside 4 = .ok (.istore_n 3, 1) := by decide +kernel
theorem dX9_isInside_5 : decode cX9_isInside 5 = .ok (.iload_n 0, 1) := by decide +kernel
theorem dX9_isInside_6 : decode cX9_isInside 6 = .ok (.iload_n 1, 1) := by decide +kernel
theorem dX9_isInside_7 : decode cX9_isInside 7 = .ok (.if_icmp .lt 28, 3) := by decide +kernel
theorem dX9_isInside_10 : decode cX9_isInside 10 = .ok (.iload_n 0, 1) := by decide +kernel
theorem dX9_isInside_11 : decode cX9_isInside 11 = .ok (.iload_n 2, 1) := by decide +kernel
theorem dX9_isInside_12 : decode cX9_isInside 12 = .ok (.if_icmp .gt 23, 3) := by decide +kernel
theorem dX9_isInside_15 : decode cX9_isInside 15 = .ok (.iload_n 3, 1) := by decide +kernel
theorem dX9_isInside_16 : decode cX9_isInside 16 = .ok (.iload_n 1, 1) := by decide +kernel
theorem dX9_isInside_17 : decode cX9_isInside 17 = .ok (.bipush 7, 2) := by decide +kernel
theorem dX9_isInside_19 : decode cX9_isInside 19 = .ok (.irem, 1) := by decide +kernel
theorem dX9_isInside_20 : decode cX9_isInside 20 = .ok (.if_icmp .lt 15, 3) := by decide +kernel
theorem dX9_isInside_23 : decode cX9_isInside 23 = .ok (.iload_n 3, 1) := by decide +kernel
theorem dX9_isInside_24 : decode cX9_isInside 24 = .ok (.iload_n 2, 1) := by decide +kernel
theorem dX9_isInside_25 : decode cX9_isInside 25 = .ok (.bipush 7, 2) := by decide +kernel
theorem dX9_isInside_27 : decode cX9_isInside 27 = .ok (.irem, 1) := by decide +kernel
theorem dX9_isInside_28 : decode cX9_isInside 28 = .ok (.if_icmp .gt 7, 3) := by decide +kernel
theorem dX9_isInside_31 : decode cX9_isInside 31 = .ok (.iconst 1, 1) := by decide +kernel
theorem dX9_isInside_32 : decode cX9_isInside 32 = .ok (.goto 4, 3) := by decide +kernel
theorem dX9_isInside_35 : decode cX9_isInside 35 = .ok (.iconst 0, 1) := by decide +kernel
theorem dX9_isInside_36 : decode cX9_isInside 36 = .ok (.ireturn, 1) := by decide +kernel
set_option maxRecDepth 20000 in
theorem ggX9_cellsOf_X9_isInside : GoodIn wsX9_cellsOf wsX9_isInside := goodIn_r _ [4] (by decide +kernel) (by decide +kernel)
set_option maxRecDepth 20000 in
theorem gX9_cellsOf_X9_isInside : GoodIn wsX9_cellsOf (va_wsS RX9 354 yX9_isInside wsX9_isInside) := goodIn_app (goodIn_of _ (by decide +kernel)) ggX9_cellsOf_X9_isInside
set_option maxRecDepth 20000 in
theorem ggX9_cellsOf_X9_bit : GoodIn wsX9_cellsOf wsX9_bit := goodIn_r _ [7] (by decide +kernel) (by decide +kernel)
set_option maxRecDepth 20000 in
theorem gX9_cellsOf_X9_bit : GoodIn wsX9_cellsOf (va_wsS RX9 344 yX9_bit wsX9_bit) := goodIn_app (goodIn_of _ (by decide +kernel)) ggX9_cellsOf_X9_bit
theorem dX9_cellsOf_0 : decode cX9_cellsOf 0 = .ok (.lconst 0, 1) := by decide +kernel
theorem dX9_cellsOf_1 : decode cX9_cellsOf 1 = .ok (.lstore_n 2, 1) := by decide +kernel
theorem dX9_cellsOf_2 : decode cX9_cellsOf 2 = .ok (.iconst 0, 1) := by decide +kernel
theorem dX9_cellsOf_3 : decode cX9_cellsOf 3 = .ok (.istore 4, 2) := by decide +kernel
theorem dX9_cellsOf_5 : decode cX9_cellsOf 5 = .ok (.iload 4, 2) := by decide +kernel
theorem dX9_cellsOf_7 : decode cX9_cellsOf 7 = .ok (.bipush 42, 2) := by decide +kernel
theorem dX9_cellsOf_9 : decode cX9_cellsOf 9 = .ok (.if_icmp .ge 31, 3) := by decide +kernel
theorem dX9_cellsOf_12 : decode cX9_cellsOf 12 = .ok (.lload_n 2, 1) := by decide +kernel
theorem dX9_cellsOf_13 : decode cX9_cellsOf 13 = .ok (.iload 4, 2) := by decide +kernel
theorem dX9_cellsOf_15 : decode cX9_cellsOf 15 = .ok (.iload_n 0, 1) := by decide +kernel
theorem dX9_cellsOf_16 : decode cX9_cellsOf 16 = .ok (.iload_n 1, 1) := by decide +kernel
theorem dX9_cellsOf_17 : decode cX9_cellsOf 17 = .ok (.invokestatic 354, 3) := by decide +kernel
theorem dX9_cellsOf_20 : decode cX9_cellsOf 20 = .ok (.ifCond .eq 11, 3) := by decide +kernel
theorem dX9_cellsOf_23 : decode cX9_cellsOf 23 = .ok (.iload 4, 2) := by decide +kernel
theorem dX9_cellsOf_25 : decode cX9_cellsOf 25 = .ok (.invokestatic 344, 3) := by decide +kernel
theorem dX9_cellsOf_28 : decode cX9_cellsOf 28 = .ok (.goto 4, 3) := by decide +kernel
theorem dX9_cellsOf_31 : decode cX9_cellsOf 31 = .ok (.lconst 0, 1) := by decide +kernel
theorem dX9_cellsOf_32 : decode cX9_cellsOf 32 = .ok (.lor, 1) := by decide +kernel
theorem dX9_cellsOf_33 : decode cX9_cellsOf 33 = .ok (.lstore_n 2, 1) := by decide +kernel
theorem dX9_cellsOf_34 : decode cX9_cellsOf 34 = .ok (.iinc 4 1, 3) := by decide +kernel
theorem dX9_cellsOf_37 : decode cX9_cellsOf 37 = .ok (.goto (-32), 3) := by decide +kernel
theorem dX9_cellsOf_40 : decode cX9_cellsOf 40 = .ok (.lload_n 2, 1) := by decide +kernel
theorem dX9_cellsOf_41 : decode cX9_cellsOf 41 = .ok (.lreturn, 1) := by decide +kernel
