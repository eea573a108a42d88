set_option maxRecDepth 20000 in
theorem ggX9_init_X0_init : GoodIn wsX9_init wsX0_init := goodIn_r _ [39, 40, 2, 3, 41, 42, 43, 44, 45, 46, 123, 124, 125, 126] (by decide +kernel) (by decide +kernel)
set_option maxRecDepth 20000 in
theorem gX9_init_X0_init : GoodIn wsX9_init (wsX0_init) := ggX9_init_X0_init
set_option maxRecDepth 20000 in
theorem ggX9_init_X3_init : GoodIn wsX9_init wsX3_init := goodIn_r _ [49, 50, 2, 3, 51, 52, 5, 6, 53, 43, 54, 55, 56, 38, 39, 40, 41, 42, 44, 45, 46, 136, 137, 138, 139, 123, 124, 125, 126] (by decide +kernel) (by decide +kernel)
set_option maxRecDepth 20000 in
theorem gX9_init_X3_init : GoodIn wsX9_init (wsX3_init) := ggX9_init_X3_init
set_option maxRecDepth 20000 in
theorem ggX9_init_X4_init : GoodIn wsX9_init wsX4_init := goodIn_r _ [59, 60, 2, 3, 41, 61, 62, 140, 141] (by decide +kernel) (by decide +kernel)
set_option maxRecDepth 20000 in
theorem gX9_init_X4_init : GoodIn wsX9_init (wsX4_init) := ggX9_init_X4_init
set_option maxRecDepth 20000 in
theorem ggX9_init_X5_init : GoodIn wsX9_init wsX5_init := goodIn_r _ [65, 66, 2, 3, 41, 67, 68, 69, 70, 142, 143, 144, 145] (by decide +kernel) (by decide +kernel)
set_option maxRecDepth 20000 in
theorem gX9_init_X5_init : GoodIn wsX9_init (wsX5_init) := ggX9_init_X5_init
set_option maxRecDepth 20000 in
theorem ggX9_init_X7_init : GoodIn wsX9_init wsX7_init := goodIn_r _ [73, 74, 2, 3, 41, 75, 76, 77, 78, 79, 80, 81, 82, 83, 84, 85, 86, 87, 88, 89, 90, 91, 92, 146, 147, 148, 149, 150, 151, 152, 153] (by decide +kernel) (by decide +kernel)
set_option maxRecDepth 20000 in
theorem gX9_init_X7_init : GoodIn wsX9_init (wsX7_init) := ggX9_init_X7_init
set_option maxRecDepth 20000 in
theorem ggX9_init_X8_init : GoodIn wsX9_init wsX8_init := goodIn_r _ [95, 96, 2, 3, 97, 43, 98, 77, 99, 100, 101, 102, 103, 154, 155, 156, 157, 158, 159, 160] (by decide +kernel) (by decide +kernel)
set_option maxRecDepth 20000 in
theorem gX9_init_X8_init : GoodIn wsX9_init (wsX8_init) := ggX9_init_X8_init
set_option maxRecDepth 20000 in
theorem ggX9_init_X6_init : GoodIn wsX9_init wsX6_init := goodIn_r _ [106, 107, 2, 3, 108, 41, 109, 110, 111, 161, 162, 163, 164] (by decide +kernel) (by decide +kernel)
set_option maxRecDepth 20000 in
theorem gX9_init_X6_init : GoodIn wsX9_init (wsX6_init) := ggX9_init_X6_init
set_option maxRecDepth 20000 in
theorem ggX9_init_X1_init : GoodIn wsX9_init wsX1_init := goodIn_r _ [114, 115, 2, 3, 116, 41, 117, 118, 5, 6, 119, 120, 121, 122, 38, 39, 40, 42, 43, 44, 45, 46, 165, 166, 167, 168, 169, 123, 124, 125, 126] (by decide +kernel) (by decide +kernel)
set_option maxRecDepth 20000 in
theorem gX9_init_X1_init : GoodIn wsX9_init (wsX1_init) := ggX9_init_X1_init
theorem dX9_init_0 : decode cX9_init 0 = .ok (.aload_n 0, 1) := by decide +kernel
theorem dX9_init_1 : decode cX9_init 1 = .ok (.invokespecial 3, 3) := by decide +kernel
theorem dX9_init_4 : decode cX9_init 4 = .ok (.aload_n 0, 1) := by decide +kernel
theorem dX9_init_5 : decode cX9_init 5 = .ok (.new 9, 3) := by decide +kernel
theorem dX9_init_8 : decode cX9_init 8 = .ok (.dup, 1) := by decide +kernel
theorem dX9_init_9 : decode cX9_init 9 = .ok (.invokespecial 11, 3) := by decide +kernel
theorem dX9_init_12 : decode cX9_init 12 = .ok (.putfield 12, 3) := by decide +kernel
theorem dX9_init_15 : decode cX9_init 15 = .ok (.aload_n 0, 1) := by decide +kernel
theorem dX9_init_16 : decode cX9_init 16 = .ok (.new 9, 3) := by decide +kernel
theorem dX9_init_19 : decode cX9_init 19 = .ok (.dup, 1) := by decide +kernel
theorem dX9_init_20 : decode cX9_init 20 = .ok (.invokespecial 11, 3) := by decide +kernel
theorem dX9_init_23 : decode cX9_init 23 = .ok (.putfield 16, 3) := by decide +kernel
theorem dX9_init_26 : decode cX9_init 26 = .ok (.aload_n 0, 1) := by decide +kernel
theorem dX9_init_27 : decode cX9_init 27 = .ok (.new 19, 3) := by decide +kernel
theorem dX9_init_30 : decode cX9_init 30 = .ok (.dup, 1) := by decide +kernel
theorem dX9_init_31 : decode cX9_init 31 = .ok (.invokespecial 21, 3) := by decide +kernel
theorem dX9_init_34 : decode cX9_init 34 = .ok (.putfield 22, 3) := by decide +kernel
theorem dX9_init_37 : decode cX9_init 37 = .ok (.aload_n 0, 1) := by decide +kernel
theorem dX9_init_38 : decode cX9_init 38 = .ok (.new 26, 3) := by decide +kernel
theorem dX9_init_41 : decode cX9_init 41 = .ok (.dup, 1) := by decide +kernel
theorem dX9_init_42 : decode cX9_init 42 = .ok (.invokespecial 28, 3) := by decide +kernel
theorem dX9_init_45 : decode cX9_init 45 = .ok (.putfield 29, 3) := by decide +kernel
theorem dX9_init_48 : decode cX9_init 48 = .ok (.aload_n 0, 1) := by decide +kernel
theorem dX9_init_49 : decode cX9_init 49 = .ok (.new 33, 3) := by decide +kernel
theorem dX9_init_52 : decode cX9_init 52 = .ok (.dup, 1) := by decide +kernel
theorem dX9_init_53 : decode cX9_init 53 = .ok (.invokespecial 35, 3) := by decide +kernel
theorem dX9_init_56 : decode cX9_init 56 = .ok (.putfield 36, 3) := by decide +kernel
theorem dX9_init_59 : decode cX9_init 59 = .ok (.new 40, 3) := by decide +kernel
theorem dX9_init_62 : decode cX9_init 62 = .ok (.dup, 1) := by decide +kernel
theorem dX9_init_63 : decode cX9_init 63 = .ok (.invokespecial 42, 3) := by decide +kernel
theorem dX9_init_66 : decode cX9_init 66 = .ok (.astore_n 1, 1) := by decide +kernel
theorem dX9_init_67 : decode cX9_init 67 = .ok (.aload_n 0, 1) := by decide +kernel
theorem dX9_init_68 : decode cX9_init 68 = .ok (.aload_n 1, 1) := by decide +kernel
theorem dX9_init_69 : decode cX9_init 69 = .ok (.putfield 43, 3) := by decide +kernel
theorem dX9_init_72 : decode cX9_init 72 = .ok (.aload_n 0, 1) := by decide +kernel
theorem dX9_init_73 : decode cX9_init 73 = .ok (.new 47, 3) := by decide +kernel
theorem dX9_init_76 : decode cX9_init 76 = .ok (.dup, 1) := by decide +kernel
theorem dX9_init_77 : decode cX9_init 77 = .ok (.aload_n 1, 1) := by decide +kernel
theorem dX9_init_78 : decode cX9_init 78 = .ok (.invokespecial 49, 3) := by decide +kernel
theorem dX9_init_81 : decode cX9_init 81 = .ok (.putfield 52, 3) := by decide +kernel
theorem dX9_init_84 : decode cX9_init 84 = .ok (.aload_n 0, 1) := by decide +kernel
theorem dX9_init_85 : decode cX9_init 85 = .ok (.new 56, 3) := by decide +kernel
theorem dX9_init_88 : decode cX9_init 88 = .ok (.dup, 1) := by decide +kernel
theorem dX9_init_89 : decode cX9_init 89 = .ok (.aload_n 1, 1) := by decide +kernel
theorem dX9_init_90 : decode cX9_init 90 = .ok (.invokespecial 58, 3) := by decide +kernel
theorem dX9_init_93 : decode cX9_init 93 = .ok (.putfield 59, 3) := by decide +kernel
theorem dX9_init_96 : decode cX9_init 96 = .ok (.aload_n 0, 1) := by decide +kernel
theorem dX9_init_97 : decode cX9_init 97 = .ok (.new 63, 3) := by decide +kernel
theorem dX9_init_100 : decode cX9_init 100 = .ok (.dup, 1) := by decide +kernel
theorem dX9_init_101 : decode cX9_init 101 = .ok (.aload_n 1, 1) := by decide +kernel
theorem dX9_init_102 : decode cX9_init 102 = .ok (.invokespecial 65, 3) := by decide +kernel
theorem dX9_init_105 : decode cX9_init 105 = .ok (.putfield 66, 3) := by decide +kernel
theorem dX9_init_108 : decode cX9_init 108 = .ok (.return_, 1) := by decide +kernel
set_option maxRecDepth 20000 in
theorem ggX9_write_X9_checkedCell : GoodIn wsX9_write wsX9_checkedCell := goodIn_ca (goodIn_r _ [10, 11, 12, 13, 14, 9, 15] (by decide +kernel) (by decide +kernel)) (goodIn_sub (fun _ h => List.mem_cons_of_mem _ (List.mem_append_right _ h)) (by decide +kernel))
set_option maxRecDepth 20000 in
theorem gX9_write_X9_checkedCell : GoodIn wsX9_write (va_wsS RX9 70 yX9_checkedCell wsX9_checkedCell) := goodIn_app (goodIn_of _ (by decide +kernel)) ggX9_write_X9_checkedCell
set_option maxRecDepth 20000 in
theorem ggX9_write_X0_hasField : GoodIn wsX9_write wsX0_hasField := goodIn_r _ [20, 21, 22, 9, 23, 59, 60, 61, 62] (by decide +kernel) (by decide +kernel)
set_option maxRecDepth 20000 in
theorem gX9_write_X0_hasField : GoodIn wsX9_write (wsV RX9 81 RX0 yX0_hasField wsX0_hasField) := goodIn_app (goodIn_of _ (by decide +kernel)) ggX9_write_X0_hasField
set_option maxRecDepth 20000 in
theorem ggX9_write_X3_save : GoodIn wsX9_write wsX3_save := goodIn_r _ [28, 29, 30, 31, 32, 33, 27, 34, 35, 36, 37, 19, 38, 39, 21, 40, 41, 63, 64, 65, 66, 59, 60, 61, 62] (by decide +kernel) (by decide +kernel)
set_option maxRecDepth 20000 in
theorem gX9_write_X3_save : GoodIn wsX9_write (wsV RX9 90 RX3 yX3_save wsX3_save) := goodIn_app (goodIn_of _ (by decide +kernel)) ggX9_write_X3_save
set_option maxRecDepth 20000 in
theorem ggX9_write_X0_numberIn : GoodIn wsX9_write wsX0_numberIn := goodIn_r _ [45, 39, 22, 9, 23, 59, 60, 61, 62] (by decide +kernel) (by decide +kernel)
set_option maxRecDepth 20000 in
theorem gX9_write_X0_numberIn : GoodIn wsX9_write (wsV RX9 94 RX0 yX0_numberIn wsX0_numberIn) := goodIn_app (goodIn_of _ (by decide +kernel)) ggX9_write_X0_numberIn
set_option maxRecDepth 20000 in
theorem ggX9_write_X0_setNumber : GoodIn wsX9_write wsX0_setNumber := goodIn_r _ [49, 39, 22, 9, 23, 59, 60, 61, 62] (by decide +kernel) (by decide +kernel)
set_option maxRecDepth 20000 in
theorem gX9_write_X0_setNumber : GoodIn wsX9_write (wsV RX9 98 RX0 yX0_setNumber wsX0_setNumber) := goodIn_app (goodIn_of _ (by decide +kernel)) ggX9_write_X0_setNumber
theorem dX9_write_0 : decode cX9_write 0 = .ok (.iload_n 1, 1) := by decide +kernel
theorem dX9_write_1 : decode cX9_write 1 = .ok (.iload_n 2, 1) := by decide +kernel
theorem dX9_write_2 : decode cX9_write 2 = .ok (.invokestatic 70, 3) := by decide +kernel
theorem dX9_write_5 : decode cX9_write 5 = .ok (.istore 4, 2) := by decide +kernel
theorem dX9_write_7 : decode cX9_write 7 = .ok (.iload_n 3, 1) := by decide +kernel
theorem dX9_write_8 : decode cX9_write 8 = .ok (.ifCond .lt 9, 3) := by decide +kernel
theorem dX9_write_11 : decode cX9_write 11 = .ok (.iload_n 3, 1) := by decide +kernel
theorem dX9_write_12 : decode cX9_write 12 = .ok (.bipush 20, 2) := by decide +kernel
theorem dX9_write_14 : decode cX9_write 14 = .ok (.if_icmp .le 13, 3) := by decide +kernel
theorem dX9_write_17 : decode cX9_write 17 = .ok (.new 74, 3) := by decide +kernel
theorem dX9_write_20 : decode cX9_write 20 = .ok (.dup, 1) := by decide +kernel
theorem dX9_write_21 : decode cX9_write 21 = .ok (.ldc 76, 2) := by decide +kernel
theorem dX9_write_23 : decode cX9_write 23 = .ok (.invokespecial 78, 3) := by decide +kernel
theorem dX9_write_26 : decode cX9_write 26 = .ok (.athrow, 1) := by decide +kernel
theorem dX9_write_27 : decode cX9_write 27 = .ok (.aload_n 0, 1) := by decide +kernel
theorem dX9_write_28 : decode cX9_write 28 = .ok (.getfield 12, 3) := by decide +kernel
theorem dX9_write_31 : decode cX9_write 31 = .ok (.iload 4, 2) := by decide +kernel
theorem dX9_write_33 : decode cX9_write 33 = .ok (.invokevirtual 81, 3) := by decide +kernel
theorem dX9_write_36 : decode cX9_write 36 = .ok (.ifCond .eq 13, 3) := by decide +kernel
theorem dX9_write_39 : decode cX9_write 39 = .ok (.new 85, 3) := by decide +kernel
theorem dX9_write_42 : decode cX9_write 42 = .ok (.dup, 1) := by decide +kernel
theorem dX9_write_43 : decode cX9_write 43 = .ok (.ldc 87, 2) := by decide +kernel
theorem dX9_write_45 : decode cX9_write 45 = .ok (.invokespecial 89, 3) := by decide +kernel
theorem dX9_write_48 : decode cX9_write 48 = .ok (.athrow, 1) := by decide +kernel
theorem dX9_write_49 : decode cX9_write 49 = .ok (.aload_n 0, 1) := by decide +kernel
theorem dX9_write_50 : decode cX9_write 50 = .ok (.getfield 22, 3) := by decide +kernel
theorem dX9_write_53 : decode cX9_write 53 = .ok (.aload_n 0, 1) := by decide +kernel
theorem dX9_write_54 : decode cX9_write 54 = .ok (.getfield 12, 3) := by decide +kernel
theorem dX9_write_57 : decode cX9_write 57 = .ok (.invokevirtual 90, 3) := by decide +kernel
theorem dX9_write_60 : decode cX9_write 60 = .ok (.aload_n 0, 1) := by decide +kernel
theorem dX9_write_61 : decode cX9_write 61 = .ok (.getfield 12, 3) := by decide +kernel
theorem dX9_write_64 : decode cX9_write 64 = .ok (.iload 4, 2) := by decide +kernel
theorem dX9_write_66 : decode cX9_write 66 = .ok (.invokevirtual 94, 3) := by decide +kernel
theorem dX9_write_69 : decode cX9_write 69 = .ok (.istore 5, 2) := by decide +kernel
theorem dX9_write_71 : decode cX9_write 71 = .ok (.aload_n 0, 1) := by decide +kernel
theorem dX9_write_72 : decode cX9_write 72 = .ok (.getfield 12, 3) := by decide +kernel
theorem dX9_write_75 : decode cX9_write 75 = .ok (.iload 4, 2) := by decide +kernel
theorem dX9_write_77 : decode cX9_write 77 = .ok (.iload_n 3, 1) := by decide +kernel
theorem dX9_write_78 : decode cX9_write 78 = .ok (.invokevirtual 98, 3) := by decide +kernel
theorem dX9_write_81 : decode cX9_write 81 = .ok (.iload 5, 2) := by decide +kernel
theorem dX9_write_83 : decode cX9_write 83 = .ok (.ireturn, 1) := by decide +kernel
set_option maxRecDepth 20000 in
theorem ggX9_make_X3_save : GoodIn wsX9_make wsX3_save := goodIn_r _ [11, 12, 13, 14, 15, 16, 10, 17, 18, 19, 20, 21, 22, 23, 24, 25, 26, 110, 111, 112, 113, 114, 115, 116, 117] (by decide +kernel) (by decide +kernel)
set_option maxRecDepth 20000 in
theorem gX9_make_X3_save : GoodIn wsX9_make (wsV RX9 90 RX3 yX3_save wsX3_save) := goodIn_app (goodIn_of _ (by decide +kernel)) ggX9_make_X3_save
set_option maxRecDepth 20000 in
theorem ggX9_make_X5_writeNumbers : GoodIn wsX9_make wsX5_writeNumbers := goodIn_r _ [31, 32, 33, 34, 35, 36, 37, 38, 21, 39, 24, 40, 41, 42, 43, 23, 44, 45, 46, 30, 47, 48, 49, 50, 51, 52, 53, 54, 55, 56, 57, 58, 59, 60, 61, 62, 63, 64, 65, 66, 67, 68, 69, 70, 71, 72, 73, 74, 75, 76, 77, 78, 79, 80, 81, 82, 83, 84, 85, 86, 87, 118, 119, 120, 121, 114, 115, 116, 117] (by decide +kernel) (by decide +kernel)
set_option maxRecDepth 20000 in
theorem gX9_make_X5_writeNumbers : GoodIn wsX9_make (wsV RX9 105 RX5 yX5_writeNumbers wsX5_writeNumbers) := goodIn_app (goodIn_of _ (by decide +kernel)) ggX9_make_X5_writeNumbers
set_option maxRecDepth 20000 in
theorem ggX9_make_X0_cellsWithNumber : GoodIn wsX9_make wsX0_cellsWithNumber := goodIn_r _ [91, 23, 92, 57, 93, 114, 115, 116, 117] (by decide +kernel) (by decide +kernel)
set_option maxRecDepth 20000 in
theorem gX9_make_X0_cellsWithNumber : GoodIn wsX9_make (wsV RX9 109 RX0 yX0_cellsWithNumber wsX0_cellsWithNumber) := goodIn_app (goodIn_of _ (by decide +kernel)) ggX9_make_X0_cellsWithNumber
set_option maxRecDepth 20000 in
theorem ggX9_make_J13_bitCount_95d88 : GoodIn wsX9_make wsJ13_bitCount_95d88 := goodIn_r _ [97, 98, 99, 100] (by decide +kernel) (by decide +kernel)
set_option maxRecDepth 20000 in
theorem gX9_make_J13_bitCount_95d88 : GoodIn wsX9_make (va_wsS RX9 113 yJ13_bitCount_95d88 wsJ13_bitCount_95d88) := goodIn_app (goodIn_of _ (by decide +kernel)) ggX9_make_J13_bitCount_95d88
theorem dX9_make_0 : decode cX9_make 0 = .ok (.iload_n 1, 1) := by decide +kernel
theorem dX9_make_1 : decode cX9_make 1 = .ok (.ifCond .lt 9, 3) := by decide +kernel
theorem dX9_make_4 : decode cX9_make 4 = .ok (.iload_n 1, 1) := by decide +kernel
theorem dX9_make_5 : decode cX9_make 5 = .ok (.ldc 102, 2) := by decide +kernel
theorem dX9_make_7 : decode cX9_make 7 = .ok (.if_icmp .le 13, 3) := by decide +kernel
theorem dX9_make_10 : decode cX9_make 10 = .ok (.new 74, 3) := by decide +kernel
theorem dX9_make_13 : decode cX9_make 13 = .ok (.dup, 1) := by decide +kernel
theorem dX9_make_14 : decode cX9_make 14 = .ok (.ldc 103, 2) := by decide +kernel
theorem dX9_make_16 : decode cX9_make 16 = .ok (.invokespecial 78, 3) := by decide +kernel
theorem dX9_make_19 : decode cX9_make 19 = .ok (.athrow, 1) := by decide +kernel
theorem dX9_make_20 : decode cX9_make 20 = .ok (.aload_n 0, 1) := by decide +kernel
theorem dX9_make_21 : decode cX9_make 21 = .ok (.getfield 22, 3) := by decide +kernel
theorem dX9_make_24 : decode cX9_make 24 = .ok (.aload_n 0, 1) := by decide +kernel
theorem dX9_make_25 : decode cX9_make 25 = .ok (.getfield 12, 3) := by decide +kernel
theorem dX9_make_28 : decode cX9_make 28 = .ok (.invokevirtual 90, 3) := by decide +kernel
theorem dX9_make_31 : decode cX9_make 31 = .ok (.aload_n 0, 1) := by decide +kernel
theorem dX9_make_32 : decode cX9_make 32 = .ok (.getfield 36, 3) := by decide +kernel
theorem dX9_make_35 : decode cX9_make 35 = .ok (.aload_n 0, 1) := by decide +kernel
theorem dX9_make_36 : decode cX9_make 36 = .ok (.getfield 12, 3) := by decide +kernel
theorem dX9_make_39 : decode cX9_make 39 = .ok (.iload_n 1, 1) := by decide +kernel
theorem dX9_make_40 : decode cX9_make 40 = .ok (.invokevirtual 105, 3) := by decide +kernel
theorem dX9_make_43 : decode cX9_make 43 = .ok (.aload_n 0, 1) := by decide +kernel
theorem dX9_make_44 : decode cX9_make 44 = .ok (.getfield 12, 3) := by decide +kernel
theorem dX9_make_47 : decode cX9_make 47 = .ok (.invokevirtual 109, 3) := by decide +kernel
theorem dX9_make_50 : decode cX9_make 50 = .ok (.invokestatic 113, 3) := by decide +kernel
theorem dX9_make_53 : decode cX9_make 53 = .ok (.ireturn, 1) := by decide +kernel
set_option maxRecDepth 20000 in
theorem ggX9_draw_X9_checkRectangle : GoodIn wsX9_draw wsX9_checkRectangle := goodIn_ca (goodIn_r _ [8, 9, 10] (by decide +kernel) (by decide +kernel)) (goodIn_sub (fun _ h => List.mem_cons_of_mem _ (List.mem_append_right _ h)) (by decide +kernel))
set_option maxRecDepth 20000 in
theorem gX9_draw_X9_checkRectangle : GoodIn wsX9_draw (va_wsS RX9 119 yX9_checkRectangle wsX9_checkRectangle) := goodIn_app (goodIn_of _ (by decide +kernel)) ggX9_draw_X9_checkRectangle
set_option maxRecDepth 20000 in
theorem ggX9_draw_X9_cellAt : GoodIn wsX9_draw wsX9_cellAt := goodIn_r _ [13] (by decide +kernel) (by decide +kernel)
set_option maxRecDepth 20000 in
theorem gX9_draw_X9_cellAt : GoodIn wsX9_draw (va_wsS RX9 123 yX9_cellAt wsX9_cellAt) := goodIn_app (goodIn_of _ (by decide +kernel)) ggX9_draw_X9_cellAt
set_option maxRecDepth 20000 in
theorem ggX9_draw_X0_reason : GoodIn wsX9_draw wsX0_reason := goodIn_r _ [18, 19, 7, 20, 21, 22, 23, 24, 25, 26, 27, 28, 29, 17, 30, 31, 32, 33, 34, 35, 36, 37, 38, 39, 40, 41, 42, 43, 44, 45, 46, 47, 48, 49, 50, 51, 52, 53, 54, 55, 56, 57, 90, 91, 92, 93] (by decide +kernel) (by decide +kernel)
set_option maxRecDepth 20000 in
theorem gX9_draw_X0_reason : GoodIn wsX9_draw (wsV RX9 126 RX0 yX0_reason wsX0_reason) := goodIn_app (goodIn_of _ (by decide +kernel)) ggX9_draw_X0_reason
set_option maxRecDepth 20000 in
theorem ggX9_draw_X3_save : GoodIn wsX9_draw wsX3_save := goodIn_r _ [62, 63, 64, 65, 66, 67, 61, 68, 69, 70, 71, 17, 72, 31, 43, 73, 74, 94, 95, 96, 97, 90, 91, 92, 93] (by decide +kernel) (by decide +kernel)
set_option maxRecDepth 20000 in
theorem gX9_draw_X3_save : GoodIn wsX9_draw (wsV RX9 90 RX3 yX3_save wsX3_save) := goodIn_app (goodIn_of _ (by decide +kernel)) ggX9_draw_X3_save
set_option maxRecDepth 20000 in
theorem ggX9_draw_X0_place : GoodIn wsX9_draw wsX0_place := goodIn_r _ [78, 43, 73, 74, 22, 7, 23, 90, 91, 92, 93] (by decide +kernel) (by decide +kernel)
set_option maxRecDepth 20000 in
theorem gX9_draw_X0_place : GoodIn wsX9_draw (wsV RX9 131 RX0 yX0_place wsX0_place) := goodIn_app (goodIn_of _ (by decide +kernel)) ggX9_draw_X0_place
set_option maxRecDepth 20000 in
theorem ggX9_draw_X0_cellsInFields : GoodIn wsX9_draw wsX0_cellsInFields := goodIn_r _ [42, 43, 25, 7, 26, 90, 91, 92, 93] (by decide +kernel) (by decide +kernel)
set_option maxRecDepth 20000 in
theorem gX9_draw_X0_cellsInFields : GoodIn wsX9_draw (wsV RX9 134 RX0 yX0_cellsInFields wsX0_cellsInFields) := goodIn_app (goodIn_of _ (by decide +kernel)) ggX9_draw_X0_cellsInFields
set_option maxRecDepth 20000 in
theorem ggX9_draw_J13_bitCount_95d88 : GoodIn wsX9_draw wsJ13_bitCount_95d88 := goodIn_r _ [35, 36, 37, 38] (by decide +kernel) (by decide +kernel)
set_option maxRecDepth 20000 in
theorem gX9_draw_J13_bitCount_95d88 : GoodIn wsX9_draw (va_wsS RX9 113 yJ13_bitCount_95d88 wsJ13_bitCount_95d88) := goodIn_app (goodIn_of _ (by decide +kernel)) ggX9_draw_J13_bitCount_95d88
theorem dX9_draw_0 : decode cX9_draw 0 = .ok (.iload_n 1, 1) := by decide +kernel
theorem dX9_draw_1 : decode cX9_draw 1 = .ok (.iload_n 2, 1) := by decide +kernel
theorem dX9_draw_2 : decode cX9_draw 2 = .ok (.iload_n 3, 1) := by decide +kernel
theorem dX9_draw_3 : decode cX9_draw 3 = .ok (.iload 4, 2) := by decide +kernel
theorem dX9_draw_5 : decode cX9_draw 5 = .ok (.invokestatic 119, 3) := by decide +kernel
theorem dX9_draw_8 : decode cX9_draw 8 = .ok (.iload_n 1, 1) := by decide +kernel
theorem dX9_draw_9 : decode cX9_draw 9 = .ok (.iload_n 2, 1) := by decide +kernel
theorem dX9_draw_10 : decode cX9_draw 10 = .ok (.invokestatic 123, 3) := by decide +kernel
theorem dX9_draw_13 : decode cX9_draw 13 = .ok (.istore 5, 2) := by decide +kernel
theorem dX9_draw_15 : decode cX9_draw 15 = .ok (.iload_n 3, 1) := by decide +kernel
theorem dX9_draw_16 : decode cX9_draw 16 = .ok (.iload 4, 2) := by decide +kernel
theorem dX9_draw_18 : decode cX9_draw 18 = .ok (.invokestatic 123, 3) := by decide +kernel
theorem dX9_draw_21 : decode cX9_draw 21 = .ok (.istore 6, 2) := by decide +kernel
theorem dX9_draw_23 : decode cX9_draw 23 = .ok (.aload_n 0, 1) := by decide +kernel
theorem dX9_draw_24 : decode cX9_draw 24 = .ok (.getfield 12, 3) := by decide +kernel
theorem dX9_draw_27 : decode cX9_draw 27 = .ok (.iload 5, 2) := by decide +kernel
theorem dX9_draw_29 : decode cX9_draw 29 = .ok (.iload 6, 2) := by decide +kernel
theorem dX9_draw_31 : decode cX9_draw 31 = .ok (.invokevirtual 126, 3) := by decide +kernel
theorem dX9_draw_34 : decode cX9_draw 34 = .ok (.ifCond .eq 13, 3) := by decide +kernel
theorem dX9_draw_37 : decode cX9_draw 37 = .ok (.new 85, 3) := by decide +kernel
theorem dX9_draw_40 : decode cX9_draw 40 = .ok (.dup, 1) := by decide +kernel
theorem dX9_draw_41 : decode cX9_draw 41 = .ok (.ldc 129, 2) := by decide +kernel
theorem dX9_draw_43 : decode cX9_draw 43 = .ok (.invokespecial 89, 3) := by decide +kernel
theorem dX9_draw_46 : decode cX9_draw 46 = .ok (.athrow, 1) := by decide +kernel
theorem dX9_draw_47 : decode cX9_draw 47 = .ok (.aload_n 0, 1) := by decide +kernel
theorem dX9_draw_48 : decode cX9_draw 48 = .ok (.getfield 22, 3) := by decide +kernel
theorem dX9_draw_51 : decode cX9_draw 51 = .ok (.aload_n 0, 1) := by decide +kernel
theorem dX9_draw_52 : decode cX9_draw 52 = .ok (.getfield 12, 3) := by decide +kernel
theorem dX9_draw_55 : decode cX9_draw 55 = .ok (.invokevirtual 90, 3) := by decide +kernel
theorem dX9_draw_58 : decode cX9_draw 58 = .ok (.aload_n 0, 1) := by decide +kernel
theorem dX9_draw_59 : decode cX9_draw 59 = .ok (.getfield 12, 3) := by decide +kernel
theorem dX9_draw_62 : decode cX9_draw 62 = .ok (.iload 5, 2) := by decide +kernel
theorem dX9_draw_64 : decode cX9_draw 64 = .ok (.iload 6, 2) := by decide +kernel
theorem dX9_draw_66 : decode cX9_draw 66 = .ok (.invokevirtual 131, 3) := by decide +kernel
theorem dX9_draw_69 : decode cX9_draw 69 = .ok (.aload_n 0, 1) := by decide +kernel
theorem dX9_draw_70 : decode cX9_draw 70 = .ok (.getfield 12, 3) := by decide +kernel
theorem dX9_draw_73 : decode cX9_draw 73 = .ok (.invokevirtual 134, 3) := by decide +kernel
theorem dX9_draw_76 : decode cX9_draw 76 = .ok (.invokestatic 113, 3) := by decide +kernel
theorem dX9_draw_79 : decode cX9_draw 79 = .ok (.ireturn, 1) := by decide +kernel
set_option maxRecDepth 20000 in
theorem ggX9_erase_X9_checkedFieldCell : GoodIn wsX9_erase wsX9_checkedFieldCell := goodIn_ca (goodIn_ca (goodIn_r _ [7, 8, 9, 2, 10, 11, 6, 12, 13, 14, 15, 16, 17, 18, 19, 20, 21, 22, 23, 24, 25, 64, 65, 66, 67, 68, 69, 70, 71, 72, 73, 74, 75, 76] (by decide +kernel) (by decide +kernel)) (goodIn_sub (fun _ h => List.mem_cons_of_mem _ (List.mem_append_left _ (List.mem_append_right _ h))) (by decide +kernel))) (goodIn_sub (fun _ h => List.mem_cons_of_mem _ (List.mem_append_right _ h)) (by decide +kernel))
set_option maxRecDepth 20000 in
theorem gX9_erase_X9_checkedFieldCell : GoodIn wsX9_erase (wsV RX9 137 RX9 yX9_checkedFieldCell wsX9_checkedFieldCell) := goodIn_app (goodIn_of _ (by decide +kernel)) ggX9_erase_X9_checkedFieldCell
set_option maxRecDepth 20000 in
theorem ggX9_erase_X3_save : GoodIn wsX9_erase wsX3_save := goodIn_r _ [30, 31, 32, 33, 34, 35, 29, 36, 37, 38, 39, 21, 40, 41, 23, 42, 43, 77, 78, 79, 80, 73, 74, 75, 76] (by decide +kernel) (by decide +kernel)
set_option maxRecDepth 20000 in
theorem gX9_erase_X3_save : GoodIn wsX9_erase (wsV RX9 90 RX3 yX3_save wsX3_save) := goodIn_app (goodIn_of _ (by decide +kernel)) ggX9_erase_X3_save
set_option maxRecDepth 20000 in
theorem ggX9_erase_X0_sizeOfField : GoodIn wsX9_erase wsX0_sizeOfField := goodIn_r _ [47, 42, 43, 24, 6, 25, 48, 49, 50, 51, 52, 53, 54, 55, 73, 74, 75, 76] (by decide +kernel) (by decide +kernel)
set_option maxRecDepth 20000 in
theorem gX9_erase_X0_sizeOfField : GoodIn wsX9_erase (wsV RX9 140 RX0 yX0_sizeOfField wsX0_sizeOfField) := goodIn_app (goodIn_of _ (by decide +kernel)) ggX9_erase_X0_sizeOfField
set_option maxRecDepth 20000 in
theorem ggX9_erase_X0_removeField : GoodIn wsX9_erase wsX0_removeField := goodIn_r _ [59, 23, 42, 60, 61, 62, 21, 63, 24, 6, 25, 73, 74, 75, 76] (by decide +kernel) (by decide +kernel)
set_option maxRecDepth 20000 in
theorem gX9_erase_X0_removeField : GoodIn wsX9_erase (wsV RX9 143 RX0 yX0_removeField wsX0_removeField) := goodIn_app (goodIn_of _ (by decide +kernel)) ggX9_erase_X0_removeField
theorem dX9_erase_0 : decode cX9_erase 0 = .ok (.aload_n 0, 1) := by decide +kernel
theorem dX9_erase_1 : decode cX9_erase 1 = .ok (.iload_n 1, 1) := by decide +kernel
theorem dX9_erase_2 : decode cX9_erase 2 = .ok (.iload_n 2, 1) := by decide +kernel
theorem dX9_erase_3 : decode cX9_erase 3 = .ok (.invokevirtual 137, 3) := by decide +kernel
theorem dX9_erase_6 : decode cX9_erase 6 = .ok (.istore_n 3, 1) := by decide +kernel
theorem dX9_erase_7 : decode cX9_erase 7 = .ok (.aload_n 0, 1) := by decide +kernel
theorem dX9_erase_8 : decode cX9_erase 8 = .ok (.getfield 22, 3) := by decide +kernel
theorem dX9_erase_11 : decode cX9_erase 11 = .ok (.aload_n 0, 1) := by decide +kernel
theorem dX9_erase_12 : decode cX9_erase 12 = .ok (.getfield 12, 3) := by decide +kernel
theorem dX9_erase_15 : decode cX9_erase 15 = .ok (.invokevirtual 90, 3) := by decide +kernel
theorem dX9_erase_18 : decode cX9_erase 18 = .ok (.aload_n 0, 1) := by decide +kernel
theorem dX9_erase_19 : decode cX9_erase 19 = .ok (.getfield 12, 3) := by decide +kernel
theorem dX9_erase_22 : decode cX9_erase 22 = .ok (.iload_n 3, 1) := by decide +kernel
theorem dX9_erase_23 : decode cX9_erase 23 = .ok (.invokevirtual 140, 3) := by decide +kernel
theorem dX9_erase_26 : decode cX9_erase 26 = .ok (.istore 4, 2) := by decide +kernel
theorem dX9_erase_28 : decode cX9_erase 28 = .ok (.aload_n 0, 1) := by decide +kernel
theorem dX9_erase_29 : decode cX9_erase 29 = .ok (.getfield 12, 3) := by decide +kernel
theorem dX9_erase_32 : decode cX9_erase 32 = .ok (.iload_n 3, 1) := by decide +kernel
theorem dX9_erase_33 : decode cX9_erase 33 = .ok (.invokevirtual 143, 3) := by decide +kernel
theorem dX9_erase_36 : decode cX9_erase 36 = .ok (.iload 4, 2) := by decide +kernel
theorem dX9_erase_38 : decode cX9_erase 38 = .ok (.ireturn, 1) := by decide +kernel
set_option maxRecDepth 20000 in
theorem ggX9_eraseAll_X3_save : GoodIn wsX9_eraseAll wsX3_save := goodIn_r _ [7, 8, 9, 10, 11, 12, 6, 13, 14, 15, 16, 17, 18, 19, 20, 21, 22, 47, 48, 49, 50, 51, 52, 53, 54] (by decide +kernel) (by decide +kernel)
set_option maxRecDepth 20000 in
theorem gX9_eraseAll_X3_save : GoodIn wsX9_eraseAll (wsV RX9 90 RX3 yX3_save wsX3_save) := goodIn_app (goodIn_of _ (by decide +kernel)) ggX9_eraseAll_X3_save
set_option maxRecDepth 20000 in
theorem ggX9_eraseAll_X0_countFields : GoodIn wsX9_eraseAll wsX0_countFields := goodIn_r _ [26, 27, 28, 29, 17, 30, 20, 21, 31, 32, 33, 51, 52, 53, 54] (by decide +kernel) (by decide +kernel)
set_option maxRecDepth 20000 in
theorem gX9_eraseAll_X0_countFields : GoodIn wsX9_eraseAll (wsV RX9 147 RX0 yX0_countFields wsX0_countFields) := goodIn_app (goodIn_of _ (by decide +kernel)) ggX9_eraseAll_X0_countFields
set_option maxRecDepth 20000 in
theorem ggX9_eraseAll_X0_removeFields : GoodIn wsX9_eraseAll wsX0_removeFields := goodIn_r _ [37, 20, 51, 52, 53, 54] (by decide +kernel) (by decide +kernel)
set_option maxRecDepth 20000 in
theorem gX9_eraseAll_X0_removeFields : GoodIn wsX9_eraseAll (wsV RX9 151 RX0 yX0_removeFields wsX0_removeFields) := goodIn_app (goodIn_of _ (by decide +kernel)) ggX9_eraseAll_X0_removeFields
theorem dX9_eraseAll_0 : decode cX9_eraseAll 0 = .ok (.aload_n 0, 1) := by decide +kernel
theorem dX9_eraseAll_1 : decode cX9_eraseAll 1 = .ok (.getfield 22, 3) := by decide +kernel
theorem dX9_eraseAll_4 : decode cX9_eraseAll 4 = .ok (.aload_n 0, 1) := by decide +kernel
theorem dX9_eraseAll_5 : decode cX9_eraseAll 5 = .ok (.getfield 12, 3) := by decide +kernel
theorem dX9_eraseAll_8 : decode cX9_eraseAll 8 = .ok (.invokevirtual 90, 3) := by decide +kernel
theorem dX9_eraseAll_11 : decode cX9_eraseAll 11 = .ok (.aload_n 0, 1) := by decide +kernel
theorem dX9_eraseAll_12 : decode cX9_eraseAll 12 = .ok (.getfield 12, 3) := by decide +kernel
theorem dX9_eraseAll_15 : decode cX9_eraseAll 15 = .ok (.invokevirtual 147, 3) := by decide +kernel
theorem dX9_eraseAll_18 : decode cX9_eraseAll 18 = .ok (.istore_n 1, 1) := by decide +kernel
theorem dX9_eraseAll_19 : decode cX9_eraseAll 19 = .ok (.aload_n 0, 1) := by decide +kernel
theorem dX9_eraseAll_20 : decode cX9_eraseAll 20 = .ok (.getfield 12, 3) := by decide +kernel
theorem dX9_eraseAll_23 : decode cX9_eraseAll 23 = .ok (.invokevirtual 151, 3) := by decide +kernel
theorem dX9_eraseAll_26 : decode cX9_eraseAll 26 = .ok (.iload_n 1, 1) := by decide +kernel
theorem dX9_eraseAll_27 : decode cX9_eraseAll 27 = .ok (.ireturn, 1) := by decide +kernel
set_option maxRecDepth 20000 in
theorem ggX9_settle_X9_runWithoutContradiction : GoodIn wsX9_settle wsX9_runWithoutContradiction := goodIn_ca (goodIn_r _ [8, 9, 10, 3, 2, 11, 12, 13, 14, 15, 16, 17, 18, 19, 20, 21, 22, 23, 24, 25, 26, 27, 28, 29, 30, 31, 32, 33, 34, 35, 36, 7, 37, 38, 39, 40, 41, 42, 43, 44, 45, 46, 47, 48, 49, 50, 51, 52, 53, 54, 55, 56, 57, 58, 59, 60, 61, 62, 63, 64, 65, 66, 67, 68, 69, 70, 71, 72, 73, 74, 75, 76, 77, 78, 79, 80, 81, 82, 83, 84, 85, 86, 87, 88, 89, 90, 91, 92, 93, 94, 95, 96, 97, 98, 99, 100, 101, 102, 103, 104, 105, 106, 107, 108, 109, 110, 111, 151, 152, 153, 154, 155, 156, 157, 158, 159, 160, 161, 162, 163, 164, 165, 166, 167, 168, 169, 170, 171, 172, 173, 174, 175, 176, 177, 178] (by decide +kernel) (by decide +kernel)) (goodIn_sub (fun _ h => List.mem_cons_of_mem _ (List.mem_append_right _ h)) (by decide +kernel))
set_option maxRecDepth 20000 in
theorem gX9_settle_X9_runWithoutContradiction : GoodIn wsX9_settle (wsV RX9 154 RX9 yX9_runWithoutContradiction wsX9_runWithoutContradiction) := goodIn_app (goodIn_of _ (by decide +kernel)) ggX9_settle_X9_runWithoutContradiction
set_option maxRecDepth 20000 in
theorem ggX9_settle_X3_save : GoodIn wsX9_settle wsX3_save := goodIn_r _ [116, 117, 118, 119, 120, 121, 115, 122, 123, 124, 125, 33, 126, 42, 35, 127, 128, 179, 180, 181, 182, 175, 176, 177, 178] (by decide +kernel) (by decide +kernel)
set_option maxRecDepth 20000 in
theorem gX9_settle_X3_save : GoodIn wsX9_settle (wsV RX9 90 RX3 yX3_save wsX3_save) := goodIn_app (goodIn_of _ (by decide +kernel)) ggX9_settle_X3_save
set_option maxRecDepth 20000 in
theorem ggX9_settle_X8_placeCertain : GoodIn wsX9_settle wsX8_placeCertain := goodIn_r _ [132, 21, 16, 91, 92, 93, 26, 94, 28, 68, 133, 134, 135, 14, 136, 137, 138, 139, 140, 63, 141, 142, 143, 144, 65, 145, 146, 147, 33, 148, 35, 127, 128, 149, 7, 150, 160, 161, 162, 163, 164, 165, 166, 167, 168, 169, 170, 171, 172, 173, 174, 175, 176, 177, 178] (by decide +kernel) (by decide +kernel)
set_option maxRecDepth 20000 in
theorem gX9_settle_X8_placeCertain : GoodIn wsX9_settle (wsV RX9 157 RX8 yX8_placeCertain wsX8_placeCertain) := goodIn_app (goodIn_of _ (by decide +kernel)) ggX9_settle_X8_placeCertain
theorem dX9_settle_0 : decode cX9_settle 0 = .ok (.aload_n 0, 1) := by decide +kernel
theorem dX9_settle_1 : decode cX9_settle 1 = .ok (.invokevirtual 154, 3) := by decide +kernel
theorem dX9_settle_4 : decode cX9_settle 4 = .ok (.aload_n 0, 1) := by decide +kernel
theorem dX9_settle_5 : decode cX9_settle 5 = .ok (.getfield 22, 3) := by decide +kernel
theorem dX9_settle_8 : decode cX9_settle 8 = .ok (.aload_n 0, 1) := by decide +kernel
theorem dX9_settle_9 : decode cX9_settle 9 = .ok (.getfield 12, 3) := by decide +kernel
theorem dX9_settle_12 : decode cX9_settle 12 = .ok (.invokevirtual 90, 3) := by decide +kernel
theorem dX9_settle_15 : decode cX9_settle 15 = .ok (.aload_n 0, 1) := by decide +kernel
theorem dX9_settle_16 : decode cX9_settle 16 = .ok (.getfield 52, 3) := by decide +kernel
theorem dX9_settle_19 : decode cX9_settle 19 = .ok (.aload_n 0, 1) := by decide +kernel
theorem dX9_settle_20 : decode cX9_settle 20 = .ok (.getfield 12, 3) := by decide +kernel
theorem dX9_settle_23 : decode cX9_settle 23 = .ok (.invokevirtual 157, 3) := by decide +kernel
theorem dX9_settle_26 : decode cX9_settle 26 = .ok (.ireturn, 1) := by decide +kernel
set_option maxRecDepth 20000 in
theorem ggX9_finish_X9_findFirstWay : GoodIn wsX9_finish wsX9_findFirstWay := goodIn_ca (goodIn_r _ [8, 9, 10, 3, 11, 12, 13, 14, 15, 16, 17, 18, 19, 20, 21, 22, 23, 24, 25, 26, 27, 28, 29, 30, 31, 32, 33, 7, 34, 35, 36, 37, 38, 39, 40, 41, 42, 43, 44, 45, 46, 47, 48, 49, 50, 51, 52, 53, 54, 55, 56, 57, 58, 59, 60, 61, 62, 63, 64, 65, 66, 67, 68, 69, 70, 71, 72, 73, 74, 75, 76, 77, 78, 79, 80, 81, 82, 83, 84, 85, 86, 87, 88, 89, 90, 91, 92, 93, 94, 95, 96, 97, 98, 99, 100, 101, 102, 103, 104, 105, 106, 107, 108, 109, 110, 111, 112, 113, 114, 115, 116, 117, 118, 119, 120, 121, 122, 123, 124, 125, 126, 127, 128, 129, 155, 156, 157, 158, 159, 160, 161, 162, 163, 164, 165, 166, 167, 168, 169, 170, 171, 172, 173, 174, 175, 176, 177, 178, 179, 180] (by decide +kernel) (by decide +kernel)) (goodIn_sub (fun _ h => List.mem_cons_of_mem _ (List.mem_append_right _ h)) (by decide +kernel))
set_option maxRecDepth 20000 in
theorem gX9_finish_X9_findFirstWay : GoodIn wsX9_finish (wsV RX9 161 RX9 yX9_findFirstWay wsX9_findFirstWay) := goodIn_app (goodIn_of _ (by decide +kernel)) ggX9_finish_X9_findFirstWay
set_option maxRecDepth 20000 in
theorem ggX9_finish_X3_save : GoodIn wsX9_finish wsX3_save := goodIn_r _ [134, 135, 136, 137, 138, 139, 133, 140, 141, 67, 68, 30, 69, 39, 32, 70, 71, 181, 182, 183, 184, 177, 178, 179, 180] (by decide +kernel) (by decide +kernel)
set_option maxRecDepth 20000 in
theorem gX9_finish_X3_save : GoodIn wsX9_finish (wsV RX9 90 RX3 yX3_save wsX3_save) := goodIn_app (goodIn_of _ (by decide +kernel)) ggX9_finish_X3_save
set_option maxRecDepth 20000 in
theorem ggX9_finish_X0_countFields : GoodIn wsX9_finish wsX0_countFields := goodIn_r _ [145, 146, 147, 148, 30, 149, 32, 70, 54, 7, 55, 177, 178, 179, 180] (by decide +kernel) (by decide +kernel)
set_option maxRecDepth 20000 in
theorem gX9_finish_X0_countFields : GoodIn wsX9_finish (wsV RX9 147 RX0 yX0_countFields wsX0_countFields) := goodIn_app (goodIn_of _ (by decide +kernel)) ggX9_finish_X0_countFields
set_option maxRecDepth 20000 in
theorem ggX9_finish_X1_firstWay : GoodIn wsX9_finish wsX1_firstWay := goodIn_r _ [153, 17, 164, 165, 166, 167, 168] (by decide +kernel) (by decide +kernel)
set_option maxRecDepth 20000 in
theorem gX9_finish_X1_firstWay : GoodIn wsX9_finish (wsV RX9 164 RX1 yX1_firstWay wsX1_firstWay) := goodIn_app (goodIn_of _ (by decide +kernel)) ggX9_finish_X1_firstWay
set_option maxRecDepth 20000 in
theorem ggX9_finish_X0_copy : GoodIn wsX9_finish wsX0_copy := goodIn_r _ [69, 39, 32, 70, 71, 177, 178, 179, 180] (by decide +kernel) (by decide +kernel)
set_option maxRecDepth 20000 in
theorem gX9_finish_X0_copy : GoodIn wsX9_finish (wsV RX9 168 RX0 yX0_copy wsX0_copy) := goodIn_app (goodIn_of _ (by decide +kernel)) ggX9_finish_X0_copy
theorem dX9_finish_0 : decode cX9_finish 0 = .ok (.aload_n 0, 1) := by decide +kernel
theorem dX9_finish_1 : decode cX9_finish 1 = .ok (.aload_n 0, 1) := by decide +kernel
theorem dX9_finish_2 : decode cX9_finish 2 = .ok (.getfield 12, 3) := by decide +kernel
theorem dX9_finish_5 : decode cX9_finish 5 = .ok (.invokevirtual 161, 3) := by decide +kernel
theorem dX9_finish_8 : decode cX9_finish 8 = .ok (.aload_n 0, 1) := by decide +kernel
theorem dX9_finish_9 : decode cX9_finish 9 = .ok (.getfield 22, 3) := by decide +kernel
theorem dX9_finish_12 : decode cX9_finish 12 = .ok (.aload_n 0, 1) := by decide +kernel
theorem dX9_finish_13 : decode cX9_finish 13 = .ok (.getfield 12, 3) := by decide +kernel
theorem dX9_finish_16 : decode cX9_finish 16 = .ok (.invokevirtual 90, 3) := by decide +kernel
theorem dX9_finish_19 : decode cX9_finish 19 = .ok (.aload_n 0, 1) := by decide +kernel
theorem dX9_finish_20 : decode cX9_finish 20 = .ok (.getfield 12, 3) := by decide +kernel
theorem dX9_finish_23 : decode cX9_finish 23 = .ok (.invokevirtual 147, 3) := by decide +kernel
theorem dX9_finish_26 : decode cX9_finish 26 = .ok (.istore_n 1, 1) := by decide +kernel
theorem dX9_finish_27 : decode cX9_finish 27 = .ok (.aload_n 0, 1) := by decide +kernel
theorem dX9_finish_28 : decode cX9_finish 28 = .ok (.getfield 12, 3) := by decide +kernel
theorem dX9_finish_31 : decode cX9_finish 31 = .ok (.aload_n 0, 1) := by decide +kernel
theorem dX9_finish_32 : decode cX9_finish 32 = .ok (.getfield 66, 3) := by decide +kernel
theorem dX9_finish_35 : decode cX9_finish 35 = .ok (.invokevirtual 164, 3) := by decide +kernel
theorem dX9_finish_38 : decode cX9_finish 38 = .ok (.invokevirtual 168, 3) := by decide +kernel
theorem dX9_finish_41 : decode cX9_finish 41 = .ok (.aload_n 0, 1) := by decide +kernel
theorem dX9_finish_42 : decode cX9_finish 42 = .ok (.getfield 12, 3) := by decide +kernel
theorem dX9_finish_45 : decode cX9_finish 45 = .ok (.invokevirtual 147, 3) := by decide +kernel
theorem dX9_finish_48 : decode cX9_finish 48 = .ok (.iload_n 1, 1) := by decide +kernel
theorem dX9_finish_49 : decode cX9_finish 49 = .ok (.isub, 1) := by decide +kernel
theorem dX9_finish_50 : decode cX9_finish 50 = .ok (.ireturn, 1) := by decide +kernel
set_option maxRecDepth 20000 in
theorem ggX9_append_X4_length : GoodIn wsX9_append wsX4_length := goodIn_r _ [10, 11, 26, 27] (by decide +kernel) (by decide +kernel)
set_option maxRecDepth 20000 in
theorem gX9_append_X4_length : GoodIn wsX9_append (wsV RX9 173 RX4 yX4_length wsX4_length) := goodIn_app (goodIn_of _ (by decide +kernel)) ggX9_append_X4_length
set_option maxRecDepth 20000 in
theorem ggX9_append_X4_add : GoodIn wsX9_append wsX4_add := goodIn_r _ [15, 11, 16, 26, 27] (by decide +kernel) (by decide +kernel)
set_option maxRecDepth 20000 in
theorem gX9_append_X4_add : GoodIn wsX9_append (wsV RX9 178 RX4 yX4_add wsX4_add) := goodIn_app (goodIn_of _ (by decide +kernel)) ggX9_append_X4_add
theorem dX9_append_0 : decode cX9_append 0 = .ok (.iload_n 1, 1) := by decide +kernel
theorem dX9_append_1 : decode cX9_append 1 = .ok (.bipush 33, 2) := by decide +kernel
theorem dX9_append_3 : decode cX9_append 3 = .ok (.if_icmp .lt 9, 3) := by decide +kernel
theorem dX9_append_6 : decode cX9_append 6 = .ok (.iload_n 1, 1) := by decide +kernel
theorem dX9_append_7 : decode cX9_append 7 = .ok (.bipush 126, 2) := by decide +kernel
theorem dX9_append_9 : decode cX9_append 9 = .ok (.if_icmp .le 13, 3) := by decide +kernel
theorem dX9_append_12 : decode cX9_append 12 = .ok (.new 74, 3) := by decide +kernel
theorem dX9_append_15 : decode cX9_append 15 = .ok (.dup, 1) := by decide +kernel
theorem dX9_append_16 : decode cX9_append 16 = .ok (.ldc 171, 2) := by decide +kernel
theorem dX9_append_18 : decode cX9_append 18 = .ok (.invokespecial 78, 3) := by decide +kernel
theorem dX9_append_21 : decode cX9_append 21 = .ok (.athrow, 1) := by decide +kernel
theorem dX9_append_22 : decode cX9_append 22 = .ok (.aload_n 0, 1) := by decide +kernel
theorem dX9_append_23 : decode cX9_append 23 = .ok (.getfield 29, 3) := by decide +kernel
theorem dX9_append_26 : decode cX9_append 26 = .ok (.invokevirtual 173, 3) := by decide +kernel
theorem dX9_append_29 : decode cX9_append 29 = .ok (.bipush 60, 2) := by decide +kernel
theorem dX9_append_31 : decode cX9_append 31 = .ok (.if_icmp .lt 13, 3) := by decide +kernel
theorem dX9_append_34 : decode cX9_append 34 = .ok (.new 85, 3) := by decide +kernel
theorem dX9_append_37 : decode cX9_append 37 = .ok (.dup, 1) := by decide +kernel
theorem dX9_append_38 : decode cX9_append 38 = .ok (.ldc 176, 2) := by decide +kernel
theorem dX9_append_40 : decode cX9_append 40 = .ok (.invokespecial 89, 3) := by decide +kernel
theorem dX9_append_43 : decode cX9_append 43 = .ok (.athrow, 1) := by decide +kernel
theorem dX9_append_44 : decode cX9_append 44 = .ok (.aload_n 0, 1) := by decide +kernel
theorem dX9_append_45 : decode cX9_append 45 = .ok (.getfield 29, 3) := by decide +kernel
theorem dX9_append_48 : decode cX9_append 48 = .ok (.iload_n 1, 1) := by decide +kernel
theorem dX9_append_49 : decode cX9_append 49 = .ok (.invokevirtual 178, 3) := by decide +kernel
theorem dX9_append_52 : decode cX9_append 52 = .ok (.aload_n 0, 1) := by decide +kernel
theorem dX9_append_53 : decode cX9_append 53 = .ok (.getfield 29, 3) := by decide +kernel
theorem dX9_append_56 : decode cX9_append 56 = .ok (.invokevirtual 173, 3) := by decide +kernel
theorem dX9_append_59 : decode cX9_append 59 = .ok (.ireturn, 1) := by decide +kernel
set_option maxRecDepth 20000 in
theorem ggX9_clearBuffer_X4_length : GoodIn wsX9_clearBuffer wsX4_length := goodIn_r _ [6, 7, 21, 22] (by decide +kernel) (by decide +kernel)
set_option maxRecDepth 20000 in
theorem gX9_clearBuffer_X4_length : GoodIn wsX9_clearBuffer (wsV RX9 173 RX4 yX4_length wsX4_length) := goodIn_app (goodIn_of _ (by decide +kernel)) ggX9_clearBuffer_X4_length
set_option maxRecDepth 20000 in
theorem ggX9_clearBuffer_X4_clear : GoodIn wsX9_clearBuffer wsX4_clear := goodIn_r _ [11, 7, 21, 22] (by decide +kernel) (by decide +kernel)
set_option maxRecDepth 20000 in
theorem gX9_clearBuffer_X4_clear : GoodIn wsX9_clearBuffer (wsV RX9 181 RX4 yX4_clear wsX4_clear) := goodIn_app (goodIn_of _ (by decide +kernel)) ggX9_clearBuffer_X4_clear
theorem dX9_clearBuffer_0 : decode cX9_clearBuffer 0 = .ok (.aload_n 0, 1) := by decide +kernel
theorem dX9_clearBuffer_1 : decode cX9_clearBuffer 1 = .ok (.getfield 29, 3) := by decide +kernel
theorem dX9_clearBuffer_4 : decode cX9_clearBuffer 4 = .ok (.invokevirtual 173, 3) := by decide +kernel
theorem dX9_clearBuffer_7 : decode cX9_clearBuffer 7 = .ok (.istore_n 1, 1) := by decide +kernel
theorem dX9_clearBuffer_8 : decode cX9_clearBuffer 8 = .ok (.aload_n 0, 1) := by decide +kernel
theorem dX9_clearBuffer_9 : decode cX9_clearBuffer 9 = .ok (.getfield 29, 3) := by decide +kernel
theorem dX9_clearBuffer_12 : decode cX9_clearBuffer 12 = .ok (.invokevirtual 181, 3) := by decide +kernel
theorem dX9_clearBuffer_15 : decode cX9_clearBuffer 15 = .ok (.iload_n 1, 1) := by decide +kernel
theorem dX9_clearBuffer_16 : decode cX9_clearBuffer 16 = .ok (.ireturn, 1) := by decide +kernel
set_option maxRecDepth 20000 in
theorem ggX9_firstError_X4_firstWrong : GoodIn wsX9_firstError wsX4_firstWrong := goodIn_r _ [6, 7, 8, 9, 10, 5, 11, 12, 13, 14, 15, 16, 17, 18, 19, 29, 30] (by decide +kernel) (by decide +kernel)
set_option maxRecDepth 20000 in
theorem gX9_firstError_X4_firstWrong : GoodIn wsX9_firstError (wsV RX9 184 RX4 yX4_firstWrong wsX4_firstWrong) := goodIn_app (goodIn_of _ (by decide +kernel)) ggX9_firstError_X4_firstWrong
theorem dX9_firstError_0 : decode cX9_firstError 0 = .ok (.aload_n 0, 1) := by decide +kernel
theorem dX9_firstError_1 : decode cX9_firstError 1 = .ok (.getfield 29, 3) := by decide +kernel
theorem dX9_firstError_4 : decode cX9_firstError 4 = .ok (.invokevirtual 184, 3) := by decide +kernel
theorem dX9_firstError_7 : decode cX9_firstError 7 = .ok (.ireturn, 1) := by decide +kernel
set_option maxRecDepth 20000 in
theorem ggX9_writeRow_X4_tellsRow : GoodIn wsX9_writeRow wsX4_tellsRow := goodIn_r _ [14, 15, 16, 17, 18, 13, 19, 20, 21, 22, 23, 24, 25, 26, 27, 28, 29, 30, 31, 84, 85] (by decide +kernel) (by decide +kernel)
set_option maxRecDepth 20000 in
theorem gX9_writeRow_X4_tellsRow : GoodIn wsX9_writeRow (wsV RX9 192 RX4 yX4_tellsRow wsX4_tellsRow) := goodIn_app (goodIn_of _ (by decide +kernel)) ggX9_writeRow_X4_tellsRow
set_option maxRecDepth 20000 in
theorem ggX9_writeRow_X9_rowHasField : GoodIn wsX9_writeRow wsX9_rowHasField := goodIn_r _ [36, 9, 37, 38, 35, 39, 40, 41, 42, 43, 44, 45, 46, 47, 75, 76, 77, 78, 79, 80, 81, 82, 83, 86, 87, 88, 89] (by decide +kernel) (by decide +kernel)
set_option maxRecDepth 20000 in
theorem gX9_writeRow_X9_rowHasField : GoodIn wsX9_writeRow (wsV RX9 198 RX9 yX9_rowHasField wsX9_rowHasField) := goodIn_app (goodIn_of _ (by decide +kernel)) ggX9_writeRow_X9_rowHasField
set_option maxRecDepth 20000 in
theorem ggX9_writeRow_X3_save : GoodIn wsX9_writeRow wsX3_save := goodIn_r _ [52, 53, 54, 55, 56, 57, 51, 58, 59, 60, 61, 43, 62, 63, 45, 64, 65, 90, 91, 92, 93, 86, 87, 88, 89] (by decide +kernel) (by decide +kernel)
set_option maxRecDepth 20000 in
theorem gX9_writeRow_X3_save : GoodIn wsX9_writeRow (wsV RX9 90 RX3 yX3_save wsX3_save) := goodIn_app (goodIn_of _ (by decide +kernel)) ggX9_writeRow_X3_save
set_option maxRecDepth 20000 in
theorem ggX9_writeRow_X4_numberFor : GoodIn wsX9_writeRow wsX4_numberFor := goodIn_r _ [23, 24, 25, 26, 13, 27, 28, 29, 30, 31, 84, 85] (by decide +kernel) (by decide +kernel)
set_option maxRecDepth 20000 in
theorem gX9_writeRow_X4_numberFor : GoodIn wsX9_writeRow (wsV RX9 203 RX4 yX4_numberFor wsX4_numberFor) := goodIn_app (goodIn_of _ (by decide +kernel)) ggX9_writeRow_X4_numberFor
set_option maxRecDepth 20000 in
theorem ggX9_writeRow_X9_cellAt : GoodIn wsX9_writeRow wsX9_cellAt := goodIn_r _ [39] (by decide +kernel) (by decide +kernel)
set_option maxRecDepth 20000 in
theorem gX9_writeRow_X9_cellAt : GoodIn wsX9_writeRow (va_wsS RX9 123 yX9_cellAt wsX9_cellAt) := goodIn_app (goodIn_of _ (by decide +kernel)) ggX9_writeRow_X9_cellAt
set_option maxRecDepth 20000 in
theorem ggX9_writeRow_X0_setNumber : GoodIn wsX9_writeRow wsX0_setNumber := goodIn_r _ [70, 63, 46, 35, 47, 86, 87, 88, 89] (by decide +kernel) (by decide +kernel)
set_option maxRecDepth 20000 in
theorem gX9_writeRow_X0_setNumber : GoodIn wsX9_writeRow (wsV RX9 98 RX0 yX0_setNumber wsX0_setNumber) := goodIn_app (goodIn_of _ (by decide +kernel)) ggX9_writeRow_X0_setNumber
set_option maxRecDepth 20000 in
theorem ggX9_writeRow_X4_clear : GoodIn wsX9_writeRow wsX4_clear := goodIn_r _ [74, 15, 84, 85] (by decide +kernel) (by decide +kernel)
set_option maxRecDepth 20000 in
theorem gX9_writeRow_X4_clear : GoodIn wsX9_writeRow (wsV RX9 181 RX4 yX4_clear wsX4_clear) := goodIn_app (goodIn_of _ (by decide +kernel)) ggX9_writeRow_X4_clear
theorem dX9_writeRow_0 : decode cX9_writeRow 0 = .ok (.iload_n 1, 1) := by decide +kernel
theorem dX9_writeRow_1 : decode cX9_writeRow 1 = .ok (.ifCond .lt 9, 3) := by decide +kernel
theorem dX9_writeRow_4 : decode cX9_writeRow 4 = .ok (.iload_n 1, 1) := by decide +kernel
theorem dX9_writeRow_5 : decode cX9_writeRow 5 = .ok (.bipush 6, 2) := by decide +kernel
theorem dX9_writeRow_7 : decode cX9_writeRow 7 = .ok (.if_icmp .lt 13, 3) := by decide +kernel
theorem dX9_writeRow_10 : decode cX9_writeRow 10 = .ok (.new 187, 3) := by decide +kernel
theorem dX9_writeRow_13 : decode cX9_writeRow 13 = .ok (.dup, 1) := by decide +kernel
theorem dX9_writeRow_14 : decode cX9_writeRow 14 = .ok (.ldc 189, 2) := by decide +kernel
theorem dX9_writeRow_16 : decode cX9_writeRow 16 = .ok (.invokespecial 191, 3) := by decide +kernel
theorem dX9_writeRow_19 : decode cX9_writeRow 19 = .ok (.athrow, 1) := by decide +kernel
theorem dX9_writeRow_20 : decode cX9_writeRow 20 = .ok (.aload_n 0, 1) := by decide +kernel
theorem dX9_writeRow_21 : decode cX9_writeRow 21 = .ok (.getfield 29, 3) := by decide +kernel
theorem dX9_writeRow_24 : decode cX9_writeRow 24 = .ok (.invokevirtual 192, 3) := by decide +kernel
theorem dX9_writeRow_27 : decode cX9_writeRow 27 = .ok (.ifCond .ne 13, 3) := by decide +kernel
theorem dX9_writeRow_30 : decode cX9_writeRow 30 = .ok (.new 74, 3) := by decide +kernel
theorem dX9_writeRow_33 : decode cX9_writeRow 33 = .ok (.dup, 1) := by decide +kernel
theorem dX9_writeRow_34 : decode cX9_writeRow 34 = .ok (.ldc 196, 2) := by decide +kernel
theorem dX9_writeRow_36 : decode cX9_writeRow 36 = .ok (.invokespecial 78, 3) := by decide +kernel
theorem dX9_writeRow_39 : decode cX9_writeRow 39 = .ok (.athrow, 1) := by decide +kernel
theorem dX9_writeRow_40 : decode cX9_writeRow 40 = .ok (.aload_n 0, 1) := by decide +kernel
theorem dX9_writeRow_41 : decode cX9_writeRow 41 = .ok (.iload_n 1, 1) := by decide +kernel
theorem dX9_writeRow_42 : decode cX9_writeRow 42 = .ok (.invokevirtual 198, 3) := by decide +kernel
theorem dX9_writeRow_45 : decode cX9_writeRow 45 = .ok (.ifCond .eq 13, 3) := by decide +kernel
theorem dX9_writeRow_48 : decode cX9_writeRow 48 = .ok (.new 85, 3) := by decide +kernel
theorem dX9_writeRow_51 : decode cX9_writeRow 51 = .ok (.dup, 1) := by decide +kernel
theorem dX9_writeRow_52 : decode cX9_writeRow 52 = .ok (.ldc 201, 2) := by decide +kernel
theorem dX9_writeRow_54 : decode cX9_writeRow 54 = .ok (.invokespecial 89, 3) := by decide +kernel
theorem dX9_writeRow_57 : decode cX9_writeRow 57 = .ok (.athrow, 1) := by decide +kernel
theorem dX9_writeRow_58 : decode cX9_writeRow 58 = .ok (.aload_n 0, 1) := by decide +kernel
theorem dX9_writeRow_59 : decode cX9_writeRow 59 = .ok (.getfield 22, 3) := by decide +kernel
theorem dX9_writeRow_62 : decode cX9_writeRow 62 = .ok (.aload_n 0, 1) := by decide +kernel
theorem dX9_writeRow_63 : decode cX9_writeRow 63 = .ok (.getfield 12, 3) := by decide +kernel
theorem dX9_writeRow_66 : decode cX9_writeRow 66 = .ok (.invokevirtual 90, 3) := by decide +kernel
theorem dX9_writeRow_69 : decode cX9_writeRow 69 = .ok (.iconst 0, 1) := by decide +kernel
theorem dX9_writeRow_70 : decode cX9_writeRow 70 = .ok (.istore_n 2, 1) := by decide +kernel
theorem dX9_writeRow_71 : decode cX9_writeRow 71 = .ok (.iconst 0, 1) := by decide +kernel
theorem dX9_writeRow_72 : decode cX9_writeRow 72 = .ok (.istore_n 3, 1) := by decide +kernel
theorem dX9_writeRow_73 : decode cX9_writeRow 73 = .ok (.iload_n 3, 1) := by decide +kernel
theorem dX9_writeRow_74 : decode cX9_writeRow 74 = .ok (.bipush 7, 2) := by decide +kernel
theorem dX9_writeRow_76 : decode cX9_writeRow 76 = .ok (.if_icmp .ge 46, 3) := by decide +kernel
theorem dX9_writeRow_79 : decode cX9_writeRow 79 = .ok (.aload_n 0, 1) := by decide +kernel
theorem dX9_writeRow_80 : decode cX9_writeRow 80 = .ok (.getfield 29, 3) := by decide +kernel
theorem dX9_writeRow_83 : decode cX9_writeRow 83 = .ok (.iload_n 3, 1) := by decide +kernel
theorem dX9_writeRow_84 : decode cX9_writeRow 84 = .ok (.invokevirtual 203, 3) := by decide +kernel
theorem dX9_writeRow_87 : decode cX9_writeRow 87 = .ok (.istore 4, 2) := by decide +kernel
theorem dX9_writeRow_89 : decode cX9_writeRow 89 = .ok (.aload_n 0, 1) := by decide +kernel
theorem dX9_writeRow_90 : decode cX9_writeRow 90 = .ok (.getfield 12, 3) := by decide +kernel
theorem dX9_writeRow_93 : decode cX9_writeRow 93 = .ok (.iload_n 1, 1) := by decide +kernel
theorem dX9_writeRow_94 : decode cX9_writeRow 94 = .ok (.iload_n 3, 1) := by decide +kernel
theorem dX9_writeRow_95 : decode cX9_writeRow 95 = .ok (.invokestatic 123, 3) := by decide +kernel
theorem dX9_writeRow_98 : decode cX9_writeRow 98 = .ok (.iload 4, 2) := by decide +kernel
theorem dX9_writeRow_100 : decode cX9_writeRow 100 = .ok (.invokevirtual 98, 3) := by decide +kernel
theorem dX9_writeRow_103 : decode cX9_writeRow 103 = .ok (.iload_n 2, 1) := by decide +kernel
theorem dX9_writeRow_104 : decode cX9_writeRow 104 = .ok (.iload 4, 2) := by decide +kernel
theorem dX9_writeRow_106 : decode cX9_writeRow 106 = .ok (.ifCond .le 7, 3) := by decide +kernel
theorem dX9_writeRow_109 : decode cX9_writeRow 109 = .ok (.iconst 1, 1) := by decide +kernel
theorem dX9_writeRow_110 : decode cX9_writeRow 110 = .ok (.goto 4, 3) := by decide +kernel
theorem dX9_writeRow_113 : decode cX9_writeRow 113 = .ok (.iconst 0, 1) := by decide +kernel
theorem dX9_writeRow_114 : decode cX9_writeRow 114 = .ok (.iadd, 1) := by decide +kernel
theorem dX9_writeRow_115 : decode cX9_writeRow 115 = .ok (.istore_n 2, 1) := by decide +kernel
theorem dX9_writeRow_116 : decode cX9_writeRow 116 = .ok (.iinc 3 1, 3) := by decide +kernel
theorem dX9_writeRow_119 : decode cX9_writeRow 119 = .ok (.goto (-46), 3) := by decide +kernel
theorem dX9_writeRow_122 : decode cX9_writeRow 122 = .ok (.aload_n 0, 1) := by decide +kernel
theorem dX9_writeRow_123 : decode cX9_writeRow 123 = .ok (.getfield 29, 3) := by decide +kernel
theorem dX9_writeRow_126 : decode cX9_writeRow 126 = .ok (.invokevirtual 181, 3) := by decide +kernel
theorem dX9_writeRow_129 : decode cX9_writeRow 129 = .ok (.iload_n 2, 1) := by decide +kernel
theorem dX9_writeRow_130 : decode cX9_writeRow 130 = .ok (.ireturn, 1) := by decide +kernel
set_option maxRecDepth 20000 in
theorem ggX9_keep_X9_checkSlot : GoodIn wsX9_keep wsX9_checkSlot := goodIn_ca (goodIn_r _ [6, 7, 8] (by decide +kernel) (by decide +kernel)) (goodIn_sub (fun _ h => List.mem_cons_of_mem _ (List.mem_append_right _ h)) (by decide +kernel))
set_option maxRecDepth 20000 in
theorem gX9_keep_X9_checkSlot : GoodIn wsX9_keep (va_wsS RX9 206 yX9_checkSlot wsX9_checkSlot) := goodIn_app (goodIn_of _ (by decide +kernel)) ggX9_keep_X9_checkSlot
set_option maxRecDepth 20000 in
theorem ggX9_keep_X3_store : GoodIn wsX9_keep wsX3_store := goodIn_r _ [13, 14, 15, 16, 17, 18, 19, 20, 21, 22, 23, 24, 34, 35, 36, 37, 38, 39, 40, 41] (by decide +kernel) (by decide +kernel)
set_option maxRecDepth 20000 in
theorem gX9_keep_X3_store : GoodIn wsX9_keep (wsV RX9 209 RX3 yX3_store wsX3_store) := goodIn_app (goodIn_of _ (by decide +kernel)) ggX9_keep_X3_store
theorem dX9_keep_0 : decode cX9_keep 0 = .ok (.iload_n 1, 1) := by decide +kernel
theorem dX9_keep_1 : decode cX9_keep 1 = .ok (.invokestatic 206, 3) := by decide +kernel
theorem dX9_keep_4 : decode cX9_keep 4 = .ok (.aload_n 0, 1) := by decide +kernel
theorem dX9_keep_5 : decode cX9_keep 5 = .ok (.getfield 22, 3) := by decide +kernel
theorem dX9_keep_8 : decode cX9_keep 8 = .ok (.iload_n 1, 1) := by decide +kernel
theorem dX9_keep_9 : decode cX9_keep 9 = .ok (.aload_n 0, 1) := by decide +kernel
theorem dX9_keep_10 : decode cX9_keep 10 = .ok (.getfield 12, 3) := by decide +kernel
theorem dX9_keep_13 : decode cX9_keep 13 = .ok (.invokevirtual 209, 3) := by decide +kernel
theorem dX9_keep_16 : decode cX9_keep 16 = .ok (.return_, 1) := by decide +kernel
set_option maxRecDepth 20000 in
theorem ggX9_goBack_X9_checkSlot : GoodIn wsX9_goBack wsX9_checkSlot := goodIn_ca (goodIn_r _ [8, 9, 10] (by decide +kernel) (by decide +kernel)) (goodIn_sub (fun _ h => List.mem_cons_of_mem _ (List.mem_append_right _ h)) (by decide +kernel))
set_option maxRecDepth 20000 in
theorem gX9_goBack_X9_checkSlot : GoodIn wsX9_goBack (va_wsS RX9 206 yX9_checkSlot wsX9_checkSlot) := goodIn_app (goodIn_of _ (by decide +kernel)) ggX9_goBack_X9_checkSlot
set_option maxRecDepth 20000 in
theorem ggX9_goBack_X3_hasSnapshot : GoodIn wsX9_goBack wsX3_hasSnapshot := goodIn_r _ [15, 16, 51, 52, 53, 54] (by decide +kernel) (by decide +kernel)
set_option maxRecDepth 20000 in
theorem gX9_goBack_X3_hasSnapshot : GoodIn wsX9_goBack (wsV RX9 213 RX3 yX3_hasSnapshot wsX3_hasSnapshot) := goodIn_app (goodIn_of _ (by decide +kernel)) ggX9_goBack_X3_hasSnapshot
set_option maxRecDepth 20000 in
theorem ggX9_goBack_X3_save : GoodIn wsX9_goBack wsX3_save := goodIn_r _ [20, 21, 22, 23, 24, 25, 14, 26, 27, 28, 29, 30, 31, 32, 33, 34, 35, 51, 52, 53, 54, 55, 56, 57, 58] (by decide +kernel) (by decide +kernel)
set_option maxRecDepth 20000 in
theorem gX9_goBack_X3_save : GoodIn wsX9_goBack (wsV RX9 90 RX3 yX3_save wsX3_save) := goodIn_app (goodIn_of _ (by decide +kernel)) ggX9_goBack_X3_save
set_option maxRecDepth 20000 in
theorem ggX9_goBack_X3_loadSnapshot : GoodIn wsX9_goBack wsX3_loadSnapshot := goodIn_r _ [39, 40, 41, 12, 13, 14, 15, 16, 27, 28, 29, 30, 31, 32, 33, 34, 35, 51, 52, 53, 54, 55, 56, 57, 58] (by decide +kernel) (by decide +kernel)
set_option maxRecDepth 20000 in
theorem gX9_goBack_X3_loadSnapshot : GoodIn wsX9_goBack (wsV RX9 218 RX3 yX3_loadSnapshot wsX3_loadSnapshot) := goodIn_app (goodIn_of _ (by decide +kernel)) ggX9_goBack_X3_loadSnapshot
theorem dX9_goBack_0 : decode cX9_goBack 0 = .ok (.iload_n 1, 1) := by decide +kernel
theorem dX9_goBack_1 : decode cX9_goBack 1 = .ok (.invokestatic 206, 3) := by decide +kernel
theorem dX9_goBack_4 : decode cX9_goBack 4 = .ok (.aload_n 0, 1) := by decide +kernel
theorem dX9_goBack_5 : decode cX9_goBack 5 = .ok (.getfield 22, 3) := by decide +kernel
theorem dX9_goBack_8 : decode cX9_goBack 8 = .ok (.iload_n 1, 1) := by decide +kernel
theorem dX9_goBack_9 : decode cX9_goBack 9 = .ok (.invokevirtual 213, 3) := by decide +kernel
theorem dX9_goBack_12 : decode cX9_goBack 12 = .ok (.ifCond .ne 13, 3) := by decide +kernel
theorem dX9_goBack_15 : decode cX9_goBack 15 = .ok (.new 85, 3) := by decide +kernel
theorem dX9_goBack_18 : decode cX9_goBack 18 = .ok (.dup, 1) := by decide +kernel
theorem dX9_goBack_19 : decode cX9_goBack 19 = .ok (.ldc 216, 2) := by decide +kernel
theorem dX9_goBack_21 : decode cX9_goBack 21 = .ok (.invokespecial 89, 3) := by decide +kernel
theorem dX9_goBack_24 : decode cX9_goBack 24 = .ok (.athrow, 1) := by decide +kernel
theorem dX9_goBack_25 : decode cX9_goBack 25 = .ok (.aload_n 0, 1) := by decide +kernel
theorem dX9_goBack_26 : decode cX9_goBack 26 = .ok (.getfield 22, 3) := by decide +kernel
theorem dX9_goBack_29 : decode cX9_goBack 29 = .ok (.aload_n 0, 1) := by decide +kernel
theorem dX9_goBack_30 : decode cX9_goBack 30 = .ok (.getfield 12, 3) := by decide +kernel
theorem dX9_goBack_33 : decode cX9_goBack 33 = .ok (.invokevirtual 90, 3) := by decide +kernel
theorem dX9_goBack_36 : decode cX9_goBack 36 = .ok (.aload_n 0, 1) := by decide +kernel
theorem dX9_goBack_37 : decode cX9_goBack 37 = .ok (.getfield 22, 3) := by decide +kernel
theorem dX9_goBack_40 : decode cX9_goBack 40 = .ok (.iload_n 1, 1) := by decide +kernel
theorem dX9_goBack_41 : decode cX9_goBack 41 = .ok (.aload_n 0, 1) := by decide +kernel
theorem dX9_goBack_42 : decode cX9_goBack 42 = .ok (.getfield 12, 3) := by decide +kernel
theorem dX9_goBack_45 : decode cX9_goBack 45 = .ok (.invokevirtual 218, 3) := by decide +kernel
theorem dX9_goBack_48 : decode cX9_goBack 48 = .ok (.return_, 1) := by decide +kernel
set_option maxRecDepth 20000 in
theorem ggX9_undo_X3_countSaved : GoodIn wsX9_undo wsX3_countSaved := goodIn_r _ [9, 10, 34, 35, 36, 37] (by decide +kernel) (by decide +kernel)
set_option maxRecDepth 20000 in
theorem gX9_undo_X3_countSaved : GoodIn wsX9_undo (wsV RX9 221 RX3 yX3_countSaved wsX3_countSaved) := goodIn_app (goodIn_of _ (by decide +kernel)) ggX9_undo_X3_countSaved
set_option maxRecDepth 20000 in
theorem ggX9_undo_X3_loadLatest : GoodIn wsX9_undo wsX3_loadLatest := goodIn_r _ [14, 10, 15, 16, 17, 18, 19, 20, 21, 22, 23, 24, 34, 35, 36, 37, 38, 39, 40, 41] (by decide +kernel) (by decide +kernel)
set_option maxRecDepth 20000 in
theorem gX9_undo_X3_loadLatest : GoodIn wsX9_undo (wsV RX9 226 RX3 yX3_loadLatest wsX3_loadLatest) := goodIn_app (goodIn_of _ (by decide +kernel)) ggX9_undo_X3_loadLatest
theorem dX9_undo_0 : decode cX9_undo 0 = .ok (.aload_n 0, 1) := by decide +kernel
theorem dX9_undo_1 : decode cX9_undo 1 = .ok (.getfield 22, 3) := by decide +kernel
theorem dX9_undo_4 : decode cX9_undo 4 = .ok (.invokevirtual 221, 3) := by decide +kernel
theorem dX9_undo_7 : decode cX9_undo 7 = .ok (.ifCond .ne 13, 3) := by decide +kernel
theorem dX9_undo_10 : decode cX9_undo 10 = .ok (.new 85, 3) := by decide +kernel
theorem dX9_undo_13 : decode cX9_undo 13 = .ok (.dup, 1) := by decide +kernel
theorem dX9_undo_14 : decode cX9_undo 14 = .ok (.ldc 224, 2) := by decide +kernel
theorem dX9_undo_16 : decode cX9_undo 16 = .ok (.invokespecial 89, 3) := by decide +kernel
theorem dX9_undo_19 : decode cX9_undo 19 = .ok (.athrow, 1) := by decide +kernel
theorem dX9_undo_20 : decode cX9_undo 20 = .ok (.aload_n 0, 1) := by decide +kernel
theorem dX9_undo_21 : decode cX9_undo 21 = .ok (.getfield 22, 3) := by decide +kernel
theorem dX9_undo_24 : decode cX9_undo 24 = .ok (.aload_n 0, 1) := by decide +kernel
theorem dX9_undo_25 : decode cX9_undo 25 = .ok (.getfield 12, 3) := by decide +kernel
theorem dX9_undo_28 : decode cX9_undo 28 = .ok (.invokevirtual 226, 3) := by decide +kernel
theorem dX9_undo_31 : decode cX9_undo 31 = .ok (.return_, 1) := by decide +kernel
set_option maxRecDepth 20000 in
theorem ggX9_savedStates_X3_countSaved : GoodIn wsX9_savedStates wsX3_countSaved := goodIn_r _ [6, 7, 17, 18, 19, 20] (by decide +kernel) (by decide +kernel)
set_option maxRecDepth 20000 in
theorem gX9_savedStates_X3_countSaved : GoodIn wsX9_savedStates (wsV RX9 221 RX3 yX3_countSaved wsX3_countSaved) := goodIn_app (goodIn_of _ (by decide +kernel)) ggX9_savedStates_X3_countSaved
theorem dX9_savedStates_0 : decode cX9_savedStates 0 = .ok (.aload_n 0, 1) := by decide +kernel
theorem dX9_savedStates_1 : decode cX9_savedStates 1 = .ok (.getfield 22, 3) := by decide +kernel
theorem dX9_savedStates_4 : decode cX9_savedStates 4 = .ok (.invokevirtual 221, 3) := by decide +kernel
theorem dX9_savedStates_7 : decode cX9_savedStates 7 = .ok (.ireturn, 1) := by decide +kernel
set_option maxRecDepth 20000 in
theorem ggX9_numberAt_X9_checkedCell : GoodIn wsX9_numberAt wsX9_checkedCell := goodIn_ca (goodIn_r _ [5, 6, 7, 8, 9, 4, 10] (by decide +kernel) (by decide +kernel)) (goodIn_sub (fun _ h => List.mem_cons_of_mem _ (List.mem_append_right _ h)) (by decide +kernel))
set_option maxRecDepth 20000 in
theorem gX9_numberAt_X9_checkedCell : GoodIn wsX9_numberAt (va_wsS RX9 70 yX9_checkedCell wsX9_checkedCell) := goodIn_app (goodIn_of _ (by decide +kernel)) ggX9_numberAt_X9_checkedCell
set_option maxRecDepth 20000 in
theorem ggX9_numberAt_X0_numberIn : GoodIn wsX9_numberAt wsX0_numberIn := goodIn_r _ [15, 16, 17, 4, 18, 28, 29, 30, 31] (by decide +kernel) (by decide +kernel)
set_option maxRecDepth 20000 in
theorem gX9_numberAt_X0_numberIn : GoodIn wsX9_numberAt (wsV RX9 94 RX0 yX0_numberIn wsX0_numberIn) := goodIn_app (goodIn_of _ (by decide +kernel)) ggX9_numberAt_X0_numberIn
theorem dX9_numberAt_0 : decode cX9_numberAt 0 = .ok (.aload_n 0, 1) := by decide +kernel
theorem dX9_numberAt_1 : decode cX9_numberAt 1 = .ok (.getfield 12, 3) := by decide +kernel
theorem dX9_numberAt_4 : decode cX9_numberAt 4 = .ok (.iload_n 1, 1) := by decide +kernel
theorem dX9_numberAt_5 : decode cX9_numberAt 5 = .ok (.iload_n 2, 1) := by decide +kernel
theorem dX9_numberAt_6 : decode cX9_numberAt 6 = .ok (.invokestatic 70, 3) := by decide +kernel
theorem dX9_numberAt_9 : decode cX9_numberAt 9 = .ok (.invokevirtual 94, 3) := by decide +kernel
theorem dX9_numberAt_12 : decode cX9_numberAt 12 = .ok (.ireturn, 1) := by decide +kernel
set_option maxRecDepth 20000 in
theorem ggX9_numbers_X0_cellsWithNumber : GoodIn wsX9_numbers wsX0_cellsWithNumber := goodIn_r _ [6, 7, 8, 9, 10, 27, 28, 29, 30] (by decide +kernel) (by decide +kernel)
set_option maxRecDepth 20000 in
theorem gX9_numbers_X0_cellsWithNumber : GoodIn wsX9_numbers (wsV RX9 109 RX0 yX0_cellsWithNumber wsX0_cellsWithNumber) := goodIn_app (goodIn_of _ (by decide +kernel)) ggX9_numbers_X0_cellsWithNumber
set_option maxRecDepth 20000 in
theorem ggX9_numbers_J13_bitCount_95d88 : GoodIn wsX9_numbers wsJ13_bitCount_95d88 := goodIn_r _ [14, 15, 16, 17] (by decide +kernel) (by decide +kernel)
set_option maxRecDepth 20000 in
theorem gX9_numbers_J13_bitCount_95d88 : GoodIn wsX9_numbers (va_wsS RX9 113 yJ13_bitCount_95d88 wsJ13_bitCount_95d88) := goodIn_app (goodIn_of _ (by decide +kernel)) ggX9_numbers_J13_bitCount_95d88
theorem dX9_numbers_0 : decode cX9_numbers 0 = .ok (.aload_n 0, 1) := by decide +kernel
theorem dX9_numbers_1 : decode cX9_numbers 1 = .ok (.getfield 12, 3) := by decide +kernel
theorem dX9_numbers_4 : decode cX9_numbers 4 = .ok (.invokevirtual 109, 3) := by decide +kernel
theorem dX9_numbers_7 : decode cX9_numbers 7 = .ok (.invokestatic 113, 3) := by decide +kernel
theorem dX9_numbers_10 : decode cX9_numbers 10 = .ok (.ireturn, 1) := by decide +kernel
set_option maxRecDepth 20000 in
theorem ggX9_sum_X0_sumIn : GoodIn wsX9_sum wsX0_sumIn := goodIn_r _ [7, 8, 9, 10, 11, 12, 13, 14, 24, 25, 26, 27] (by decide +kernel) (by decide +kernel)
set_option maxRecDepth 20000 in
theorem gX9_sum_X0_sumIn : GoodIn wsX9_sum (wsV RX9 231 RX0 yX0_sumIn wsX0_sumIn) := goodIn_app (goodIn_of _ (by decide +kernel)) ggX9_sum_X0_sumIn
theorem dX9_sum_0 : decode cX9_sum 0 = .ok (.aload_n 0, 1) := by decide +kernel
theorem dX9_sum_1 : decode cX9_sum 1 = .ok (.getfield 12, 3) := by decide +kernel
theorem dX9_sum_4 : decode cX9_sum 4 = .ok (.ldc2_w 229, 3) := by decide +kernel
theorem dX9_sum_7 : decode cX9_sum 7 = .ok (.invokevirtual 231, 3) := by decide +kernel
theorem dX9_sum_10 : decode cX9_sum 10 = .ok (.ireturn, 1) := by decide +kernel
set_option maxRecDepth 20000 in
theorem ggX9_isInField_X9_checkedCell : GoodIn wsX9_isInField wsX9_checkedCell := goodIn_ca (goodIn_r _ [5, 6, 7, 8, 9, 4, 10] (by decide +kernel) (by decide +kernel)) (goodIn_sub (fun _ h => List.mem_cons_of_mem _ (List.mem_append_right _ h)) (by decide +kernel))
set_option maxRecDepth 20000 in
theorem gX9_isInField_X9_checkedCell : GoodIn wsX9_isInField (va_wsS RX9 70 yX9_checkedCell wsX9_checkedCell) := goodIn_app (goodIn_of _ (by decide +kernel)) ggX9_isInField_X9_checkedCell
set_option maxRecDepth 20000 in
theorem ggX9_isInField_X0_hasField : GoodIn wsX9_isInField wsX0_hasField := goodIn_r _ [15, 16, 17, 4, 18, 28, 29, 30, 31] (by decide +kernel) (by decide +kernel)
set_option maxRecDepth 20000 in
theorem gX9_isInField_X0_hasField : GoodIn wsX9_isInField (wsV RX9 81 RX0 yX0_hasField wsX0_hasField) := goodIn_app (goodIn_of _ (by decide +kernel)) ggX9_isInField_X0_hasField
theorem dX9_isInField_0 : decode cX9_isInField 0 = .ok (.aload_n 0, 1) := by decide +kernel
theorem dX9_isInField_1 : decode cX9_isInField 1 = .ok (.getfield 12, 3) := by decide +kernel
theorem dX9_isInField_4 : decode cX9_isInField 4 = .ok (.iload_n 1, 1) := by decide +kernel
theorem dX9_isInField_5 : decode cX9_isInField 5 = .ok (.iload_n 2, 1) := by decide +kernel
theorem dX9_isInField_6 : decode cX9_isInField 6 = .ok (.invokestatic 70, 3) := by decide +kernel
theorem dX9_isInField_9 : decode cX9_isInField 9 = .ok (.invokevirtual 81, 3) := by decide +kernel
theorem dX9_isInField_12 : decode cX9_isInField 12 = .ok (.ireturn, 1) := by decide +kernel
set_option maxRecDepth 20000 in
theorem ggX9_fieldSize_X9_checkedFieldCell : GoodIn wsX9_fieldSize wsX9_checkedFieldCell := goodIn_ca (goodIn_ca (goodIn_r _ [6, 7, 8, 1, 9, 10, 5, 11, 12, 13, 14, 15, 16, 17, 18, 19, 20, 21, 22, 23, 24, 39, 40, 41, 42, 43, 44, 45, 46, 47, 48, 49, 50, 51] (by decide +kernel) (by decide +kernel)) (goodIn_sub (fun _ h => List.mem_cons_of_mem _ (List.mem_append_left _ (List.mem_append_right _ h))) (by decide +kernel))) (goodIn_sub (fun _ h => List.mem_cons_of_mem _ (List.mem_append_right _ h)) (by decide +kernel))
set_option maxRecDepth 20000 in
theorem gX9_fieldSize_X9_checkedFieldCell : GoodIn wsX9_fieldSize (wsV RX9 137 RX9 yX9_checkedFieldCell wsX9_checkedFieldCell) := goodIn_app (goodIn_of _ (by decide +kernel)) ggX9_fieldSize_X9_checkedFieldCell
set_option maxRecDepth 20000 in
theorem ggX9_fieldSize_X0_sizeOfField : GoodIn wsX9_fieldSize wsX0_sizeOfField := goodIn_r _ [28, 29, 30, 23, 5, 24, 31, 32, 33, 34, 35, 36, 37, 38, 48, 49, 50, 51] (by decide +kernel) (by decide +kernel)
set_option maxRecDepth 20000 in
theorem gX9_fieldSize_X0_sizeOfField : GoodIn wsX9_fieldSize (wsV RX9 140 RX0 yX0_sizeOfField wsX0_sizeOfField) := goodIn_app (goodIn_of _ (by decide +kernel)) ggX9_fieldSize_X0_sizeOfField
theorem dX9_fieldSize_0 : decode cX9_fieldSize 0 = .ok (.aload_n 0, 1) := by decide +kernel
theorem dX9_fieldSize_1 : decode cX9_fieldSize 1 = .ok (.getfield 12, 3) := by decide +kernel
theorem dX9_fieldSize_4 : decode cX9_fieldSize 4 = .ok (.aload_n 0, 1) := by decide +kernel
theorem dX9_fieldSize_5 : decode cX9_fieldSize 5 = .ok (.iload_n 1, 1) := by decide +kernel
theorem dX9_fieldSize_6 : decode cX9_fieldSize 6 = .ok (.iload_n 2, 1) := by decide +kernel
theorem dX9_fieldSize_7 : decode cX9_fieldSize 7 = .ok (.invokevirtual 137, 3) := by decide +kernel
theorem dX9_fieldSize_10 : decode cX9_fieldSize 10 = .ok (.invokevirtual 140, 3) := by decide +kernel
theorem dX9_fieldSize_13 : decode cX9_fieldSize 13 = .ok (.ireturn, 1) := by decide +kernel
set_option maxRecDepth 20000 in
theorem ggX9_cornerOf_X9_checkedFieldCell : GoodIn wsX9_cornerOf wsX9_checkedFieldCell := goodIn_ca (goodIn_ca (goodIn_r _ [6, 7, 8, 1, 9, 10, 5, 11, 12, 13, 14, 15, 16, 17, 18, 19, 20, 21, 22, 23, 24, 30, 31, 32, 33, 34, 35, 36, 37, 38, 39, 40, 41, 42] (by decide +kernel) (by decide +kernel)) (goodIn_sub (fun _ h => List.mem_cons_of_mem _ (List.mem_append_left _ (List.mem_append_right _ h))) (by decide +kernel))) (goodIn_sub (fun _ h => List.mem_cons_of_mem _ (List.mem_append_right _ h)) (by decide +kernel))
set_option maxRecDepth 20000 in
theorem gX9_cornerOf_X9_checkedFieldCell : GoodIn wsX9_cornerOf (wsV RX9 137 RX9 yX9_checkedFieldCell wsX9_checkedFieldCell) := goodIn_app (goodIn_of _ (by decide +kernel)) ggX9_cornerOf_X9_checkedFieldCell
set_option maxRecDepth 20000 in
theorem ggX9_cornerOf_X0_firstOfField : GoodIn wsX9_cornerOf wsX0_firstOfField := goodIn_r _ [28, 29, 23, 5, 24, 39, 40, 41, 42] (by decide +kernel) (by decide +kernel)
set_option maxRecDepth 20000 in
theorem gX9_cornerOf_X0_firstOfField : GoodIn wsX9_cornerOf (wsV RX9 234 RX0 yX0_firstOfField wsX0_firstOfField) := goodIn_app (goodIn_of _ (by decide +kernel)) ggX9_cornerOf_X0_firstOfField
theorem dX9_cornerOf_0 : decode cX9_cornerOf 0 = .ok (.aload_n 0, 1) := by decide +kernel
theorem dX9_cornerOf_1 : decode cX9_cornerOf 1 = .ok (.getfield 12, 3) := by decide +kernel
theorem dX9_cornerOf_4 : decode cX9_cornerOf 4 = .ok (.aload_n 0, 1) := by decide +kernel
theorem dX9_cornerOf_5 : decode cX9_cornerOf 5 = .ok (.iload_n 1, 1) := by decide +kernel
theorem dX9_cornerOf_6 : decode cX9_cornerOf 6 = .ok (.iload_n 2, 1) := by decide +kernel
theorem dX9_cornerOf_7 : decode cX9_cornerOf 7 = .ok (.invokevirtual 137, 3) := by decide +kernel
theorem dX9_cornerOf_10 : decode cX9_cornerOf 10 = .ok (.invokevirtual 234, 3) := by decide +kernel
theorem dX9_cornerOf_13 : decode cX9_cornerOf 13 = .ok (.ireturn, 1) := by decide +kernel
set_option maxRecDepth 20000 in
theorem ggX9_fields_X0_countFields : GoodIn wsX9_fields wsX0_countFields := goodIn_r _ [6, 7, 8, 9, 5, 10, 11, 12, 13, 14, 15, 25, 26, 27, 28] (by decide +kernel) (by decide +kernel)
set_option maxRecDepth 20000 in
theorem gX9_fields_X0_countFields : GoodIn wsX9_fields (wsV RX9 147 RX0 yX0_countFields wsX0_countFields) := goodIn_app (goodIn_of _ (by decide +kernel)) ggX9_fields_X0_countFields
theorem dX9_fields_0 : decode cX9_fields 0 = .ok (.aload_n 0, 1) := by decide +kernel
theorem dX9_fields_1 : decode cX9_fields 1 = .ok (.getfield 12, 3) := by decide +kernel
theorem dX9_fields_4 : decode cX9_fields 4 = .ok (.invokevirtual 147, 3) := by decide +kernel
theorem dX9_fields_7 : decode cX9_fields 7 = .ok (.ireturn, 1) := by decide +kernel
set_option maxRecDepth 20000 in
theorem ggX9_openCells_X9_countOpenCells : GoodIn wsX9_openCells wsX9_countOpenCells := goodIn_r _ [5, 6, 7, 8, 9, 10, 11, 12, 13, 4, 14, 15, 16, 17, 18, 19, 20, 21, 22, 23, 24, 25, 26, 27, 28, 29, 30, 31, 32, 33, 34] (by decide +kernel) (by decide +kernel)
set_option maxRecDepth 20000 in
theorem gX9_openCells_X9_countOpenCells : GoodIn wsX9_openCells (wsV RX9 237 RX9 yX9_countOpenCells wsX9_countOpenCells) := goodIn_app (goodIn_of _ (by decide +kernel)) ggX9_openCells_X9_countOpenCells
theorem dX9_openCells_0 : decode cX9_openCells 0 = .ok (.aload_n 0, 1) := by decide +kernel
theorem dX9_openCells_1 : decode cX9_openCells 1 = .ok (.invokevirtual 237, 3) := by decide +kernel
theorem dX9_openCells_4 : decode cX9_openCells 4 = .ok (.ireturn, 1) := by decide +kernel
set_option maxRecDepth 20000 in
theorem ggX9_isFull_X0_cellsInFields : GoodIn wsX9_isFull wsX0_cellsInFields := goodIn_r _ [7, 8, 9, 10, 11, 21, 22, 23, 24] (by decide +kernel) (by decide +kernel)
set_option maxRecDepth 20000 in
theorem gX9_isFull_X0_cellsInFields : GoodIn wsX9_isFull (wsV RX9 134 RX0 yX0_cellsInFields wsX0_cellsInFields) := goodIn_app (goodIn_of _ (by decide +kernel)) ggX9_isFull_X0_cellsInFields
theorem dX9_isFull_0 : decode cX9_isFull 0 = .ok (.aload_n 0, 1) := by decide +kernel
theorem dX9_isFull_1 : decode cX9_isFull 1 = .ok (.getfield 12, 3) := by decide +kernel
theorem dX9_isFull_4 : decode cX9_isFull 4 = .ok (.invokevirtual 134, 3) := by decide +kernel
theorem dX9_isFull_7 : decode cX9_isFull 7 = .ok (.ldc2_w 229, 3) := by decide +kernel
theorem dX9_isFull_10 : decode cX9_isFull 10 = .ok (.lcmp, 1) := by decide +kernel
theorem dX9_isFull_11 : decode cX9_isFull 11 = .ok (.ifCond .ne 7, 3) := by decide +kernel
theorem dX9_isFull_14 : decode cX9_isFull 14 = .ok (.iconst 1, 1) := by decide +kernel
theorem dX9_isFull_15 : decode cX9_isFull 15 = .ok (.goto 4, 3) := by decide +kernel
theorem dX9_isFull_18 : decode cX9_isFull 18 = .ok (.iconst 0, 1) := by decide +kernel
theorem dX9_isFull_19 : decode cX9_isFull 19 = .ok (.ireturn, 1) := by decide +kernel
set_option maxRecDepth 20000 in
theorem ggX9_reasonAgainst_X9_checkRectangle : GoodIn wsX9_reasonAgainst wsX9_checkRectangle := goodIn_ca (goodIn_r _ [5, 6, 7] (by decide +kernel) (by decide +kernel)) (goodIn_sub (fun _ h => List.mem_cons_of_mem _ (List.mem_append_right _ h)) (by decide +kernel))
set_option maxRecDepth 20000 in
theorem gX9_reasonAgainst_X9_checkRectangle : GoodIn wsX9_reasonAgainst (va_wsS RX9 119 yX9_checkRectangle wsX9_checkRectangle) := goodIn_app (goodIn_of _ (by decide +kernel)) ggX9_reasonAgainst_X9_checkRectangle
set_option maxRecDepth 20000 in
theorem ggX9_reasonAgainst_X9_cellAt : GoodIn wsX9_reasonAgainst wsX9_cellAt := goodIn_r _ [10] (by decide +kernel) (by decide +kernel)
set_option maxRecDepth 20000 in
theorem gX9_reasonAgainst_X9_cellAt : GoodIn wsX9_reasonAgainst (va_wsS RX9 123 yX9_cellAt wsX9_cellAt) := goodIn_app (goodIn_of _ (by decide +kernel)) ggX9_reasonAgainst_X9_cellAt
set_option maxRecDepth 20000 in
theorem ggX9_reasonAgainst_X0_reason : GoodIn wsX9_reasonAgainst wsX0_reason := goodIn_r _ [15, 16, 4, 17, 18, 19, 20, 21, 22, 23, 24, 25, 26, 14, 27, 28, 29, 30, 31, 32, 33, 34, 35, 36, 37, 38, 39, 40, 41, 42, 43, 44, 45, 46, 47, 48, 49, 50, 51, 52, 53, 54, 64, 65, 66, 67] (by decide +kernel) (by decide +kernel)
set_option maxRecDepth 20000 in
theorem gX9_reasonAgainst_X0_reason : GoodIn wsX9_reasonAgainst (wsV RX9 126 RX0 yX0_reason wsX0_reason) := goodIn_app (goodIn_of _ (by decide +kernel)) ggX9_reasonAgainst_X0_reason
theorem dX9_reasonAgainst_0 : decode cX9_reasonAgainst 0 = .ok (.iload_n 1, 1) := by decide +kernel
theorem dX9_reasonAgainst_1 : decode cX9_reasonAgainst 1 = .ok (.iload_n 2, 1) := by decide +kernel
theorem dX9_reasonAgainst_2 : decode cX9_reasonAgainst 2 = .ok (.iload_n 3, 1) := by decide +kernel
theorem dX9_reasonAgainst_3 : decode cX9_reasonAgainst 3 = .ok (.iload 4, 2) := by decide +kernel
theorem dX9_reasonAgainst_5 : decode cX9_reasonAgainst 5 = .ok (.invokestatic 119, 3) := by decide +kernel
theorem dX9_reasonAgainst_8 : decode cX9_reasonAgainst 8 = .ok (.aload_n 0, 1) := by decide +kernel
theorem dX9_reasonAgainst_9 : decode cX9_reasonAgainst 9 = .ok (.getfield 12, 3) := by decide +kernel
theorem dX9_reasonAgainst_12 : decode cX9_reasonAgainst 12 = .ok (.iload_n 1, 1) := by decide +kernel
theorem dX9_reasonAgainst_13 : decode cX9_reasonAgainst 13 = .ok (.iload_n 2, 1) := by decide +kernel
theorem dX9_reasonAgainst_14 : decode cX9_reasonAgainst 14 = .ok (.invokestatic 123, 3) := by decide +kernel
theorem dX9_reasonAgainst_17 : decode cX9_reasonAgainst 17 = .ok (.iload_n 3, 1) := by decide +kernel
theorem dX9_reasonAgainst_18 : decode cX9_reasonAgainst 18 = .ok (.iload 4, 2) := by decide +kernel
theorem dX9_reasonAgainst_20 : decode cX9_reasonAgainst 20 = .ok (.invokestatic 123, 3) := by decide +kernel
theorem dX9_reasonAgainst_23 : decode cX9_reasonAgainst 23 = .ok (.invokevirtual 126, 3) := by decide +kernel
theorem dX9_reasonAgainst_26 : decode cX9_reasonAgainst 26 = .ok (.ireturn, 1) := by decide +kernel
set_option maxRecDepth 20000 in
theorem ggX9_possibleFor_X9_checkedCell : GoodIn wsX9_possibleFor wsX9_checkedCell := goodIn_ca (goodIn_r _ [6, 7, 8, 9, 10, 5, 11] (by decide +kernel) (by decide +kernel)) (goodIn_sub (fun _ h => List.mem_cons_of_mem _ (List.mem_append_right _ h)) (by decide +kernel))
set_option maxRecDepth 20000 in
theorem gX9_possibleFor_X9_checkedCell : GoodIn wsX9_possibleFor (va_wsS RX9 70 yX9_checkedCell wsX9_checkedCell) := goodIn_app (goodIn_of _ (by decide +kernel)) ggX9_possibleFor_X9_checkedCell
set_option maxRecDepth 20000 in
theorem ggX9_possibleFor_X7_find : GoodIn wsX9_possibleFor wsX7_find := goodIn_r _ [16, 17, 18, 19, 20, 21, 22, 23, 24, 25, 5, 26, 27, 28, 29, 30, 31, 32, 33, 34, 35, 36, 37, 38, 39, 40, 41, 42, 43, 44, 45, 46, 47, 48, 49, 50, 15, 51, 52, 53, 54, 55, 56, 57, 75, 76, 77, 78, 79, 80, 81, 82, 83, 84, 85, 86] (by decide +kernel) (by decide +kernel)
set_option maxRecDepth 20000 in
theorem gX9_possibleFor_X7_find : GoodIn wsX9_possibleFor (wsV RX9 240 RX7 yX7_find wsX7_find) := goodIn_app (goodIn_of _ (by decide +kernel)) ggX9_possibleFor_X7_find
set_option maxRecDepth 20000 in
theorem ggX9_possibleFor_X7_countOf : GoodIn wsX9_possibleFor wsX7_countOf := goodIn_r _ [61, 17, 62, 63, 64, 15, 65, 57, 75, 76, 77, 78, 79, 80, 81, 82] (by decide +kernel) (by decide +kernel)
set_option maxRecDepth 20000 in
theorem gX9_possibleFor_X7_countOf : GoodIn wsX9_possibleFor (wsV RX9 243 RX7 yX7_countOf wsX7_countOf) := goodIn_app (goodIn_of _ (by decide +kernel)) ggX9_possibleFor_X7_countOf
theorem dX9_possibleFor_0 : decode cX9_possibleFor 0 = .ok (.iload_n 1, 1) := by decide +kernel
theorem dX9_possibleFor_1 : decode cX9_possibleFor 1 = .ok (.iload_n 2, 1) := by decide +kernel
theorem dX9_possibleFor_2 : decode cX9_possibleFor 2 = .ok (.invokestatic 70, 3) := by decide +kernel
theorem dX9_possibleFor_5 : decode cX9_possibleFor 5 = .ok (.istore_n 3, 1) := by decide +kernel
theorem dX9_possibleFor_6 : decode cX9_possibleFor 6 = .ok (.aload_n 0, 1) := by decide +kernel
theorem dX9_possibleFor_7 : decode cX9_possibleFor 7 = .ok (.getfield 43, 3) := by decide +kernel
theorem dX9_possibleFor_10 : decode cX9_possibleFor 10 = .ok (.aload_n 0, 1) := by decide +kernel
theorem dX9_possibleFor_11 : decode cX9_possibleFor 11 = .ok (.getfield 12, 3) := by decide +kernel
theorem dX9_possibleFor_14 : decode cX9_possibleFor 14 = .ok (.invokevirtual 240, 3) := by decide +kernel
theorem dX9_possibleFor_17 : decode cX9_possibleFor 17 = .ok (.aload_n 0, 1) := by decide +kernel
theorem dX9_possibleFor_18 : decode cX9_possibleFor 18 = .ok (.getfield 43, 3) := by decide +kernel
theorem dX9_possibleFor_21 : decode cX9_possibleFor 21 = .ok (.iload_n 3, 1) := by decide +kernel
theorem dX9_possibleFor_22 : decode cX9_possibleFor 22 = .ok (.invokevirtual 243, 3) := by decide +kernel
theorem dX9_possibleFor_25 : decode cX9_possibleFor 25 = .ok (.ireturn, 1) := by decide +kernel
set_option maxRecDepth 20000 in
theorem ggX9_possibleAt_X9_checkedCell : GoodIn wsX9_possibleAt wsX9_checkedCell := goodIn_ca (goodIn_r _ [8, 1, 2, 9, 10, 7, 11] (by decide +kernel) (by decide +kernel)) (goodIn_sub (fun _ h => List.mem_cons_of_mem _ (List.mem_append_right _ h)) (by decide +kernel))
set_option maxRecDepth 20000 in
theorem gX9_possibleAt_X9_checkedCell : GoodIn wsX9_possibleAt (va_wsS RX9 70 yX9_checkedCell wsX9_checkedCell) := goodIn_app (goodIn_of _ (by decide +kernel)) ggX9_possibleAt_X9_checkedCell
set_option maxRecDepth 20000 in
theorem ggX9_possibleAt_X7_find : GoodIn wsX9_possibleAt wsX7_find := goodIn_r _ [16, 17, 18, 19, 20, 21, 22, 23, 24, 25, 7, 26, 27, 28, 29, 30, 31, 32, 33, 34, 35, 36, 37, 38, 39, 40, 41, 42, 43, 44, 45, 46, 47, 48, 49, 50, 15, 51, 52, 53, 54, 55, 56, 57, 91, 92, 93, 94, 95, 96, 97, 98, 99, 100, 101, 102] (by decide +kernel) (by decide +kernel)
set_option maxRecDepth 20000 in
theorem gX9_possibleAt_X7_find : GoodIn wsX9_possibleAt (wsV RX9 240 RX7 yX7_find wsX7_find) := goodIn_app (goodIn_of _ (by decide +kernel)) ggX9_possibleAt_X7_find
set_option maxRecDepth 20000 in
theorem ggX9_possibleAt_X7_countOf : GoodIn wsX9_possibleAt wsX7_countOf := goodIn_r _ [61, 17, 62, 63, 64, 15, 65, 57, 91, 92, 93, 94, 95, 96, 97, 98] (by decide +kernel) (by decide +kernel)
set_option maxRecDepth 20000 in
theorem gX9_possibleAt_X7_countOf : GoodIn wsX9_possibleAt (wsV RX9 243 RX7 yX7_countOf wsX7_countOf) := goodIn_app (goodIn_of _ (by decide +kernel)) ggX9_possibleAt_X7_countOf
set_option maxRecDepth 20000 in
theorem ggX9_possibleAt_X7_indexOf : GoodIn wsX9_possibleAt wsX7_indexOf := goodIn_r _ [69, 17, 62, 63, 64, 15, 65, 57, 91, 92, 93, 94, 95, 96, 97, 98] (by decide +kernel) (by decide +kernel)
set_option maxRecDepth 20000 in
theorem gX9_possibleAt_X7_indexOf : GoodIn wsX9_possibleAt (wsV RX9 248 RX7 yX7_indexOf wsX7_indexOf) := goodIn_app (goodIn_of _ (by decide +kernel)) ggX9_possibleAt_X7_indexOf
set_option maxRecDepth 20000 in
theorem ggX9_possibleAt_X7_bothEnds : GoodIn wsX9_possibleAt wsX7_bothEnds := goodIn_r _ [73, 74, 75, 76, 15, 77, 17, 52, 78, 79, 80, 81, 54, 91, 92, 93, 94, 95, 96, 97, 98] (by decide +kernel) (by decide +kernel)
set_option maxRecDepth 20000 in
theorem gX9_possibleAt_X7_bothEnds : GoodIn wsX9_possibleAt (wsV RX9 251 RX7 yX7_bothEnds wsX7_bothEnds) := goodIn_app (goodIn_of _ (by decide +kernel)) ggX9_possibleAt_X7_bothEnds
theorem dX9_possibleAt_0 : decode cX9_possibleAt 0 = .ok (.iload_n 1, 1) := by decide +kernel
theorem dX9_possibleAt_1 : decode cX9_possibleAt 1 = .ok (.iload_n 2, 1) := by decide +kernel
theorem dX9_possibleAt_2 : decode cX9_possibleAt 2 = .ok (.invokestatic 70, 3) := by decide +kernel
theorem dX9_possibleAt_5 : decode cX9_possibleAt 5 = .ok (.istore 4, 2) := by decide +kernel
theorem dX9_possibleAt_7 : decode cX9_possibleAt 7 = .ok (.aload_n 0, 1) := by decide +kernel
theorem dX9_possibleAt_8 : decode cX9_possibleAt 8 = .ok (.getfield 43, 3) := by decide +kernel
theorem dX9_possibleAt_11 : decode cX9_possibleAt 11 = .ok (.aload_n 0, 1) := by decide +kernel
theorem dX9_possibleAt_12 : decode cX9_possibleAt 12 = .ok (.getfield 12, 3) := by decide +kernel
theorem dX9_possibleAt_15 : decode cX9_possibleAt 15 = .ok (.invokevirtual 240, 3) := by decide +kernel
theorem dX9_possibleAt_18 : decode cX9_possibleAt 18 = .ok (.iload_n 3, 1) := by decide +kernel
theorem dX9_possibleAt_19 : decode cX9_possibleAt 19 = .ok (.ifCond .lt 16, 3) := by decide +kernel
theorem dX9_possibleAt_22 : decode cX9_possibleAt 22 = .ok (.iload_n 3, 1) := by decide +kernel
theorem dX9_possibleAt_23 : decode cX9_possibleAt 23 = .ok (.aload_n 0, 1) := by decide +kernel
theorem dX9_possibleAt_24 : decode cX9_possibleAt 24 = .ok (.getfield 43, 3) := by decide +kernel
theorem dX9_possibleAt_27 : decode cX9_possibleAt 27 = .ok (.iload 4, 2) := by decide +kernel
theorem dX9_possibleAt_29 : decode cX9_possibleAt 29 = .ok (.invokevirtual 243, 3) := by decide +kernel
theorem dX9_possibleAt_32 : decode cX9_possibleAt 32 = .ok (.if_icmp .lt 13, 3) := by decide +kernel
theorem dX9_possibleAt_35 : decode cX9_possibleAt 35 = .ok (.new 187, 3) := by decide +kernel
theorem dX9_possibleAt_38 : decode cX9_possibleAt 38 = .ok (.dup, 1) := by decide +kernel
theorem dX9_possibleAt_39 : decode cX9_possibleAt 39 = .ok (.ldc 246, 2) := by decide +kernel
theorem dX9_possibleAt_41 : decode cX9_possibleAt 41 = .ok (.invokespecial 191, 3) := by decide +kernel
theorem dX9_possibleAt_44 : decode cX9_possibleAt 44 = .ok (.athrow, 1) := by decide +kernel
theorem dX9_possibleAt_45 : decode cX9_possibleAt 45 = .ok (.aload_n 0, 1) := by decide +kernel
theorem dX9_possibleAt_46 : decode cX9_possibleAt 46 = .ok (.getfield 43, 3) := by decide +kernel
theorem dX9_possibleAt_49 : decode cX9_possibleAt 49 = .ok (.aload_n 0, 1) := by decide +kernel
theorem dX9_possibleAt_50 : decode cX9_possibleAt 50 = .ok (.getfield 43, 3) := by decide +kernel
theorem dX9_possibleAt_53 : decode cX9_possibleAt 53 = .ok (.iload 4, 2) := by decide +kernel
theorem dX9_possibleAt_55 : decode cX9_possibleAt 55 = .ok (.iload_n 3, 1) := by decide +kernel
theorem dX9_possibleAt_56 : decode cX9_possibleAt 56 = .ok (.invokevirtual 248, 3) := by decide +kernel
theorem dX9_possibleAt_59 : decode cX9_possibleAt 59 = .ok (.invokevirtual 251, 3) := by decide +kernel
theorem dX9_possibleAt_62 : decode cX9_possibleAt 62 = .ok (.ireturn, 1) := by decide +kernel
set_option maxRecDepth 20000 in
theorem ggX9_coveredBy_X9_checkedCell : GoodIn wsX9_coveredBy wsX9_checkedCell := goodIn_ca (goodIn_r _ [6, 7, 8, 9, 10, 5, 11] (by decide +kernel) (by decide +kernel)) (goodIn_sub (fun _ h => List.mem_cons_of_mem _ (List.mem_append_right _ h)) (by decide +kernel))
set_option maxRecDepth 20000 in
theorem gX9_coveredBy_X9_checkedCell : GoodIn wsX9_coveredBy (va_wsS RX9 70 yX9_checkedCell wsX9_checkedCell) := goodIn_app (goodIn_of _ (by decide +kernel)) ggX9_coveredBy_X9_checkedCell
set_option maxRecDepth 20000 in
theorem ggX9_coveredBy_X7_find : GoodIn wsX9_coveredBy wsX7_find := goodIn_r _ [16, 17, 18, 19, 20, 21, 22, 23, 24, 25, 5, 26, 27, 28, 29, 30, 31, 32, 33, 34, 35, 36, 37, 38, 39, 40, 41, 42, 43, 44, 45, 46, 47, 48, 49, 50, 15, 51, 52, 53, 54, 55, 56, 57, 78, 79, 80, 81, 82, 83, 84, 85, 86, 87, 88, 89] (by decide +kernel) (by decide +kernel)
set_option maxRecDepth 20000 in
theorem gX9_coveredBy_X7_find : GoodIn wsX9_coveredBy (wsV RX9 240 RX7 yX7_find wsX7_find) := goodIn_app (goodIn_of _ (by decide +kernel)) ggX9_coveredBy_X7_find
set_option maxRecDepth 20000 in
theorem ggX9_coveredBy_X7_countOver : GoodIn wsX9_coveredBy wsX7_countOver := goodIn_r _ [61, 17, 62, 63, 64, 15, 65, 56, 66, 5, 67, 68, 25, 26, 78, 79, 80, 81, 82, 83, 84, 85] (by decide +kernel) (by decide +kernel)
set_option maxRecDepth 20000 in
theorem gX9_coveredBy_X7_countOver : GoodIn wsX9_coveredBy (wsV RX9 254 RX7 yX7_countOver wsX7_countOver) := goodIn_app (goodIn_of _ (by decide +kernel)) ggX9_coveredBy_X7_countOver
theorem dX9_coveredBy_0 : decode cX9_coveredBy 0 = .ok (.iload_n 1, 1) := by decide +kernel
theorem dX9_coveredBy_1 : decode cX9_coveredBy 1 = .ok (.iload_n 2, 1) := by decide +kernel
theorem dX9_coveredBy_2 : decode cX9_coveredBy 2 = .ok (.invokestatic 70, 3) := by decide +kernel
theorem dX9_coveredBy_5 : decode cX9_coveredBy 5 = .ok (.istore_n 3, 1) := by decide +kernel
theorem dX9_coveredBy_6 : decode cX9_coveredBy 6 = .ok (.aload_n 0, 1) := by decide +kernel
theorem dX9_coveredBy_7 : decode cX9_coveredBy 7 = .ok (.getfield 43, 3) := by decide +kernel
theorem dX9_coveredBy_10 : decode cX9_coveredBy 10 = .ok (.aload_n 0, 1) := by decide +kernel
theorem dX9_coveredBy_11 : decode cX9_coveredBy 11 = .ok (.getfield 12, 3) := by decide +kernel
theorem dX9_coveredBy_14 : decode cX9_coveredBy 14 = .ok (.invokevirtual 240, 3) := by decide +kernel
theorem dX9_coveredBy_17 : decode cX9_coveredBy 17 = .ok (.aload_n 0, 1) := by decide +kernel
theorem dX9_coveredBy_18 : decode cX9_coveredBy 18 = .ok (.getfield 43, 3) := by decide +kernel
theorem dX9_coveredBy_21 : decode cX9_coveredBy 21 = .ok (.iload_n 3, 1) := by decide +kernel
theorem dX9_coveredBy_22 : decode cX9_coveredBy 22 = .ok (.invokevirtual 254, 3) := by decide +kernel
theorem dX9_coveredBy_25 : decode cX9_coveredBy 25 = .ok (.ireturn, 1) := by decide +kernel
set_option maxRecDepth 20000 in
theorem ggX9_claimedBy_X9_checkedCell : GoodIn wsX9_claimedBy wsX9_checkedCell := goodIn_ca (goodIn_r _ [6, 7, 8, 9, 10, 5, 11] (by decide +kernel) (by decide +kernel)) (goodIn_sub (fun _ h => List.mem_cons_of_mem _ (List.mem_append_right _ h)) (by decide +kernel))
set_option maxRecDepth 20000 in
theorem gX9_claimedBy_X9_checkedCell : GoodIn wsX9_claimedBy (va_wsS RX9 70 yX9_checkedCell wsX9_checkedCell) := goodIn_app (goodIn_of _ (by decide +kernel)) ggX9_claimedBy_X9_checkedCell
set_option maxRecDepth 20000 in
theorem ggX9_claimedBy_X7_find : GoodIn wsX9_claimedBy wsX7_find := goodIn_r _ [16, 17, 18, 19, 20, 21, 22, 23, 24, 25, 5, 26, 27, 28, 29, 30, 31, 32, 33, 34, 35, 36, 37, 38, 39, 40, 41, 42, 43, 44, 45, 46, 47, 48, 49, 50, 15, 51, 52, 53, 54, 55, 56, 57, 82, 83, 84, 85, 86, 87, 88, 89, 90, 91, 92, 93] (by decide +kernel) (by decide +kernel)
set_option maxRecDepth 20000 in
theorem gX9_claimedBy_X7_find : GoodIn wsX9_claimedBy (wsV RX9 240 RX7 yX7_find wsX7_find) := goodIn_app (goodIn_of _ (by decide +kernel)) ggX9_claimedBy_X7_find
set_option maxRecDepth 20000 in
theorem ggX9_claimedBy_X7_countOwnersOver : GoodIn wsX9_claimedBy wsX7_countOwnersOver := goodIn_r _ [61, 17, 62, 63, 64, 15, 65, 56, 66, 5, 67, 68, 25, 26, 69, 70, 71, 72, 57, 32, 33, 34, 35, 36, 37, 38, 82, 83, 84, 85, 86, 87, 88, 89] (by decide +kernel) (by decide +kernel)
set_option maxRecDepth 20000 in
theorem gX9_claimedBy_X7_countOwnersOver : GoodIn wsX9_claimedBy (wsV RX9 257 RX7 yX7_countOwnersOver wsX7_countOwnersOver) := goodIn_app (goodIn_of _ (by decide +kernel)) ggX9_claimedBy_X7_countOwnersOver
theorem dX9_claimedBy_0 : decode cX9_claimedBy 0 = .ok (.iload_n 1, 1) := by decide +kernel
theorem dX9_claimedBy_1 : decode cX9_claimedBy 1 = .ok (.iload_n 2, 1) := by decide +kernel
theorem dX9_claimedBy_2 : decode cX9_claimedBy 2 = .ok (.invokestatic 70, 3) := by decide +kernel
theorem dX9_claimedBy_5 : decode cX9_claimedBy 5 = .ok (.istore_n 3, 1) := by decide +kernel
theorem dX9_claimedBy_6 : decode cX9_claimedBy 6 = .ok (.aload_n 0, 1) := by decide +kernel
theorem dX9_claimedBy_7 : decode cX9_claimedBy 7 = .ok (.getfield 43, 3) := by decide +kernel
theorem dX9_claimedBy_10 : decode cX9_claimedBy 10 = .ok (.aload_n 0, 1) := by decide +kernel
theorem dX9_claimedBy_11 : decode cX9_claimedBy 11 = .ok (.getfield 12, 3) := by decide +kernel
theorem dX9_claimedBy_14 : decode cX9_claimedBy 14 = .ok (.invokevirtual 240, 3) := by decide +kernel
theorem dX9_claimedBy_17 : decode cX9_claimedBy 17 = .ok (.aload_n 0, 1) := by decide +kernel
theorem dX9_claimedBy_18 : decode cX9_claimedBy 18 = .ok (.getfield 43, 3) := by decide +kernel
theorem dX9_claimedBy_21 : decode cX9_claimedBy 21 = .ok (.iload_n 3, 1) := by decide +kernel
theorem dX9_claimedBy_22 : decode cX9_claimedBy 22 = .ok (.invokevirtual 257, 3) := by decide +kernel
theorem dX9_claimedBy_25 : decode cX9_claimedBy 25 = .ok (.ireturn, 1) := by decide +kernel
set_option maxRecDepth 20000 in
theorem ggX9_possible_X7_find : GoodIn wsX9_possible wsX7_find := goodIn_r _ [7, 8, 9, 10, 11, 12, 13, 14, 15, 16, 17, 18, 19, 20, 21, 22, 23, 24, 25, 26, 27, 28, 29, 30, 31, 32, 33, 34, 35, 36, 37, 38, 39, 40, 41, 42, 6, 43, 44, 45, 46, 47, 48, 49, 63, 64, 65, 66, 67, 68, 69, 70, 71, 72, 73, 74] (by decide +kernel) (by decide +kernel)
set_option maxRecDepth 20000 in
theorem gX9_possible_X7_find : GoodIn wsX9_possible (wsV RX9 240 RX7 yX7_find wsX7_find) := goodIn_app (goodIn_of _ (by decide +kernel)) ggX9_possible_X7_find
set_option maxRecDepth 20000 in
theorem ggX9_possible_X7_size : GoodIn wsX9_possible wsX7_size := goodIn_r _ [53, 8, 63, 64, 65, 66, 67, 68, 69, 70] (by decide +kernel) (by decide +kernel)
set_option maxRecDepth 20000 in
theorem gX9_possible_X7_size : GoodIn wsX9_possible (wsV RX9 260 RX7 yX7_size wsX7_size) := goodIn_app (goodIn_of _ (by decide +kernel)) ggX9_possible_X7_size
theorem dX9_possible_0 : decode cX9_possible 0 = .ok (.aload_n 0, 1) := by decide +kernel
theorem dX9_possible_1 : decode cX9_possible 1 = .ok (.getfield 43, 3) := by decide +kernel
theorem dX9_possible_4 : decode cX9_possible 4 = .ok (.aload_n 0, 1) := by decide +kernel
theorem dX9_possible_5 : decode cX9_possible 5 = .ok (.getfield 12, 3) := by decide +kernel
theorem dX9_possible_8 : decode cX9_possible 8 = .ok (.invokevirtual 240, 3) := by decide +kernel
theorem dX9_possible_11 : decode cX9_possible 11 = .ok (.aload_n 0, 1) := by decide +kernel
theorem dX9_possible_12 : decode cX9_possible 12 = .ok (.getfield 43, 3) := by decide +kernel
theorem dX9_possible_15 : decode cX9_possible 15 = .ok (.invokevirtual 260, 3) := by decide +kernel
theorem dX9_possible_18 : decode cX9_possible 18 = .ok (.ireturn, 1) := by decide +kernel
set_option maxRecDepth 20000 in
theorem ggX9_rounds_X8_run : GoodIn wsX9_rounds wsX8_run := goodIn_r _ [7, 8, 9, 10, 11, 12, 13, 14, 15, 16, 17, 18, 19, 20, 21, 22, 23, 24, 25, 26, 27, 28, 29, 30, 31, 32, 33, 34, 35, 36, 37, 38, 39, 40, 41, 42, 43, 44, 45, 46, 47, 48, 49, 50, 51, 52, 53, 54, 55, 56, 57, 58, 59, 60, 61, 62, 63, 64, 65, 66, 67, 68, 69, 70, 71, 72, 73, 74, 75, 76, 6, 77, 78, 79, 80, 81, 82, 83, 84, 85, 86, 87, 88, 89, 90, 91, 92, 93, 94, 95, 96, 97, 111, 112, 113, 114, 115, 116, 117, 118, 119, 120, 121, 122, 123, 124, 125, 126, 127, 128, 129] (by decide +kernel) (by decide +kernel)
set_option maxRecDepth 20000 in
theorem gX9_rounds_X8_run : GoodIn wsX9_rounds (wsV RX9 263 RX8 yX8_run wsX8_run) := goodIn_app (goodIn_of _ (by decide +kernel)) ggX9_rounds_X8_run
set_option maxRecDepth 20000 in
theorem ggX9_rounds_X8_countRounds : GoodIn wsX9_rounds wsX8_countRounds := goodIn_r _ [101, 14, 111, 112, 113, 114, 115, 116, 117] (by decide +kernel) (by decide +kernel)
set_option maxRecDepth 20000 in
theorem gX9_rounds_X8_countRounds : GoodIn wsX9_rounds (wsV RX9 266 RX8 yX8_countRounds wsX8_countRounds) := goodIn_app (goodIn_of _ (by decide +kernel)) ggX9_rounds_X8_countRounds
theorem dX9_rounds_0 : decode cX9_rounds 0 = .ok (.aload_n 0, 1) := by decide +kernel
theorem dX9_rounds_1 : decode cX9_rounds 1 = .ok (.getfield 52, 3) := by decide +kernel
theorem dX9_rounds_4 : decode cX9_rounds 4 = .ok (.aload_n 0, 1) := by decide +kernel
theorem dX9_rounds_5 : decode cX9_rounds 5 = .ok (.getfield 12, 3) := by decide +kernel
theorem dX9_rounds_8 : decode cX9_rounds 8 = .ok (.invokevirtual 263, 3) := by decide +kernel
theorem dX9_rounds_11 : decode cX9_rounds 11 = .ok (.aload_n 0, 1) := by decide +kernel
theorem dX9_rounds_12 : decode cX9_rounds 12 = .ok (.getfield 52, 3) := by decide +kernel
theorem dX9_rounds_15 : decode cX9_rounds 15 = .ok (.invokevirtual 266, 3) := by decide +kernel
theorem dX9_rounds_18 : decode cX9_rounds 18 = .ok (.ireturn, 1) := by decide +kernel
set_option maxRecDepth 20000 in
theorem ggX9_leftInTheEnd_X8_run : GoodIn wsX9_leftInTheEnd wsX8_run := goodIn_r _ [7, 8, 9, 10, 11, 12, 13, 14, 15, 16, 17, 18, 19, 20, 21, 22, 23, 24, 25, 26, 27, 28, 29, 30, 31, 32, 33, 34, 35, 36, 37, 38, 39, 40, 41, 42, 43, 44, 45, 46, 47, 48, 49, 50, 51, 52, 53, 54, 55, 56, 57, 58, 59, 60, 61, 62, 63, 64, 65, 66, 67, 68, 69, 70, 71, 72, 73, 74, 75, 76, 6, 77, 78, 79, 80, 81, 82, 83, 84, 85, 86, 87, 88, 89, 90, 91, 92, 93, 94, 95, 96, 97, 111, 112, 113, 114, 115, 116, 117, 118, 119, 120, 121, 122, 123, 124, 125, 126, 127, 128, 129] (by decide +kernel) (by decide +kernel)
set_option maxRecDepth 20000 in
theorem gX9_leftInTheEnd_X8_run : GoodIn wsX9_leftInTheEnd (wsV RX9 263 RX8 yX8_run wsX8_run) := goodIn_app (goodIn_of _ (by decide +kernel)) ggX9_leftInTheEnd_X8_run
set_option maxRecDepth 20000 in
theorem ggX9_leftInTheEnd_X8_countLeft : GoodIn wsX9_leftInTheEnd wsX8_countLeft := goodIn_r _ [101, 13, 111, 112, 113, 114, 115, 116, 117] (by decide +kernel) (by decide +kernel)
set_option maxRecDepth 20000 in
theorem gX9_leftInTheEnd_X8_countLeft : GoodIn wsX9_leftInTheEnd (wsV RX9 269 RX8 yX8_countLeft wsX8_countLeft) := goodIn_app (goodIn_of _ (by decide +kernel)) ggX9_leftInTheEnd_X8_countLeft
theorem dX9_leftInTheEnd_0 : decode cX9_leftInTheEnd 0 = .ok (.aload_n 0, 1) := by decide +kernel
theorem dX9_leftInTheEnd_1 : decode cX9_leftInTheEnd 1 = .ok (.getfield 52, 3) := by decide +kernel
theorem dX9_leftInTheEnd_4 : decode cX9_leftInTheEnd 4 = .ok (.aload_n 0, 1) := by decide +kernel
theorem dX9_leftInTheEnd_5 : decode cX9_leftInTheEnd 5 = .ok (.getfield 12, 3) := by decide +kernel
theorem dX9_leftInTheEnd_8 : decode cX9_leftInTheEnd 8 = .ok (.invokevirtual 263, 3) := by decide +kernel
theorem dX9_leftInTheEnd_11 : decode cX9_leftInTheEnd 11 = .ok (.aload_n 0, 1) := by decide +kernel
theorem dX9_leftInTheEnd_12 : decode cX9_leftInTheEnd 12 = .ok (.getfield 52, 3) := by decide +kernel
theorem dX9_leftInTheEnd_15 : decode cX9_leftInTheEnd 15 = .ok (.invokevirtual 269, 3) := by decide +kernel
theorem dX9_leftInTheEnd_18 : decode cX9_leftInTheEnd 18 = .ok (.ireturn, 1) := by decide +kernel
set_option maxRecDepth 20000 in
theorem ggX9_leftFor_X9_checkedCell : GoodIn wsX9_leftFor wsX9_checkedCell := goodIn_ca (goodIn_r _ [6, 7, 8, 9, 10, 5, 11] (by decide +kernel) (by decide +kernel)) (goodIn_sub (fun _ h => List.mem_cons_of_mem _ (List.mem_append_right _ h)) (by decide +kernel))
set_option maxRecDepth 20000 in
theorem gX9_leftFor_X9_checkedCell : GoodIn wsX9_leftFor (va_wsS RX9 70 yX9_checkedCell wsX9_checkedCell) := goodIn_app (goodIn_of _ (by decide +kernel)) ggX9_leftFor_X9_checkedCell
set_option maxRecDepth 20000 in
theorem ggX9_leftFor_X8_run : GoodIn wsX9_leftFor wsX8_run := goodIn_r _ [16, 17, 18, 19, 20, 21, 22, 23, 24, 25, 26, 27, 28, 29, 30, 31, 32, 33, 34, 35, 36, 37, 5, 38, 39, 40, 41, 42, 43, 44, 45, 46, 47, 48, 49, 50, 51, 52, 53, 54, 55, 56, 57, 58, 59, 60, 61, 62, 63, 64, 65, 66, 67, 68, 69, 70, 71, 72, 73, 74, 75, 76, 77, 78, 79, 80, 81, 82, 83, 84, 15, 85, 86, 87, 88, 89, 90, 91, 92, 93, 94, 95, 96, 97, 98, 99, 100, 101, 102, 103, 104, 105, 119, 120, 121, 122, 123, 124, 125, 126, 127, 128, 129, 130, 131, 132, 133, 134, 135, 136, 137] (by decide +kernel) (by decide +kernel)
set_option maxRecDepth 20000 in
theorem gX9_leftFor_X8_run : GoodIn wsX9_leftFor (wsV RX9 263 RX8 yX8_run wsX8_run) := goodIn_app (goodIn_of _ (by decide +kernel)) ggX9_leftFor_X8_run
set_option maxRecDepth 20000 in
theorem ggX9_leftFor_X8_countLeftOf : GoodIn wsX9_leftFor wsX8_countLeftOf := goodIn_r _ [109, 22, 17, 92, 93, 94, 27, 95, 29, 69, 119, 120, 121, 122, 123, 124, 125, 126, 127, 128, 129, 130, 131, 132, 133] (by decide +kernel) (by decide +kernel)
set_option maxRecDepth 20000 in
theorem gX9_leftFor_X8_countLeftOf : GoodIn wsX9_leftFor (wsV RX9 272 RX8 yX8_countLeftOf wsX8_countLeftOf) := goodIn_app (goodIn_of _ (by decide +kernel)) ggX9_leftFor_X8_countLeftOf
theorem dX9_leftFor_0 : decode cX9_leftFor 0 = .ok (.iload_n 1, 1) := by decide +kernel
theorem dX9_leftFor_1 : decode cX9_leftFor 1 = .ok (.iload_n 2, 1) := by decide +kernel
theorem dX9_leftFor_2 : decode cX9_leftFor 2 = .ok (.invokestatic 70, 3) := by decide +kernel
theorem dX9_leftFor_5 : decode cX9_leftFor 5 = .ok (.istore_n 3, 1) := by decide +kernel
theorem dX9_leftFor_6 : decode cX9_leftFor 6 = .ok (.aload_n 0, 1) := by decide +kernel
theorem dX9_leftFor_7 : decode cX9_leftFor 7 = .ok (.getfield 52, 3) := by decide +kernel
theorem dX9_leftFor_10 : decode cX9_leftFor 10 = .ok (.aload_n 0, 1) := by decide +kernel
theorem dX9_leftFor_11 : decode cX9_leftFor 11 = .ok (.getfield 12, 3) := by decide +kernel
theorem dX9_leftFor_14 : decode cX9_leftFor 14 = .ok (.invokevirtual 263, 3) := by decide +kernel
theorem dX9_leftFor_17 : decode cX9_leftFor 17 = .ok (.aload_n 0, 1) := by decide +kernel
theorem dX9_leftFor_18 : decode cX9_leftFor 18 = .ok (.getfield 52, 3) := by decide +kernel
theorem dX9_leftFor_21 : decode cX9_leftFor 21 = .ok (.iload_n 3, 1) := by decide +kernel
theorem dX9_leftFor_22 : decode cX9_leftFor 22 = .ok (.invokevirtual 272, 3) := by decide +kernel
theorem dX9_leftFor_25 : decode cX9_leftFor 25 = .ok (.ireturn, 1) := by decide +kernel
set_option maxRecDepth 20000 in
theorem ggX9_isContradiction_X8_run : GoodIn wsX9_isContradiction wsX8_run := goodIn_r _ [7, 8, 9, 10, 11, 12, 13, 14, 15, 16, 17, 18, 19, 20, 21, 22, 23, 24, 25, 26, 27, 28, 29, 30, 31, 32, 33, 34, 35, 36, 37, 38, 39, 40, 41, 42, 43, 44, 45, 46, 47, 48, 49, 50, 51, 52, 53, 54, 55, 56, 57, 58, 59, 60, 61, 62, 63, 64, 65, 66, 67, 68, 69, 70, 71, 72, 73, 74, 75, 76, 6, 77, 78, 79, 80, 81, 82, 83, 84, 85, 86, 87, 88, 89, 90, 91, 92, 93, 94, 95, 96, 97, 114, 115, 116, 117, 118, 119, 120, 121, 122, 123, 124, 125, 126, 127, 128, 129, 130, 131, 132] (by decide +kernel) (by decide +kernel)
set_option maxRecDepth 20000 in
theorem gX9_isContradiction_X8_run : GoodIn wsX9_isContradiction (wsV RX9 263 RX8 yX8_run wsX8_run) := goodIn_app (goodIn_of _ (by decide +kernel)) ggX9_isContradiction_X8_run
set_option maxRecDepth 20000 in
theorem ggX9_isContradiction_X8_endsInContradiction : GoodIn wsX9_isContradiction wsX8_endsInContradiction := goodIn_r _ [101, 12, 78, 11, 102, 29, 103, 104, 28, 30, 95, 96, 6, 97, 114, 115, 116, 117, 118, 119, 120] (by decide +kernel) (by decide +kernel)
set_option maxRecDepth 20000 in
theorem gX9_isContradiction_X8_endsInContradiction : GoodIn wsX9_isContradiction (wsV RX9 275 RX8 yX8_endsInContradiction wsX8_endsInContradiction) := goodIn_app (goodIn_of _ (by decide +kernel)) ggX9_isContradiction_X8_endsInContradiction
theorem dX9_isContradiction_0 : decode cX9_isContradiction 0 = .ok (.aload_n 0, 1) := by decide +kernel
theorem dX9_isContradiction_1 : decode cX9_isContradiction 1 = .ok (.getfield 52, 3) := by decide +kernel
theorem dX9_isContradiction_4 : decode cX9_isContradiction 4 = .ok (.aload_n 0, 1) := by decide +kernel
theorem dX9_isContradiction_5 : decode cX9_isContradiction 5 = .ok (.getfield 12, 3) := by decide +kernel
theorem dX9_isContradiction_8 : decode cX9_isContradiction 8 = .ok (.invokevirtual 263, 3) := by decide +kernel
theorem dX9_isContradiction_11 : decode cX9_isContradiction 11 = .ok (.aload_n 0, 1) := by decide +kernel
theorem dX9_isContradiction_12 : decode cX9_isContradiction 12 = .ok (.getfield 52, 3) := by decide +kernel
theorem dX9_isContradiction_15 : decode cX9_isContradiction 15 = .ok (.invokevirtual 275, 3) := by decide +kernel
theorem dX9_isContradiction_18 : decode cX9_isContradiction 18 = .ok (.ireturn, 1) := by decide +kernel
set_option maxRecDepth 20000 in
theorem ggX9_certain_X9_runWithoutContradiction : GoodIn wsX9_certain wsX9_runWithoutContradiction := goodIn_ca (goodIn_r _ [6, 7, 8, 1, 9, 10, 11, 12, 13, 14, 15, 16, 17, 18, 19, 20, 21, 22, 23, 24, 25, 26, 27, 28, 29, 30, 31, 32, 33, 34, 35, 5, 36, 37, 38, 39, 40, 41, 42, 43, 44, 45, 46, 47, 48, 49, 50, 51, 52, 53, 54, 55, 56, 57, 58, 59, 60, 61, 62, 63, 64, 65, 66, 67, 68, 69, 70, 71, 72, 73, 74, 75, 76, 77, 78, 79, 80, 81, 82, 83, 84, 85, 86, 87, 88, 89, 90, 91, 92, 93, 94, 95, 96, 97, 98, 99, 100, 101, 102, 103, 104, 105, 106, 107, 108, 109, 110, 119, 120, 121, 122, 123, 124, 125, 126, 127, 128, 129, 130, 131, 132, 133, 134, 135, 136, 137, 138, 139, 140, 141, 142, 143, 144, 145, 146] (by decide +kernel) (by decide +kernel)) (goodIn_sub (fun _ h => List.mem_cons_of_mem _ (List.mem_append_right _ h)) (by decide +kernel))
set_option maxRecDepth 20000 in
theorem gX9_certain_X9_runWithoutContradiction : GoodIn wsX9_certain (wsV RX9 154 RX9 yX9_runWithoutContradiction wsX9_runWithoutContradiction) := goodIn_app (goodIn_of _ (by decide +kernel)) ggX9_certain_X9_runWithoutContradiction
set_option maxRecDepth 20000 in
theorem ggX9_certain_X8_countCertain : GoodIn wsX9_certain wsX8_countCertain := goodIn_r _ [114, 115, 116, 117, 13, 118, 20, 15, 90, 91, 92, 25, 93, 27, 67, 128, 129, 130, 131, 132, 133, 134, 135, 136, 137, 138, 139, 140, 141, 142] (by decide +kernel) (by decide +kernel)
set_option maxRecDepth 20000 in
theorem gX9_certain_X8_countCertain : GoodIn wsX9_certain (wsV RX9 278 RX8 yX8_countCertain wsX8_countCertain) := goodIn_app (goodIn_of _ (by decide +kernel)) ggX9_certain_X8_countCertain
theorem dX9_certain_0 : decode cX9_certain 0 = .ok (.aload_n 0, 1) := by decide +kernel
theorem dX9_certain_1 : decode cX9_certain 1 = .ok (.invokevirtual 154, 3) := by decide +kernel
theorem dX9_certain_4 : decode cX9_certain 4 = .ok (.aload_n 0, 1) := by decide +kernel
theorem dX9_certain_5 : decode cX9_certain 5 = .ok (.getfield 52, 3) := by decide +kernel
theorem dX9_certain_8 : decode cX9_certain 8 = .ok (.invokevirtual 278, 3) := by decide +kernel
theorem dX9_certain_11 : decode cX9_certain 11 = .ok (.ireturn, 1) := by decide +kernel
set_option maxRecDepth 20000 in
theorem ggX9_hint_X9_runWithoutContradiction : GoodIn wsX9_hint wsX9_runWithoutContradiction := goodIn_ca (goodIn_r _ [8, 1, 2, 3, 9, 10, 11, 12, 13, 14, 15, 16, 17, 18, 19, 20, 21, 22, 23, 24, 25, 26, 27, 28, 29, 30, 31, 32, 33, 34, 35, 7, 36, 37, 38, 39, 40, 41, 42, 43, 44, 45, 46, 47, 48, 49, 50, 51, 52, 53, 54, 55, 56, 57, 58, 59, 60, 61, 62, 63, 64, 65, 66, 67, 68, 69, 70, 71, 72, 73, 74, 75, 76, 77, 78, 79, 80, 81, 82, 83, 84, 85, 86, 87, 88, 89, 90, 91, 92, 93, 94, 95, 96, 97, 98, 99, 100, 101, 102, 103, 104, 105, 106, 107, 108, 109, 110, 119, 120, 121, 122, 123, 124, 125, 126, 127, 128, 129, 130, 131, 132, 133, 134, 135, 136, 137, 138, 139, 140, 141, 142, 143, 144, 145, 146] (by decide +kernel) (by decide +kernel)) (goodIn_sub (fun _ h => List.mem_cons_of_mem _ (List.mem_append_right _ h)) (by decide +kernel))
set_option maxRecDepth 20000 in
theorem gX9_hint_X9_runWithoutContradiction : GoodIn wsX9_hint (wsV RX9 154 RX9 yX9_runWithoutContradiction wsX9_runWithoutContradiction) := goodIn_app (goodIn_of _ (by decide +kernel)) ggX9_hint_X9_runWithoutContradiction
set_option maxRecDepth 20000 in
theorem ggX9_hint_X8_firstCertain : GoodIn wsX9_hint wsX8_firstCertain := goodIn_r _ [114, 115, 116, 117, 13, 118, 20, 15, 90, 91, 92, 25, 93, 27, 67, 128, 129, 130, 131, 132, 133, 134, 135, 136, 137, 138, 139, 140, 141, 142] (by decide +kernel) (by decide +kernel)
set_option maxRecDepth 20000 in
theorem gX9_hint_X8_firstCertain : GoodIn wsX9_hint (wsV RX9 281 RX8 yX8_firstCertain wsX8_firstCertain) := goodIn_app (goodIn_of _ (by decide +kernel)) ggX9_hint_X8_firstCertain
theorem dX9_hint_0 : decode cX9_hint 0 = .ok (.aload_n 0, 1) := by decide +kernel
theorem dX9_hint_1 : decode cX9_hint 1 = .ok (.invokevirtual 154, 3) := by decide +kernel
theorem dX9_hint_4 : decode cX9_hint 4 = .ok (.aload_n 0, 1) := by decide +kernel
theorem dX9_hint_5 : decode cX9_hint 5 = .ok (.getfield 52, 3) := by decide +kernel
theorem dX9_hint_8 : decode cX9_hint 8 = .ok (.invokevirtual 281, 3) := by decide +kernel
theorem dX9_hint_11 : decode cX9_hint 11 = .ok (.istore_n 1, 1) := by decide +kernel
theorem dX9_hint_12 : decode cX9_hint 12 = .ok (.iload_n 1, 1) := by decide +kernel
theorem dX9_hint_13 : decode cX9_hint 13 = .ok (.bipush 42, 2) := by decide +kernel
theorem dX9_hint_15 : decode cX9_hint 15 = .ok (.if_icmp .ne 14, 3) := by decide +kernel
theorem dX9_hint_18 : decode cX9_hint 18 = .ok (.new 85, 3) := by decide +kernel
theorem dX9_hint_21 : decode cX9_hint 21 = .ok (.dup, 1) := by decide +kernel
theorem dX9_hint_22 : decode cX9_hint 22 = .ok (.ldc_w 284, 3) := by decide +kernel
theorem dX9_hint_25 : decode cX9_hint 25 = .ok (.invokespecial 89, 3) := by decide +kernel
theorem dX9_hint_28 : decode cX9_hint 28 = .ok (.athrow, 1) := by decide +kernel
theorem dX9_hint_29 : decode cX9_hint 29 = .ok (.iload_n 1, 1) := by decide +kernel
theorem dX9_hint_30 : decode cX9_hint 30 = .ok (.ireturn, 1) := by decide +kernel
set_option maxRecDepth 20000 in
theorem ggX9_waysByNumbers_X6_countWays : GoodIn wsX9_waysByNumbers wsX6_countWays := goodIn_r _ [7, 8, 9, 10, 11, 12, 13, 14, 15, 16, 17, 18, 19, 20, 21, 22, 23, 24, 25, 26, 27, 28, 29, 30, 31, 32, 33, 34, 35, 36, 37, 38, 39, 40, 41, 42, 43, 44, 45, 46, 47, 48, 49, 50, 51, 52, 53, 54, 55, 56, 57, 58, 59, 60, 61, 62, 63, 64, 65, 66, 67, 68, 69, 70, 71, 72, 73, 74, 75, 76, 77, 78, 79, 80, 81, 6, 82, 83, 84, 85, 86, 87, 88, 89, 90, 91, 92, 93, 94, 95, 96, 97, 98, 99, 100, 101, 102, 103, 104, 105, 106, 107, 108, 109, 110, 111, 112, 113, 114, 124, 125, 126, 127, 128, 129, 130, 131, 132, 133, 134, 135, 136, 137, 138, 139] (by decide +kernel) (by decide +kernel)
set_option maxRecDepth 20000 in
theorem gX9_waysByNumbers_X6_countWays : GoodIn wsX9_waysByNumbers (wsV RX9 286 RX6 yX6_countWays wsX6_countWays) := goodIn_app (goodIn_of _ (by decide +kernel)) ggX9_waysByNumbers_X6_countWays
theorem dX9_waysByNumbers_0 : decode cX9_waysByNumbers 0 = .ok (.aload_n 0, 1) := by decide +kernel
theorem dX9_waysByNumbers_1 : decode cX9_waysByNumbers 1 = .ok (.getfield 59, 3) := by decide +kernel
theorem dX9_waysByNumbers_4 : decode cX9_waysByNumbers 4 = .ok (.aload_n 0, 1) := by decide +kernel
theorem dX9_waysByNumbers_5 : decode cX9_waysByNumbers 5 = .ok (.getfield 12, 3) := by decide +kernel
theorem dX9_waysByNumbers_8 : decode cX9_waysByNumbers 8 = .ok (.invokevirtual 286, 3) := by decide +kernel
theorem dX9_waysByNumbers_11 : decode cX9_waysByNumbers 11 = .ok (.ireturn, 1) := by decide +kernel
set_option maxRecDepth 20000 in
theorem ggX9_waysByCells_X1_countWays : GoodIn wsX9_waysByCells wsX1_countWays := goodIn_r _ [7, 8, 9, 10, 11, 12, 13, 14, 15, 16, 17, 18, 19, 20, 21, 22, 23, 24, 25, 26, 27, 28, 29, 30, 31, 32, 33, 34, 35, 36, 37, 38, 39, 40, 41, 42, 43, 44, 45, 46, 47, 48, 49, 50, 51, 52, 53, 54, 55, 56, 57, 58, 59, 60, 61, 62, 63, 64, 65, 66, 67, 68, 69, 70, 71, 72, 73, 74, 75, 76, 77, 78, 79, 80, 81, 82, 83, 6, 84, 85, 86, 87, 88, 89, 90, 91, 92, 93, 94, 95, 96, 97, 98, 99, 100, 101, 102, 103, 104, 105, 106, 107, 108, 109, 110, 111, 112, 113, 114, 115, 116, 117, 118, 119, 120, 121, 122, 132, 133, 134, 135, 136, 137, 138, 139, 140, 141, 142, 143, 144, 145, 146, 147, 148] (by decide +kernel) (by decide +kernel)
set_option maxRecDepth 20000 in
theorem gX9_waysByCells_X1_countWays : GoodIn wsX9_waysByCells (wsV RX9 289 RX1 yX1_countWays wsX1_countWays) := goodIn_app (goodIn_of _ (by decide +kernel)) ggX9_waysByCells_X1_countWays
theorem dX9_waysByCells_0 : decode cX9_waysByCells 0 = .ok (.aload_n 0, 1) := by decide +kernel
theorem dX9_waysByCells_1 : decode cX9_waysByCells 1 = .ok (.getfield 66, 3) := by decide +kernel
theorem dX9_waysByCells_4 : decode cX9_waysByCells 4 = .ok (.aload_n 0, 1) := by decide +kernel
theorem dX9_waysByCells_5 : decode cX9_waysByCells 5 = .ok (.getfield 12, 3) := by decide +kernel
theorem dX9_waysByCells_8 : decode cX9_waysByCells 8 = .ok (.bipush 50, 2) := by decide +kernel
theorem dX9_waysByCells_10 : decode cX9_waysByCells 10 = .ok (.invokevirtual 289, 3) := by decide +kernel
theorem dX9_waysByCells_13 : decode cX9_waysByCells 13 = .ok (.ireturn, 1) := by decide +kernel
set_option maxRecDepth 20000 in
theorem ggX9_isUnique_X1_countWays : GoodIn wsX9_isUnique wsX1_countWays := goodIn_r _ [7, 8, 9, 10, 11, 12, 13, 14, 15, 16, 17, 18, 19, 20, 21, 22, 23, 24, 25, 26, 27, 28, 29, 30, 31, 32, 33, 34, 35, 36, 37, 38, 39, 40, 41, 42, 43, 44, 45, 46, 47, 48, 49, 50, 51, 52, 53, 54, 55, 56, 57, 58, 59, 60, 61, 62, 63, 64, 65, 66, 67, 68, 69, 70, 71, 72, 73, 74, 75, 76, 77, 78, 79, 80, 81, 82, 83, 6, 84, 85, 86, 87, 88, 89, 90, 91, 92, 93, 94, 95, 96, 97, 98, 99, 100, 101, 102, 103, 104, 105, 106, 107, 108, 109, 110, 111, 112, 113, 114, 115, 116, 117, 118, 119, 120, 121, 122, 132, 133, 134, 135, 136, 137, 138, 139, 140, 141, 142, 143, 144, 145, 146, 147, 148] (by decide +kernel) (by decide +kernel)
set_option maxRecDepth 20000 in
theorem gX9_isUnique_X1_countWays : GoodIn wsX9_isUnique (wsV RX9 289 RX1 yX1_countWays wsX1_countWays) := goodIn_app (goodIn_of _ (by decide +kernel)) ggX9_isUnique_X1_countWays
theorem dX9_isUnique_0 : decode cX9_isUnique 0 = .ok (.aload_n 0, 1) := by decide +kernel
theorem dX9_isUnique_1 : decode cX9_isUnique 1 = .ok (.getfield 66, 3) := by decide +kernel
theorem dX9_isUnique_4 : decode cX9_isUnique 4 = .ok (.aload_n 0, 1) := by decide +kernel
theorem dX9_isUnique_5 : decode cX9_isUnique 5 = .ok (.getfield 12, 3) := by decide +kernel
theorem dX9_isUnique_8 : decode cX9_isUnique 8 = .ok (.iconst 2, 1) := by decide +kernel
theorem dX9_isUnique_9 : decode cX9_isUnique 9 = .ok (.invokevirtual 289, 3) := by decide +kernel
theorem dX9_isUnique_12 : decode cX9_isUnique 12 = .ok (.iconst 1, 1) := by decide +kernel
theorem dX9_isUnique_13 : decode cX9_isUnique 13 = .ok (.if_icmp .ne 7, 3) := by decide +kernel
theorem dX9_isUnique_16 : decode cX9_isUnique 16 = .ok (.iconst 1, 1) := by decide +kernel
theorem dX9_isUnique_17 : decode cX9_isUnique 17 = .ok (.goto 4, 3) := by decide +kernel
theorem dX9_isUnique_20 : decode cX9_isUnique 20 = .ok (.iconst 0, 1) := by decide +kernel
theorem dX9_isUnique_21 : decode cX9_isUnique 21 = .ok (.ireturn, 1) := by decide +kernel
set_option maxRecDepth 20000 in
theorem ggX9_sizeInFirst_X9_checkedCell : GoodIn wsX9_sizeInFirst wsX9_checkedCell := goodIn_ca (goodIn_r _ [6, 7, 8, 9, 10, 5, 11] (by decide +kernel) (by decide +kernel)) (goodIn_sub (fun _ h => List.mem_cons_of_mem _ (List.mem_append_left _ (List.mem_append_right _ h))) (by decide +kernel))
set_option maxRecDepth 20000 in
theorem gX9_sizeInFirst_X9_checkedCell : GoodIn wsX9_sizeInFirst (va_wsS RX9 70 yX9_checkedCell wsX9_checkedCell) := goodIn_app (goodIn_of _ (by decide +kernel)) ggX9_sizeInFirst_X9_checkedCell
set_option maxRecDepth 20000 in
theorem ggX9_sizeInFirst_X9_findFirstWay : GoodIn wsX9_sizeInFirst wsX9_findFirstWay := goodIn_ca (goodIn_r _ [15, 16, 17, 2, 18, 19, 20, 21, 22, 23, 24, 25, 26, 27, 28, 29, 30, 31, 32, 33, 34, 35, 36, 37, 38, 39, 40, 5, 41, 42, 43, 44, 45, 46, 47, 48, 49, 50, 51, 52, 53, 54, 55, 56, 57, 58, 59, 60, 61, 62, 63, 64, 65, 66, 67, 68, 69, 70, 71, 72, 73, 74, 75, 76, 77, 78, 79, 80, 81, 82, 83, 84, 85, 86, 87, 88, 89, 90, 91, 92, 93, 94, 95, 96, 97, 98, 99, 100, 101, 102, 103, 104, 105, 106, 107, 108, 109, 110, 111, 112, 113, 114, 115, 116, 117, 118, 119, 120, 121, 122, 123, 124, 125, 126, 127, 128, 129, 130, 131, 132, 133, 134, 135, 136, 153, 154, 155, 156, 157, 158, 159, 160, 161, 162, 163, 164, 165, 166, 167, 168, 169, 170, 171, 172, 173, 174, 175, 176, 177, 178] (by decide +kernel) (by decide +kernel)) (goodIn_sub (fun _ h => List.mem_cons_of_mem _ (List.mem_append_right _ h)) (by decide +kernel))
set_option maxRecDepth 20000 in
theorem gX9_sizeInFirst_X9_findFirstWay : GoodIn wsX9_sizeInFirst (wsV RX9 161 RX9 yX9_findFirstWay wsX9_findFirstWay) := goodIn_app (goodIn_of _ (by decide +kernel)) ggX9_sizeInFirst_X9_findFirstWay
set_option maxRecDepth 20000 in
theorem ggX9_sizeInFirst_X1_firstWay : GoodIn wsX9_sizeInFirst wsX1_firstWay := goodIn_r _ [140, 24, 162, 163, 164, 165, 166] (by decide +kernel) (by decide +kernel)
set_option maxRecDepth 20000 in
theorem gX9_sizeInFirst_X1_firstWay : GoodIn wsX9_sizeInFirst (wsV RX9 164 RX1 yX1_firstWay wsX1_firstWay) := goodIn_app (goodIn_of _ (by decide +kernel)) ggX9_sizeInFirst_X1_firstWay
set_option maxRecDepth 20000 in
theorem ggX9_sizeInFirst_X0_sizeOfField : GoodIn wsX9_sizeInFirst wsX0_sizeOfField := goodIn_r _ [144, 77, 78, 61, 5, 62, 145, 146, 147, 148, 149, 150, 151, 152, 175, 176, 177, 178] (by decide +kernel) (by decide +kernel)
set_option maxRecDepth 20000 in
theorem gX9_sizeInFirst_X0_sizeOfField : GoodIn wsX9_sizeInFirst (wsV RX9 140 RX0 yX0_sizeOfField wsX0_sizeOfField) := goodIn_app (goodIn_of _ (by decide +kernel)) ggX9_sizeInFirst_X0_sizeOfField
theorem dX9_sizeInFirst_0 : decode cX9_sizeInFirst 0 = .ok (.iload_n 1, 1) := by decide +kernel
theorem dX9_sizeInFirst_1 : decode cX9_sizeInFirst 1 = .ok (.iload_n 2, 1) := by decide +kernel
theorem dX9_sizeInFirst_2 : decode cX9_sizeInFirst 2 = .ok (.invokestatic 70, 3) := by decide +kernel
theorem dX9_sizeInFirst_5 : decode cX9_sizeInFirst 5 = .ok (.istore_n 3, 1) := by decide +kernel
theorem dX9_sizeInFirst_6 : decode cX9_sizeInFirst 6 = .ok (.aload_n 0, 1) := by decide +kernel
theorem dX9_sizeInFirst_7 : decode cX9_sizeInFirst 7 = .ok (.aload_n 0, 1) := by decide +kernel
theorem dX9_sizeInFirst_8 : decode cX9_sizeInFirst 8 = .ok (.getfield 12, 3) := by decide +kernel
theorem dX9_sizeInFirst_11 : decode cX9_sizeInFirst 11 = .ok (.invokevirtual 161, 3) := by decide +kernel
theorem dX9_sizeInFirst_14 : decode cX9_sizeInFirst 14 = .ok (.aload_n 0, 1) := by decide +kernel
theorem dX9_sizeInFirst_15 : decode cX9_sizeInFirst 15 = .ok (.getfield 66, 3) := by decide +kernel
theorem dX9_sizeInFirst_18 : decode cX9_sizeInFirst 18 = .ok (.invokevirtual 164, 3) := by decide +kernel
theorem dX9_sizeInFirst_21 : decode cX9_sizeInFirst 21 = .ok (.iload_n 3, 1) := by decide +kernel
theorem dX9_sizeInFirst_22 : decode cX9_sizeInFirst 22 = .ok (.invokevirtual 140, 3) := by decide +kernel
theorem dX9_sizeInFirst_25 : decode cX9_sizeInFirst 25 = .ok (.ireturn, 1) := by decide +kernel
set_option maxRecDepth 20000 in
theorem ggX9_cornerInFirst_X9_checkedCell : GoodIn wsX9_cornerInFirst wsX9_checkedCell := goodIn_ca (goodIn_r _ [6, 7, 8, 9, 10, 5, 11] (by decide +kernel) (by decide +kernel)) (goodIn_sub (fun _ h => List.mem_cons_of_mem _ (List.mem_append_left _ (List.mem_append_right _ h))) (by decide +kernel))
set_option maxRecDepth 20000 in
theorem gX9_cornerInFirst_X9_checkedCell : GoodIn wsX9_cornerInFirst (va_wsS RX9 70 yX9_checkedCell wsX9_checkedCell) := goodIn_app (goodIn_of _ (by decide +kernel)) ggX9_cornerInFirst_X9_checkedCell
set_option maxRecDepth 20000 in
theorem ggX9_cornerInFirst_X9_findFirstWay : GoodIn wsX9_cornerInFirst wsX9_findFirstWay := goodIn_ca (goodIn_r _ [15, 16, 17, 2, 18, 19, 20, 21, 22, 23, 24, 25, 26, 27, 28, 29, 30, 31, 32, 33, 34, 35, 36, 37, 38, 39, 40, 5, 41, 42, 43, 44, 45, 46, 47, 48, 49, 50, 51, 52, 53, 54, 55, 56, 57, 58, 59, 60, 61, 62, 63, 64, 65, 66, 67, 68, 69, 70, 71, 72, 73, 74, 75, 76, 77, 78, 79, 80, 81, 82, 83, 84, 85, 86, 87, 88, 89, 90, 91, 92, 93, 94, 95, 96, 97, 98, 99, 100, 101, 102, 103, 104, 105, 106, 107, 108, 109, 110, 111, 112, 113, 114, 115, 116, 117, 118, 119, 120, 121, 122, 123, 124, 125, 126, 127, 128, 129, 130, 131, 132, 133, 134, 135, 136, 145, 146, 147, 148, 149, 150, 151, 152, 153, 154, 155, 156, 157, 158, 159, 160, 161, 162, 163, 164, 165, 166, 167, 168, 169, 170] (by decide +kernel) (by decide +kernel)) (goodIn_sub (fun _ h => List.mem_cons_of_mem _ (List.mem_append_right _ h)) (by decide +kernel))
set_option maxRecDepth 20000 in
theorem gX9_cornerInFirst_X9_findFirstWay : GoodIn wsX9_cornerInFirst (wsV RX9 161 RX9 yX9_findFirstWay wsX9_findFirstWay) := goodIn_app (goodIn_of _ (by decide +kernel)) ggX9_cornerInFirst_X9_findFirstWay
set_option maxRecDepth 20000 in
theorem ggX9_cornerInFirst_X1_firstWay : GoodIn wsX9_cornerInFirst wsX1_firstWay := goodIn_r _ [140, 24, 154, 155, 156, 157, 158] (by decide +kernel) (by decide +kernel)
set_option maxRecDepth 20000 in
theorem gX9_cornerInFirst_X1_firstWay : GoodIn wsX9_cornerInFirst (wsV RX9 164 RX1 yX1_firstWay wsX1_firstWay) := goodIn_app (goodIn_of _ (by decide +kernel)) ggX9_cornerInFirst_X1_firstWay
set_option maxRecDepth 20000 in
theorem ggX9_cornerInFirst_X0_firstOfField : GoodIn wsX9_cornerInFirst wsX0_firstOfField := goodIn_r _ [144, 77, 61, 5, 62, 167, 168, 169, 170] (by decide +kernel) (by decide +kernel)
set_option maxRecDepth 20000 in
theorem gX9_cornerInFirst_X0_firstOfField : GoodIn wsX9_cornerInFirst (wsV RX9 234 RX0 yX0_firstOfField wsX0_firstOfField) := goodIn_app (goodIn_of _ (by decide +kernel)) ggX9_cornerInFirst_X0_firstOfField
theorem dX9_cornerInFirst_0 : decode cX9_cornerInFirst 0 = .ok (.iload_n 1, 1) := by decide +kernel
theorem dX9_cornerInFirst_1 : decode cX9_cornerInFirst 1 = .ok (.iload_n 2, 1) := by decide +kernel
theorem dX9_cornerInFirst_2 : decode cX9_cornerInFirst 2 = .ok (.invokestatic 70, 3) := by decide +kernel
theorem dX9_cornerInFirst_5 : decode cX9_cornerInFirst 5 = .ok (.istore_n 3, 1) := by decide +kernel
theorem dX9_cornerInFirst_6 : decode cX9_cornerInFirst 6 = .ok (.aload_n 0, 1) := by decide +kernel
theorem dX9_cornerInFirst_7 : decode cX9_cornerInFirst 7 = .ok (.aload_n 0, 1) := by decide +kernel
theorem dX9_cornerInFirst_8 : decode cX9_cornerInFirst 8 = .ok (.getfield 12, 3) := by decide +kernel
theorem dX9_cornerInFirst_11 : decode cX9_cornerInFirst 11 = .ok (.invokevirtual 161, 3) := by decide +kernel
theorem dX9_cornerInFirst_14 : decode cX9_cornerInFirst 14 = .ok (.aload_n 0, 1) := by decide +kernel
theorem dX9_cornerInFirst_15 : decode cX9_cornerInFirst 15 = .ok (.getfield 66, 3) := by decide +kernel
theorem dX9_cornerInFirst_18 : decode cX9_cornerInFirst 18 = .ok (.invokevirtual 164, 3) := by decide +kernel
theorem dX9_cornerInFirst_21 : decode cX9_cornerInFirst 21 = .ok (.iload_n 3, 1) := by decide +kernel
theorem dX9_cornerInFirst_22 : decode cX9_cornerInFirst 22 = .ok (.invokevirtual 234, 3) := by decide +kernel
theorem dX9_cornerInFirst_25 : decode cX9_cornerInFirst 25 = .ok (.ireturn, 1) := by decide +kernel
set_option maxRecDepth 20000 in
theorem ggX9_strayFields_X0_copy : GoodIn wsX9_strayFields wsX0_copy := goodIn_r _ [8, 9, 10, 11, 12, 156, 157, 158, 159] (by decide +kernel) (by decide +kernel)
set_option maxRecDepth 20000 in
theorem gX9_strayFields_X0_copy : GoodIn wsX9_strayFields (wsV RX9 168 RX0 yX0_copy wsX0_copy) := goodIn_app (goodIn_of _ (by decide +kernel)) ggX9_strayFields_X0_copy
set_option maxRecDepth 20000 in
theorem ggX9_strayFields_X0_removeFields : GoodIn wsX9_strayFields wsX0_removeFields := goodIn_r _ [16, 10, 156, 157, 158, 159] (by decide +kernel) (by decide +kernel)
set_option maxRecDepth 20000 in
theorem gX9_strayFields_X0_removeFields : GoodIn wsX9_strayFields (wsV RX9 151 RX0 yX0_removeFields wsX0_removeFields) := goodIn_app (goodIn_of _ (by decide +kernel)) ggX9_strayFields_X0_removeFields
set_option maxRecDepth 20000 in
theorem ggX9_strayFields_X9_findFirstWay : GoodIn wsX9_strayFields wsX9_findFirstWay := goodIn_ca (goodIn_r _ [21, 22, 23, 3, 24, 25, 26, 27, 28, 29, 30, 31, 32, 33, 34, 35, 36, 37, 38, 39, 40, 41, 42, 7, 43, 10, 44, 20, 45, 46, 47, 48, 49, 9, 50, 51, 52, 53, 54, 55, 56, 57, 58, 59, 60, 61, 62, 63, 64, 65, 66, 67, 68, 69, 70, 71, 72, 73, 74, 75, 76, 5, 6, 8, 11, 12, 77, 78, 79, 80, 81, 82, 83, 84, 85, 86, 87, 88, 89, 90, 91, 92, 93, 94, 95, 96, 97, 98, 99, 100, 101, 102, 103, 104, 105, 106, 107, 108, 109, 110, 111, 112, 113, 114, 115, 116, 117, 118, 119, 120, 121, 122, 123, 124, 125, 126, 127, 128, 129, 130, 131, 132, 133, 134, 147, 148, 149, 150, 151, 152, 153, 154, 155, 160, 161, 162, 163, 164, 165, 166, 167, 168, 169, 170, 171, 172, 156, 157, 158, 159] (by decide +kernel) (by decide +kernel)) (goodIn_sub (fun _ h => List.mem_cons_of_mem _ (List.mem_append_right _ h)) (by decide +kernel))
set_option maxRecDepth 20000 in
theorem gX9_strayFields_X9_findFirstWay : GoodIn wsX9_strayFields (wsV RX9 161 RX9 yX9_findFirstWay wsX9_findFirstWay) := goodIn_app (goodIn_of _ (by decide +kernel)) ggX9_strayFields_X9_findFirstWay
set_option maxRecDepth 20000 in
theorem ggX9_strayFields_X1_firstWay : GoodIn wsX9_strayFields wsX1_firstWay := goodIn_r _ [138, 30, 160, 161, 162, 163, 164] (by decide +kernel) (by decide +kernel)
set_option maxRecDepth 20000 in
theorem gX9_strayFields_X1_firstWay : GoodIn wsX9_strayFields (wsV RX9 164 RX1 yX1_firstWay wsX1_firstWay) := goodIn_app (goodIn_of _ (by decide +kernel)) ggX9_strayFields_X1_firstWay
set_option maxRecDepth 20000 in
theorem ggX9_strayFields_X0_countFieldsMissingIn : GoodIn wsX9_strayFields wsX0_countFieldsMissingIn := goodIn_r _ [142, 12, 143, 144, 145, 7, 146, 10, 11, 64, 20, 65, 156, 157, 158, 159] (by decide +kernel) (by decide +kernel)
set_option maxRecDepth 20000 in
theorem gX9_strayFields_X0_countFieldsMissingIn : GoodIn wsX9_strayFields (wsV RX9 292 RX0 yX0_countFieldsMissingIn wsX0_countFieldsMissingIn) := goodIn_app (goodIn_of _ (by decide +kernel)) ggX9_strayFields_X0_countFieldsMissingIn
theorem dX9_strayFields_0 : decode cX9_strayFields 0 = .ok (.aload_n 0, 1) := by decide +kernel
theorem dX9_strayFields_1 : decode cX9_strayFields 1 = .ok (.getfield 16, 3) := by decide +kernel
theorem dX9_strayFields_4 : decode cX9_strayFields 4 = .ok (.aload_n 0, 1) := by decide +kernel
theorem dX9_strayFields_5 : decode cX9_strayFields 5 = .ok (.getfield 12, 3) := by decide +kernel
theorem dX9_strayFields_8 : decode cX9_strayFields 8 = .ok (.invokevirtual 168, 3) := by decide +kernel
theorem dX9_strayFields_11 : decode cX9_strayFields 11 = .ok (.aload_n 0, 1) := by decide +kernel
theorem dX9_strayFields_12 : decode cX9_strayFields 12 = .ok (.getfield 16, 3) := by decide +kernel
theorem dX9_strayFields_15 : decode cX9_strayFields 15 = .ok (.invokevirtual 151, 3) := by decide +kernel
theorem dX9_strayFields_18 : decode cX9_strayFields 18 = .ok (.aload_n 0, 1) := by decide +kernel
theorem dX9_strayFields_19 : decode cX9_strayFields 19 = .ok (.aload_n 0, 1) := by decide +kernel
theorem dX9_strayFields_20 : decode cX9_strayFields 20 = .ok (.getfield 16, 3) := by decide +kernel
theorem dX9_strayFields_23 : decode cX9_strayFields 23 = .ok (.invokevirtual 161, 3) := by decide +kernel
theorem dX9_strayFields_26 : decode cX9_strayFields 26 = .ok (.aload_n 0, 1) := by decide +kernel
theorem dX9_strayFields_27 : decode cX9_strayFields 27 = .ok (.getfield 12, 3) := by decide +kernel
theorem dX9_strayFields_30 : decode cX9_strayFields 30 = .ok (.aload_n 0, 1) := by decide +kernel
theorem dX9_strayFields_31 : decode cX9_strayFields 31 = .ok (.getfield 66, 3) := by decide +kernel
theorem dX9_strayFields_34 : decode cX9_strayFields 34 = .ok (.invokevirtual 164, 3) := by decide +kernel
theorem dX9_strayFields_37 : decode cX9_strayFields 37 = .ok (.invokevirtual 292, 3) := by decide +kernel
theorem dX9_strayFields_40 : decode cX9_strayFields 40 = .ok (.ireturn, 1) := by decide +kernel
set_option maxRecDepth 20000 in
theorem ggX9_meanPossible_X7_find : GoodIn wsX9_meanPossible wsX7_find := goodIn_r _ [7, 8, 9, 10, 11, 12, 13, 14, 15, 16, 17, 18, 19, 20, 21, 22, 23, 24, 25, 26, 27, 28, 29, 30, 31, 32, 33, 34, 35, 36, 37, 38, 39, 40, 41, 42, 6, 43, 44, 45, 46, 47, 48, 49, 70, 71, 72, 73, 74, 75, 76, 77, 78, 79, 80, 81] (by decide +kernel) (by decide +kernel)
set_option maxRecDepth 20000 in
theorem gX9_meanPossible_X7_find : GoodIn wsX9_meanPossible (wsV RX9 240 RX7 yX7_find wsX7_find) := goodIn_app (goodIn_of _ (by decide +kernel)) ggX9_meanPossible_X7_find
set_option maxRecDepth 20000 in
theorem ggX9_meanPossible_X0_openNumbers : GoodIn wsX9_meanPossible wsX0_openNumbers := goodIn_r _ [53, 54, 55, 20, 21, 13, 22, 23, 16, 17, 18, 56, 11, 12, 14, 15, 78, 79, 80, 81] (by decide +kernel) (by decide +kernel)
set_option maxRecDepth 20000 in
theorem gX9_meanPossible_X0_openNumbers : GoodIn wsX9_meanPossible (wsV RX9 295 RX0 yX0_openNumbers wsX0_openNumbers) := goodIn_app (goodIn_of _ (by decide +kernel)) ggX9_meanPossible_X0_openNumbers
set_option maxRecDepth 20000 in
theorem ggX9_meanPossible_J13_bitCount_95d88 : GoodIn wsX9_meanPossible wsJ13_bitCount_95d88 := goodIn_r _ [27, 28, 29, 30] (by decide +kernel) (by decide +kernel)
set_option maxRecDepth 20000 in
theorem gX9_meanPossible_J13_bitCount_95d88 : GoodIn wsX9_meanPossible (va_wsS RX9 113 yJ13_bitCount_95d88 wsJ13_bitCount_95d88) := goodIn_app (goodIn_of _ (by decide +kernel)) ggX9_meanPossible_J13_bitCount_95d88
set_option maxRecDepth 20000 in
theorem ggX9_meanPossible_X7_size : GoodIn wsX9_meanPossible wsX7_size := goodIn_r _ [60, 8, 70, 71, 72, 73, 74, 75, 76, 77] (by decide +kernel) (by decide +kernel)
set_option maxRecDepth 20000 in
theorem gX9_meanPossible_X7_size : GoodIn wsX9_meanPossible (wsV RX9 260 RX7 yX7_size wsX7_size) := goodIn_app (goodIn_of _ (by decide +kernel)) ggX9_meanPossible_X7_size
theorem dX9_meanPossible_0 : decode cX9_meanPossible 0 = .ok (.aload_n 0, 1) := by decide +kernel
theorem dX9_meanPossible_1 : decode cX9_meanPossible 1 = .ok (.getfield 43, 3) := by decide +kernel
theorem dX9_meanPossible_4 : decode cX9_meanPossible 4 = .ok (.aload_n 0, 1) := by decide +kernel
theorem dX9_meanPossible_5 : decode cX9_meanPossible 5 = .ok (.getfield 12, 3) := by decide +kernel
theorem dX9_meanPossible_8 : decode cX9_meanPossible 8 = .ok (.invokevirtual 240, 3) := by decide +kernel
theorem dX9_meanPossible_11 : decode cX9_meanPossible 11 = .ok (.aload_n 0, 1) := by decide +kernel
theorem dX9_meanPossible_12 : decode cX9_meanPossible 12 = .ok (.getfield 12, 3) := by decide +kernel
theorem dX9_meanPossible_15 : decode cX9_meanPossible 15 = .ok (.invokevirtual 295, 3) := by decide +kernel
theorem dX9_meanPossible_18 : decode cX9_meanPossible 18 = .ok (.invokestatic 113, 3) := by decide +kernel
theorem dX9_meanPossible_21 : decode cX9_meanPossible 21 = .ok (.istore_n 1, 1) := by decide +kernel
theorem dX9_meanPossible_22 : decode cX9_meanPossible 22 = .ok (.iload_n 1, 1) := by decide +kernel
theorem dX9_meanPossible_23 : decode cX9_meanPossible 23 = .ok (.ifCond .le 17, 3) := by decide +kernel
theorem dX9_meanPossible_26 : decode cX9_meanPossible 26 = .ok (.aload_n 0, 1) := by decide +kernel
theorem dX9_meanPossible_27 : decode cX9_meanPossible 27 = .ok (.getfield 43, 3) := by decide +kernel
theorem dX9_meanPossible_30 : decode cX9_meanPossible 30 = .ok (.invokevirtual 260, 3) := by decide +kernel
theorem dX9_meanPossible_33 : decode cX9_meanPossible 33 = .ok (.i2d, 1) := by decide +kernel
theorem dX9_meanPossible_34 : decode cX9_meanPossible 34 = .ok (.iload_n 1, 1) := by decide +kernel
theorem dX9_meanPossible_35 : decode cX9_meanPossible 35 = .ok (.i2d, 1) := by decide +kernel
theorem dX9_meanPossible_36 : decode cX9_meanPossible 36 = .ok (.ddiv, 1) := by decide +kernel
theorem dX9_meanPossible_37 : decode cX9_meanPossible 37 = .ok (.goto 4, 3) := by decide +kernel
theorem dX9_meanPossible_40 : decode cX9_meanPossible 40 = .ok (.dconst 0, 1) := by decide +kernel
theorem dX9_meanPossible_41 : decode cX9_meanPossible 41 = .ok (.dreturn, 1) := by decide +kernel
set_option maxRecDepth 20000 in
theorem ggX9_digest_X2_init : GoodIn wsX9_digest wsX2_init := goodIn_r _ [10, 11, 12, 13, 14, 15, 362] (by decide +kernel) (by decide +kernel)
set_option maxRecDepth 20000 in
theorem gX9_digest_X2_init : GoodIn wsX9_digest (wsX2_init) := ggX9_digest_X2_init
set_option maxRecDepth 20000 in
theorem ggX9_digest_X8_run : GoodIn wsX9_digest wsX8_run := goodIn_r _ [20, 21, 22, 23, 24, 25, 26, 27, 28, 29, 30, 31, 32, 33, 34, 35, 36, 37, 38, 39, 40, 41, 42, 43, 44, 45, 46, 47, 48, 49, 50, 51, 52, 53, 54, 55, 56, 57, 58, 59, 60, 61, 62, 63, 64, 65, 66, 67, 68, 69, 70, 71, 72, 73, 74, 75, 76, 77, 78, 79, 80, 81, 82, 83, 84, 85, 86, 87, 88, 89, 19, 90, 91, 92, 93, 94, 95, 96, 97, 98, 99, 100, 101, 102, 103, 104, 105, 106, 107, 108, 109, 110, 372, 373, 374, 375, 376, 377, 378, 379, 380, 381, 382, 383, 384, 385, 386, 387, 388, 389, 390] (by decide +kernel) (by decide +kernel)
set_option maxRecDepth 20000 in
theorem gX9_digest_X8_run : GoodIn wsX9_digest (wsV RX9 263 RX8 yX8_run wsX8_run) := goodIn_app (goodIn_of _ (by decide +kernel)) ggX9_digest_X8_run
set_option maxRecDepth 20000 in
theorem ggX9_digest_X9_addCell : GoodIn wsX9_digest wsX9_addCell := goodIn_r _ [114, 5, 115, 4, 116, 117, 118, 38, 119, 40, 63, 42, 64, 120, 60, 61, 62, 48, 121, 122, 123, 3, 124, 125, 15, 126, 127, 128, 129, 130, 131, 132, 133, 134, 135, 136, 137, 138, 139, 140, 141, 142, 143, 144, 145, 146, 31, 147, 33, 148, 98, 99, 100, 74, 149, 84, 85, 86, 150, 151, 152, 153, 154, 155, 156, 157, 158, 69, 159, 160, 161, 162, 71, 163, 164, 165, 166, 167, 102, 103, 104, 73, 168, 169, 170, 41, 43, 171, 172, 173, 174, 49, 50, 51, 52, 53, 54, 55, 175, 176, 177, 19, 178, 26, 21, 97, 363, 364, 365, 366, 367, 368, 369, 370, 371, 387, 388, 389, 390, 362, 379, 380, 381, 382, 383, 384, 385, 386, 372, 373, 374, 375, 376, 377, 378] (by decide +kernel) (by decide +kernel)
set_option maxRecDepth 20000 in
theorem gX9_digest_X9_addCell : GoodIn wsX9_digest (wsV RX9 301 RX9 yX9_addCell wsX9_addCell) := goodIn_app (goodIn_of _ (by decide +kernel)) ggX9_digest_X9_addCell
set_option maxRecDepth 20000 in
theorem ggX9_digest_X9_addTotals : GoodIn wsX9_digest wsX9_addTotals := goodIn_r _ [182, 5, 183, 115, 4, 184, 45, 46, 38, 47, 48, 41, 42, 43, 58, 50, 51, 52, 53, 54, 55, 121, 122, 123, 3, 124, 125, 15, 185, 186, 187, 188, 168, 169, 170, 189, 190, 191, 192, 193, 194, 195, 196, 40, 130, 63, 64, 197, 198, 199, 200, 201, 36, 37, 39, 149, 84, 85, 31, 86, 33, 202, 203, 204, 19, 205, 27, 206, 207, 208, 209, 26, 210, 211, 212, 213, 25, 91, 24, 108, 109, 110, 214, 215, 216, 217, 218, 176, 177, 178, 21, 97, 98, 99, 100, 74, 219, 220, 221, 222, 363, 364, 365, 366, 367, 368, 369, 370, 371, 387, 388, 389, 390, 362, 379, 380, 381, 382, 383, 384, 385, 386, 372, 373, 374, 375, 376, 377, 378] (by decide +kernel) (by decide +kernel)
set_option maxRecDepth 20000 in
theorem gX9_digest_X9_addTotals : GoodIn wsX9_digest (wsV RX9 305 RX9 yX9_addTotals wsX9_addTotals) := goodIn_app (goodIn_of _ (by decide +kernel)) ggX9_digest_X9_addTotals
set_option maxRecDepth 20000 in
theorem ggX9_digest_X9_addWays : GoodIn wsX9_digest wsX9_addWays := goodIn_r _ [226, 227, 5, 228, 229, 230, 231, 232, 233, 234, 235, 236, 237, 29, 30, 31, 32, 33, 34, 35, 36, 37, 38, 39, 40, 41, 42, 43, 44, 45, 46, 47, 48, 49, 50, 51, 52, 53, 54, 55, 56, 57, 58, 59, 60, 61, 62, 63, 64, 65, 66, 67, 68, 69, 70, 71, 72, 73, 74, 238, 77, 78, 79, 80, 81, 82, 239, 240, 241, 242, 243, 244, 186, 187, 188, 168, 169, 170, 245, 246, 247, 248, 249, 250, 251, 252, 253, 254, 255, 256, 167, 102, 103, 104, 257, 258, 259, 260, 261, 262, 263, 264, 265, 266, 84, 85, 86, 267, 98, 99, 100, 268, 269, 270, 271, 272, 121, 122, 123, 3, 124, 125, 15, 273, 274, 275, 276, 277, 278, 279, 280, 281, 282, 283, 284, 285, 286, 130, 131, 287, 288, 289, 290, 291, 292, 293, 294, 295, 296, 297, 298, 299, 300, 156, 157, 158, 301, 160, 161, 162, 302, 303, 304, 305, 306, 307, 308, 309, 310, 311, 312, 313, 314, 315, 316, 317, 318, 126, 127, 128, 129, 132, 133, 134, 135, 136, 137, 138, 139, 140, 141, 142, 143, 363, 364, 365, 366, 367, 368, 369, 370, 371, 391, 392, 393, 394, 379, 380, 381, 382, 383, 384, 385, 386, 387, 388, 389, 390, 362, 395, 396, 397, 398, 399] (by decide +kernel) (by decide +kernel)
set_option maxRecDepth 20000 in
theorem gX9_digest_X9_addWays : GoodIn wsX9_digest (wsV RX9 309 RX9 yX9_addWays wsX9_addWays) := goodIn_app (goodIn_of _ (by decide +kernel)) ggX9_digest_X9_addWays
set_option maxRecDepth 20000 in
theorem ggX9_digest_X3_countSaved : GoodIn wsX9_digest wsX3_countSaved := goodIn_r _ [323, 324, 400, 401, 402, 403] (by decide +kernel) (by decide +kernel)
set_option maxRecDepth 20000 in
theorem gX9_digest_X3_countSaved : GoodIn wsX9_digest (wsV RX9 221 RX3 yX3_countSaved wsX3_countSaved) := goodIn_app (goodIn_of _ (by decide +kernel)) ggX9_digest_X3_countSaved
set_option maxRecDepth 20000 in
theorem ggX9_digest_X2_add : GoodIn wsX9_digest wsX2_add := goodIn_r _ [124, 125, 15, 362] (by decide +kernel) (by decide +kernel)
set_option maxRecDepth 20000 in
theorem gX9_digest_X2_add : GoodIn wsX9_digest (wsV RX9 312 RX2 yX2_add wsX2_add) := goodIn_app (goodIn_of _ (by decide +kernel)) ggX9_digest_X2_add
set_option maxRecDepth 20000 in
theorem ggX9_digest_X9_meanPossible : GoodIn wsX9_digest wsX9_meanPossible := goodIn_r _ [328, 115, 5, 329, 29, 30, 31, 32, 33, 34, 35, 36, 37, 38, 39, 40, 41, 42, 43, 44, 45, 46, 47, 48, 49, 50, 51, 52, 53, 54, 55, 56, 57, 58, 59, 60, 61, 62, 63, 64, 65, 66, 67, 68, 69, 70, 71, 72, 73, 74, 330, 77, 78, 79, 80, 81, 82, 149, 84, 85, 86, 363, 364, 365, 366, 367, 368, 369, 370, 371, 379, 380, 381, 382, 383, 384, 385, 386, 387, 388, 389, 390] (by decide +kernel) (by decide +kernel)
set_option maxRecDepth 20000 in
theorem gX9_digest_X9_meanPossible : GoodIn wsX9_digest (wsV RX9 315 RX9 yX9_meanPossible wsX9_meanPossible) := goodIn_app (goodIn_of _ (by decide +kernel)) ggX9_digest_X9_meanPossible
set_option maxRecDepth 20000 in
theorem ggX9_digest_X2_addBits : GoodIn wsX9_digest wsX2_addBits := goodIn_r _ [334, 335, 336, 3, 337, 338, 339, 340, 341, 122, 123, 124, 125, 15, 362] (by decide +kernel) (by decide +kernel)
set_option maxRecDepth 20000 in
theorem gX9_digest_X2_addBits : GoodIn wsX9_digest (wsV RX9 319 RX2 yX2_addBits wsX2_addBits) := goodIn_app (goodIn_of _ (by decide +kernel)) ggX9_digest_X2_addBits
set_option maxRecDepth 20000 in
theorem ggX9_digest_X3_hasSnapshot : GoodIn wsX9_digest wsX3_hasSnapshot := goodIn_r _ [345, 346, 400, 401, 402, 403] (by decide +kernel) (by decide +kernel)
set_option maxRecDepth 20000 in
theorem gX9_digest_X3_hasSnapshot : GoodIn wsX9_digest (wsV RX9 213 RX3 yX3_hasSnapshot wsX3_hasSnapshot) := goodIn_app (goodIn_of _ (by decide +kernel)) ggX9_digest_X3_hasSnapshot
set_option maxRecDepth 20000 in
theorem ggX9_digest_X4_length : GoodIn wsX9_digest wsX4_length := goodIn_r _ [351, 352, 404, 405] (by decide +kernel) (by decide +kernel)
set_option maxRecDepth 20000 in
theorem gX9_digest_X4_length : GoodIn wsX9_digest (wsV RX9 173 RX4 yX4_length wsX4_length) := goodIn_app (goodIn_of _ (by decide +kernel)) ggX9_digest_X4_length
set_option maxRecDepth 20000 in
theorem ggX9_digest_X4_codeAt : GoodIn wsX9_digest wsX4_codeAt := goodIn_r _ [356, 357, 404, 405] (by decide +kernel) (by decide +kernel)
set_option maxRecDepth 20000 in
theorem gX9_digest_X4_codeAt : GoodIn wsX9_digest (wsV RX9 323 RX4 yX4_codeAt wsX4_codeAt) := goodIn_app (goodIn_of _ (by decide +kernel)) ggX9_digest_X4_codeAt
set_option maxRecDepth 20000 in
theorem ggX9_digest_X2_value : GoodIn wsX9_digest wsX2_value := goodIn_r _ [361, 15, 362] (by decide +kernel) (by decide +kernel)
set_option maxRecDepth 20000 in
theorem gX9_digest_X2_value : GoodIn wsX9_digest (wsV RX9 326 RX2 yX2_value wsX2_value) := goodIn_app (goodIn_of _ (by decide +kernel)) ggX9_digest_X2_value
theorem dX9_digest_0 : decode cX9_digest 0 = .ok (.new 298, 3) := by decide +kernel
theorem dX9_digest_3 : decode cX9_digest 3 = .ok (.dup, 1) := by decide +kernel
theorem dX9_digest_4 : decode cX9_digest 4 = .ok (.invokespecial 300, 3) := by decide +kernel
theorem dX9_digest_7 : decode cX9_digest 7 = .ok (.astore_n 1, 1) := by decide +kernel
theorem dX9_digest_8 : decode cX9_digest 8 = .ok (.aload_n 0, 1) := by decide +kernel
theorem dX9_digest_9 : decode cX9_digest 9 = .ok (.getfield 52, 3) := by decide +kernel
theorem dX9_digest_12 : decode cX9_digest 12 = .ok (.aload_n 0, 1) := by decide +kernel
theorem dX9_digest_13 : decode cX9_digest 13 = .ok (.getfield 12, 3) := by decide +kernel
theorem dX9_digest_16 : decode cX9_digest 16 = .ok (.invokevirtual 263, 3) := by decide +kernel
theorem dX9_digest_19 : decode cX9_digest 19 = .ok (.iconst 0, 1) := by decide +kernel
theorem dX9_digest_20 : decode cX9_digest 20 = .ok (.istore_n 2, 1) := by decide +kernel
theorem dX9_digest_21 : decode cX9_digest 21 = .ok (.iload_n 2, 1) := by decide +kernel
theorem dX9_digest_22 : decode cX9_digest 22 = .ok (.bipush 42, 2) := by decide +kernel
theorem dX9_digest_24 : decode cX9_digest 24 = .ok (.if_icmp .ge 15, 3) := by decide +kernel
theorem dX9_digest_27 : decode cX9_digest 27 = .ok (.aload_n 0, 1) := by decide +kernel
theorem dX9_digest_28 : decode cX9_digest 28 = .ok (.aload_n 1, 1) := by decide +kernel
theorem dX9_digest_29 : decode cX9_digest 29 = .ok (.iload_n 2, 1) := by decide +kernel
theorem dX9_digest_30 : decode cX9_digest 30 = .ok (.invokevirtual 301, 3) := by decide +kernel
theorem dX9_digest_33 : decode cX9_digest 33 = .ok (.iinc 2 1, 3) := by decide +kernel
theorem dX9_digest_36 : decode cX9_digest 36 = .ok (.goto (-15), 3) := by decide +kernel
theorem dX9_digest_39 : decode cX9_digest 39 = .ok (.aload_n 0, 1) := by decide +kernel
theorem dX9_digest_40 : decode cX9_digest 40 = .ok (.aload_n 1, 1) := by decide +kernel
theorem dX9_digest_41 : decode cX9_digest 41 = .ok (.invokevirtual 305, 3) := by decide +kernel
theorem dX9_digest_44 : decode cX9_digest 44 = .ok (.aload_n 0, 1) := by decide +kernel
theorem dX9_digest_45 : decode cX9_digest 45 = .ok (.aload_n 1, 1) := by decide +kernel
theorem dX9_digest_46 : decode cX9_digest 46 = .ok (.invokevirtual 309, 3) := by decide +kernel
theorem dX9_digest_49 : decode cX9_digest 49 = .ok (.aload_n 1, 1) := by decide +kernel
theorem dX9_digest_50 : decode cX9_digest 50 = .ok (.aload_n 0, 1) := by decide +kernel
theorem dX9_digest_51 : decode cX9_digest 51 = .ok (.getfield 22, 3) := by decide +kernel
theorem dX9_digest_54 : decode cX9_digest 54 = .ok (.invokevirtual 221, 3) := by decide +kernel
theorem dX9_digest_57 : decode cX9_digest 57 = .ok (.i2l, 1) := by decide +kernel
theorem dX9_digest_58 : decode cX9_digest 58 = .ok (.invokevirtual 312, 3) := by decide +kernel
theorem dX9_digest_61 : decode cX9_digest 61 = .ok (.aload_n 1, 1) := by decide +kernel
theorem dX9_digest_62 : decode cX9_digest 62 = .ok (.aload_n 0, 1) := by decide +kernel
theorem dX9_digest_63 : decode cX9_digest 63 = .ok (.invokevirtual 315, 3) := by decide +kernel
theorem dX9_digest_66 : decode cX9_digest 66 = .ok (.invokevirtual 319, 3) := by decide +kernel
theorem dX9_digest_69 : decode cX9_digest 69 = .ok (.iconst 0, 1) := by decide +kernel
theorem dX9_digest_70 : decode cX9_digest 70 = .ok (.istore_n 2, 1) := by decide +kernel
theorem dX9_digest_71 : decode cX9_digest 71 = .ok (.iload_n 2, 1) := by decide +kernel
theorem dX9_digest_72 : decode cX9_digest 72 = .ok (.iconst 2, 1) := by decide +kernel
theorem dX9_digest_73 : decode cX9_digest 73 = .ok (.if_icmp .ge 29, 3) := by decide +kernel
theorem dX9_digest_76 : decode cX9_digest 76 = .ok (.aload_n 1, 1) := by decide +kernel
theorem dX9_digest_77 : decode cX9_digest 77 = .ok (.aload_n 0, 1) := by decide +kernel
theorem dX9_digest_78 : decode cX9_digest 78 = .ok (.getfield 22, 3) := by decide +kernel
theorem dX9_digest_81 : decode cX9_digest 81 = .ok (.iload_n 2, 1) := by decide +kernel
theorem dX9_digest_82 : decode cX9_digest 82 = .ok (.invokevirtual 213, 3) := by decide +kernel
theorem dX9_digest_85 : decode cX9_digest 85 = .ok (.ifCond .eq 7, 3) := by decide +kernel
theorem dX9_digest_88 : decode cX9_digest 88 = .ok (.lconst 1, 1) := by decide +kernel
theorem dX9_digest_89 : decode cX9_digest 89 = .ok (.goto 4, 3) := by decide +kernel
theorem dX9_digest_92 : decode cX9_digest 92 = .ok (.lconst 0, 1) := by decide +kernel
theorem dX9_digest_93 : decode cX9_digest 93 = .ok (.invokevirtual 312, 3) := by decide +kernel
theorem dX9_digest_96 : decode cX9_digest 96 = .ok (.iinc 2 1, 3) := by decide +kernel
theorem dX9_digest_99 : decode cX9_digest 99 = .ok (.goto (-28), 3) := by decide +kernel
theorem dX9_digest_102 : decode cX9_digest 102 = .ok (.aload_n 1, 1) := by decide +kernel
theorem dX9_digest_103 : decode cX9_digest 103 = .ok (.aload_n 0, 1) := by decide +kernel
theorem dX9_digest_104 : decode cX9_digest 104 = .ok (.getfield 29, 3) := by decide +kernel
theorem dX9_digest_107 : decode cX9_digest 107 = .ok (.invokevirtual 173, 3) := by decide +kernel
theorem dX9_digest_110 : decode cX9_digest 110 = .ok (.i2l, 1) := by decide +kernel
theorem dX9_digest_111 : decode cX9_digest 111 = .ok (.invokevirtual 312, 3) := by decide +kernel
theorem dX9_digest_114 : decode cX9_digest 114 = .ok (.iconst 0, 1) := by decide +kernel
theorem dX9_digest_115 : decode cX9_digest 115 = .ok (.istore_n 2, 1) := by decide +kernel
theorem dX9_digest_116 : decode cX9_digest 116 = .ok (.iload_n 2, 1) := by decide +kernel
theorem dX9_digest_117 : decode cX9_digest 117 = .ok (.aload_n 0, 1) := by decide +kernel
theorem dX9_digest_118 : decode cX9_digest 118 = .ok (.getfield 29, 3) := by decide +kernel
theorem dX9_digest_121 : decode cX9_digest 121 = .ok (.invokevirtual 173, 3) := by decide +kernel
theorem dX9_digest_124 : decode cX9_digest 124 = .ok (.if_icmp .ge 22, 3) := by decide +kernel
theorem dX9_digest_127 : decode cX9_digest 127 = .ok (.aload_n 1, 1) := by decide +kernel
theorem dX9_digest_128 : decode cX9_digest 128 = .ok (.aload_n 0, 1) := by decide +kernel
theorem dX9_digest_129 : decode cX9_digest 129 = .ok (.getfield 29, 3) := by decide +kernel
theorem dX9_digest_132 : decode cX9_digest 132 = .ok (.iload_n 2, 1) := by decide +kernel
theorem dX9_digest_133 : decode cX9_digest 133 = .ok (.invokevirtual 323, 3) := by decide +kernel
theorem dX9_digest_136 : decode cX9_digest 136 = .ok (.i2l, 1) := by decide +kernel
theorem dX9_digest_137 : decode cX9_digest 137 = .ok (.invokevirtual 312, 3) := by decide +kernel
theorem dX9_digest_140 : decode cX9_digest 140 = .ok (.iinc 2 1, 3) := by decide +kernel
theorem dX9_digest_143 : decode cX9_digest 143 = .ok (.goto (-27), 3) := by decide +kernel
theorem dX9_digest_146 : decode cX9_digest 146 = .ok (.aload_n 1, 1) := by decide +kernel
theorem dX9_digest_147 : decode cX9_digest 147 = .ok (.invokevirtual 326, 3) := by decide +kernel
theorem dX9_digest_150 : decode cX9_digest 150 = .ok (.lreturn, 1) := by decide +kernel
set_option maxRecDepth 20000 in
theorem ggX9_addCell_X0_hasField : GoodIn wsX9_addCell wsX0_hasField := goodIn_r _ [8, 9, 10, 11, 12, 115, 116, 117, 118] (by decide +kernel) (by decide +kernel)
set_option maxRecDepth 20000 in
theorem gX9_addCell_X0_hasField : GoodIn wsX9_addCell (wsV RX9 81 RX0 yX0_hasField wsX0_hasField) := goodIn_app (goodIn_of _ (by decide +kernel)) ggX9_addCell_X0_hasField
set_option maxRecDepth 20000 in
theorem ggX9_addCell_X0_numberIn : GoodIn wsX9_addCell wsX0_numberIn := goodIn_r _ [16, 17, 10, 11, 12, 115, 116, 117, 118] (by decide +kernel) (by decide +kernel)
set_option maxRecDepth 20000 in
theorem gX9_addCell_X0_numberIn : GoodIn wsX9_addCell (wsV RX9 94 RX0 yX0_numberIn wsX0_numberIn) := goodIn_app (goodIn_of _ (by decide +kernel)) ggX9_addCell_X0_numberIn
set_option maxRecDepth 20000 in
theorem ggX9_addCell_X2_add : GoodIn wsX9_addCell wsX2_add := goodIn_r _ [22, 23, 24, 119] (by decide +kernel) (by decide +kernel)
set_option maxRecDepth 20000 in
theorem gX9_addCell_X2_add : GoodIn wsX9_addCell (wsV RX9 312 RX2 yX2_add wsX2_add) := goodIn_app (goodIn_of _ (by decide +kernel)) ggX9_addCell_X2_add
set_option maxRecDepth 20000 in
theorem ggX9_addCell_X0_sizeOfField : GoodIn wsX9_addCell wsX0_sizeOfField := goodIn_r _ [28, 29, 30, 10, 11, 12, 31, 32, 33, 34, 35, 36, 37, 38, 115, 116, 117, 118] (by decide +kernel) (by decide +kernel)
set_option maxRecDepth 20000 in
theorem gX9_addCell_X0_sizeOfField : GoodIn wsX9_addCell (wsV RX9 140 RX0 yX0_sizeOfField wsX0_sizeOfField) := goodIn_app (goodIn_of _ (by decide +kernel)) ggX9_addCell_X0_sizeOfField
set_option maxRecDepth 20000 in
theorem ggX9_addCell_X0_firstOfField : GoodIn wsX9_addCell wsX0_firstOfField := goodIn_r _ [42, 29, 10, 11, 12, 115, 116, 117, 118] (by decide +kernel) (by decide +kernel)
set_option maxRecDepth 20000 in
theorem gX9_addCell_X0_firstOfField : GoodIn wsX9_addCell (wsV RX9 234 RX0 yX0_firstOfField wsX0_firstOfField) := goodIn_app (goodIn_of _ (by decide +kernel)) ggX9_addCell_X0_firstOfField
set_option maxRecDepth 20000 in
theorem ggX9_addCell_X7_countOf : GoodIn wsX9_addCell wsX7_countOf := goodIn_r _ [47, 48, 49, 50, 51, 46, 52, 53, 120, 121, 122, 123, 124, 125, 126, 127] (by decide +kernel) (by decide +kernel)
set_option maxRecDepth 20000 in
theorem gX9_addCell_X7_countOf : GoodIn wsX9_addCell (wsV RX9 243 RX7 yX7_countOf wsX7_countOf) := goodIn_app (goodIn_of _ (by decide +kernel)) ggX9_addCell_X7_countOf
set_option maxRecDepth 20000 in
theorem ggX9_addCell_X7_size : GoodIn wsX9_addCell wsX7_size := goodIn_r _ [57, 48, 120, 121, 122, 123, 124, 125, 126, 127] (by decide +kernel) (by decide +kernel)
set_option maxRecDepth 20000 in
theorem gX9_addCell_X7_size : GoodIn wsX9_addCell (wsV RX9 260 RX7 yX7_size wsX7_size) := goodIn_app (goodIn_of _ (by decide +kernel)) ggX9_addCell_X7_size
set_option maxRecDepth 20000 in
theorem ggX9_addCell_X7_ownerAt : GoodIn wsX9_addCell wsX7_ownerAt := goodIn_r _ [52, 48, 53, 120, 121, 122, 123, 124, 125, 126, 127] (by decide +kernel) (by decide +kernel)
set_option maxRecDepth 20000 in
theorem gX9_addCell_X7_ownerAt : GoodIn wsX9_addCell (wsV RX9 329 RX7 yX7_ownerAt wsX7_ownerAt) := goodIn_app (goodIn_of _ (by decide +kernel)) ggX9_addCell_X7_ownerAt
set_option maxRecDepth 20000 in
theorem ggX9_addCell_X7_bothEnds : GoodIn wsX9_addCell wsX7_bothEnds := goodIn_r _ [62, 63, 64, 65, 46, 66, 48, 67, 68, 69, 70, 71, 72, 120, 121, 122, 123, 124, 125, 126, 127] (by decide +kernel) (by decide +kernel)
set_option maxRecDepth 20000 in
theorem gX9_addCell_X7_bothEnds : GoodIn wsX9_addCell (wsV RX9 251 RX7 yX7_bothEnds wsX7_bothEnds) := goodIn_app (goodIn_of _ (by decide +kernel)) ggX9_addCell_X7_bothEnds
set_option maxRecDepth 20000 in
theorem ggX9_addCell_X7_countOver : GoodIn wsX9_addCell wsX7_countOver := goodIn_r _ [76, 48, 77, 78, 79, 46, 80, 81, 82, 11, 83, 84, 85, 86, 120, 121, 122, 123, 124, 125, 126, 127] (by decide +kernel) (by decide +kernel)
set_option maxRecDepth 20000 in
theorem gX9_addCell_X7_countOver : GoodIn wsX9_addCell (wsV RX9 254 RX7 yX7_countOver wsX7_countOver) := goodIn_app (goodIn_of _ (by decide +kernel)) ggX9_addCell_X7_countOver
set_option maxRecDepth 20000 in
theorem ggX9_addCell_X7_countOwnersOver : GoodIn wsX9_addCell wsX7_countOwnersOver := goodIn_r _ [90, 48, 77, 78, 79, 46, 80, 81, 82, 11, 83, 84, 85, 86, 49, 50, 51, 52, 53, 91, 92, 93, 94, 95, 96, 97, 120, 121, 122, 123, 124, 125, 126, 127] (by decide +kernel) (by decide +kernel)
set_option maxRecDepth 20000 in
theorem gX9_addCell_X7_countOwnersOver : GoodIn wsX9_addCell (wsV RX9 257 RX7 yX7_countOwnersOver wsX7_countOwnersOver) := goodIn_app (goodIn_of _ (by decide +kernel)) ggX9_addCell_X7_countOwnersOver
set_option maxRecDepth 20000 in
theorem ggX9_addCell_X8_countLeftOf : GoodIn wsX9_addCell wsX8_countLeftOf := goodIn_r _ [102, 103, 104, 105, 50, 51, 46, 52, 48, 53, 128, 129, 130, 131, 132, 133, 134, 120, 121, 122, 123, 124, 125, 126, 127] (by decide +kernel) (by decide +kernel)
set_option maxRecDepth 20000 in
theorem gX9_addCell_X8_countLeftOf : GoodIn wsX9_addCell (wsV RX9 272 RX8 yX8_countLeftOf wsX8_countLeftOf) := goodIn_app (goodIn_of _ (by decide +kernel)) ggX9_addCell_X8_countLeftOf
theorem dX9_addCell_0 : decode cX9_addCell 0 = .ok (.aload_n 0, 1) := by decide +kernel
theorem dX9_addCell_1 : decode cX9_addCell 1 = .ok (.getfield 12, 3) := by decide +kernel
theorem dX9_addCell_4 : decode cX9_addCell 4 = .ok (.iload_n 2, 1) := by decide +kernel
theorem dX9_addCell_5 : decode cX9_addCell 5 = .ok (.invokevirtual 81, 3) := by decide +kernel
theorem dX9_addCell_8 : decode cX9_addCell 8 = .ok (.istore_n 3, 1) := by decide +kernel
theorem dX9_addCell_9 : decode cX9_addCell 9 = .ok (.aload_n 1, 1) := by decide +kernel
theorem dX9_addCell_10 : decode cX9_addCell 10 = .ok (.aload_n 0, 1) := by decide +kernel
theorem dX9_addCell_11 : decode cX9_addCell 11 = .ok (.getfield 12, 3) := by decide +kernel
theorem dX9_addCell_14 : decode cX9_addCell 14 = .ok (.iload_n 2, 1) := by decide +kernel
theorem dX9_addCell_15 : decode cX9_addCell 15 = .ok (.invokevirtual 94, 3) := by decide +kernel
theorem dX9_addCell_18 : decode cX9_addCell 18 = .ok (.i2l, 1) := by decide +kernel
theorem dX9_addCell_19 : decode cX9_addCell 19 = .ok (.invokevirtual 312, 3) := by decide +kernel
theorem dX9_addCell_22 : decode cX9_addCell 22 = .ok (.aload_n 1, 1) := by decide +kernel
theorem dX9_addCell_23 : decode cX9_addCell 23 = .ok (.iload_n 3, 1) := by decide +kernel
theorem dX9_addCell_24 : decode cX9_addCell 24 = .ok (.ifCond .eq 17, 3) := by decide +kernel
theorem dX9_addCell_27 : decode cX9_addCell 27 = .ok (.aload_n 0, 1) := by decide +kernel
theorem dX9_addCell_28 : decode cX9_addCell 28 = .ok (.getfield 12, 3) := by decide +kernel
theorem dX9_addCell_31 : decode cX9_addCell 31 = .ok (.iload_n 2, 1) := by decide +kernel
theorem dX9_addCell_32 : decode cX9_addCell 32 = .ok (.invokevirtual 140, 3) := by decide +kernel
theorem dX9_addCell_35 : decode cX9_addCell 35 = .ok (.iconst 1, 1) := by decide +kernel
theorem dX9_addCell_36 : decode cX9_addCell 36 = .ok (.iadd, 1) := by decide +kernel
theorem dX9_addCell_37 : decode cX9_addCell 37 = .ok (.i2l, 1) := by decide +kernel
theorem dX9_addCell_38 : decode cX9_addCell 38 = .ok (.goto 4, 3) := by decide +kernel
theorem dX9_addCell_41 : decode cX9_addCell 41 = .ok (.lconst 0, 1) := by decide +kernel
theorem dX9_addCell_42 : decode cX9_addCell 42 = .ok (.invokevirtual 312, 3) := by decide +kernel
theorem dX9_addCell_45 : decode cX9_addCell 45 = .ok (.aload_n 1, 1) := by decide +kernel
theorem dX9_addCell_46 : decode cX9_addCell 46 = .ok (.iload_n 3, 1) := by decide +kernel
theorem dX9_addCell_47 : decode cX9_addCell 47 = .ok (.ifCond .eq 17, 3) := by decide +kernel
theorem dX9_addCell_50 : decode cX9_addCell 50 = .ok (.aload_n 0, 1) := by decide +kernel
theorem dX9_addCell_51 : decode cX9_addCell 51 = .ok (.getfield 12, 3) := by decide +kernel
theorem dX9_addCell_54 : decode cX9_addCell 54 = .ok (.iload_n 2, 1) := by decide +kernel
theorem dX9_addCell_55 : decode cX9_addCell 55 = .ok (.invokevirtual 234, 3) := by decide +kernel
theorem dX9_addCell_58 : decode cX9_addCell 58 = .ok (.iconst 1, 1) := by decide +kernel
theorem dX9_addCell_59 : decode cX9_addCell 59 = .ok (.iadd, 1) := by decide +kernel
theorem dX9_addCell_60 : decode cX9_addCell 60 = .ok (.i2l, 1) := by decide +kernel
theorem dX9_addCell_61 : decode cX9_addCell 61 = .ok (.goto 4, 3) := by decide +kernel
theorem dX9_addCell_64 : decode cX9_addCell 64 = .ok (.lconst 0, 1) := by decide +kernel
theorem dX9_addCell_65 : decode cX9_addCell 65 = .ok (.invokevirtual 312, 3) := by decide +kernel
theorem dX9_addCell_68 : decode cX9_addCell 68 = .ok (.aload_n 1, 1) := by decide +kernel
theorem dX9_addCell_69 : decode cX9_addCell 69 = .ok (.aload_n 0, 1) := by decide +kernel
theorem dX9_addCell_70 : decode cX9_addCell 70 = .ok (.getfield 43, 3) := by decide +kernel
theorem dX9_addCell_73 : decode cX9_addCell 73 = .ok (.iload_n 2, 1) := by decide +kernel
theorem dX9_addCell_74 : decode cX9_addCell 74 = .ok (.invokevirtual 243, 3) := by decide +kernel
theorem dX9_addCell_77 : decode cX9_addCell 77 = .ok (.i2l, 1) := by decide +kernel
theorem dX9_addCell_78 : decode cX9_addCell 78 = .ok (.invokevirtual 312, 3) := by decide +kernel
theorem dX9_addCell_81 : decode cX9_addCell 81 = .ok (.iconst 0, 1) := by decide +kernel
theorem dX9_addCell_82 : decode cX9_addCell 82 = .ok (.istore 4, 2) := by decide +kernel
theorem dX9_addCell_84 : decode cX9_addCell 84 = .ok (.iload 4, 2) := by decide +kernel
theorem dX9_addCell_86 : decode cX9_addCell 86 = .ok (.aload_n 0, 1) := by decide +kernel
theorem dX9_addCell_87 : decode cX9_addCell 87 = .ok (.getfield 43, 3) := by decide +kernel
theorem dX9_addCell_90 : decode cX9_addCell 90 = .ok (.invokevirtual 260, 3) := by decide +kernel
theorem dX9_addCell_93 : decode cX9_addCell 93 = .ok (.if_icmp .ge 36, 3) := by decide +kernel
theorem dX9_addCell_96 : decode cX9_addCell 96 = .ok (.aload_n 0, 1) := by decide +kernel
theorem dX9_addCell_97 : decode cX9_addCell 97 = .ok (.getfield 43, 3) := by decide +kernel
theorem dX9_addCell_100 : decode cX9_addCell 100 = .ok (.iload 4, 2) := by decide +kernel
theorem dX9_addCell_102 : decode cX9_addCell 102 = .ok (.invokevirtual 329, 3) := by decide +kernel
theorem dX9_addCell_105 : decode cX9_addCell 105 = .ok (.iload_n 2, 1) := by decide +kernel
theorem dX9_addCell_106 : decode cX9_addCell 106 = .ok (.if_icmp .ne 17, 3) := by decide +kernel
theorem dX9_addCell_109 : decode cX9_addCell 109 = .ok (.aload_n 1, 1) := by decide +kernel
theorem dX9_addCell_110 : decode cX9_addCell 110 = .ok (.aload_n 0, 1) := by decide +kernel
theorem dX9_addCell_111 : decode cX9_addCell 111 = .ok (.getfield 43, 3) := by decide +kernel
theorem dX9_addCell_114 : decode cX9_addCell 114 = .ok (.iload 4, 2) := by decide +kernel
theorem dX9_addCell_116 : decode cX9_addCell 116 = .ok (.invokevirtual 251, 3) := by decide +kernel
theorem dX9_addCell_119 : decode cX9_addCell 119 = .ok (.i2l, 1) := by decide +kernel
theorem dX9_addCell_120 : decode cX9_addCell 120 = .ok (.invokevirtual 312, 3) := by decide +kernel
theorem dX9_addCell_123 : decode cX9_addCell 123 = .ok (.iinc 4 1, 3) := by decide +kernel
theorem dX9_addCell_126 : decode cX9_addCell 126 = .ok (.goto (-42), 3) := by decide +kernel
theorem dX9_addCell_129 : decode cX9_addCell 129 = .ok (.aload_n 1, 1) := by decide +kernel
theorem dX9_addCell_130 : decode cX9_addCell 130 = .ok (.aload_n 0, 1) := by decide +kernel
theorem dX9_addCell_131 : decode cX9_addCell 131 = .ok (.getfield 43, 3) := by decide +kernel
theorem dX9_addCell_134 : decode cX9_addCell 134 = .ok (.iload_n 2, 1) := by decide +kernel
theorem dX9_addCell_135 : decode cX9_addCell 135 = .ok (.invokevirtual 254, 3) := by decide +kernel
theorem dX9_addCell_138 : decode cX9_addCell 138 = .ok (.i2l, 1) := by decide +kernel
theorem dX9_addCell_139 : decode cX9_addCell 139 = .ok (.invokevirtual 312, 3) := by decide +kernel
theorem dX9_addCell_142 : decode cX9_addCell 142 = .ok (.aload_n 1, 1) := by decide +kernel
theorem dX9_addCell_143 : decode cX9_addCell 143 = .ok (.aload_n 0, 1) := by decide +kernel
theorem dX9_addCell_144 : decode cX9_addCell 144 = .ok (.getfield 43, 3) := by decide +kernel
theorem dX9_addCell_147 : decode cX9_addCell 147 = .ok (.iload_n 2, 1) := by decide +kernel
theorem dX9_addCell_148 : decode cX9_addCell 148 = .ok (.invokevirtual 257, 3) := by decide +kernel
theorem dX9_addCell_151 : decode cX9_addCell 151 = .ok (.i2l, 1) := by decide +kernel
theorem dX9_addCell_152 : decode cX9_addCell 152 = .ok (.invokevirtual 312, 3) := by decide +kernel
theorem dX9_addCell_155 : decode cX9_addCell 155 = .ok (.aload_n 1, 1) := by decide +kernel
theorem dX9_addCell_156 : decode cX9_addCell 156 = .ok (.aload_n 0, 1) := by decide +kernel
theorem dX9_addCell_157 : decode cX9_addCell 157 = .ok (.getfield 52, 3) := by decide +kernel
theorem dX9_addCell_160 : decode cX9_addCell 160 = .ok (.iload_n 2, 1) := by decide +kernel
theorem dX9_addCell_161 : decode cX9_addCell 161 = .ok (.invokevirtual 272, 3) := by decide +kernel
theorem dX9_addCell_164 : decode cX9_addCell 164 = .ok (.i2l, 1) := by decide +kernel
theorem dX9_addCell_165 : decode cX9_addCell 165 = .ok (.invokevirtual 312, 3) := by decide +kernel
theorem dX9_addCell_168 : decode cX9_addCell 168 = .ok (.return_, 1) := by decide +kernel
set_option maxRecDepth 20000 in
theorem ggX9_addTotals_X0_cellsWithNumber : GoodIn wsX9_addTotals wsX0_cellsWithNumber := goodIn_r _ [9, 10, 11, 12, 13, 109, 110, 111, 112] (by decide +kernel) (by decide +kernel)
set_option maxRecDepth 20000 in
theorem gX9_addTotals_X0_cellsWithNumber : GoodIn wsX9_addTotals (wsV RX9 109 RX0 yX0_cellsWithNumber wsX0_cellsWithNumber) := goodIn_app (goodIn_of _ (by decide +kernel)) ggX9_addTotals_X0_cellsWithNumber
set_option maxRecDepth 20000 in
theorem ggX9_addTotals_J13_bitCount_95d88 : GoodIn wsX9_addTotals wsJ13_bitCount_95d88 := goodIn_r _ [17, 18, 19, 20] (by decide +kernel) (by decide +kernel)
set_option maxRecDepth 20000 in
theorem gX9_addTotals_J13_bitCount_95d88 : GoodIn wsX9_addTotals (va_wsS RX9 113 yJ13_bitCount_95d88 wsJ13_bitCount_95d88) := goodIn_app (goodIn_of _ (by decide +kernel)) ggX9_addTotals_J13_bitCount_95d88
set_option maxRecDepth 20000 in
theorem ggX9_addTotals_X2_add : GoodIn wsX9_addTotals wsX2_add := goodIn_r _ [25, 26, 27, 113] (by decide +kernel) (by decide +kernel)
set_option maxRecDepth 20000 in
theorem gX9_addTotals_X2_add : GoodIn wsX9_addTotals (wsV RX9 312 RX2 yX2_add wsX2_add) := goodIn_app (goodIn_of _ (by decide +kernel)) ggX9_addTotals_X2_add
set_option maxRecDepth 20000 in
theorem ggX9_addTotals_X0_sumIn : GoodIn wsX9_addTotals wsX0_sumIn := goodIn_r _ [31, 10, 32, 12, 33, 34, 11, 13, 109, 110, 111, 112] (by decide +kernel) (by decide +kernel)
set_option maxRecDepth 20000 in
theorem gX9_addTotals_X0_sumIn : GoodIn wsX9_addTotals (wsV RX9 231 RX0 yX0_sumIn wsX0_sumIn) := goodIn_app (goodIn_of _ (by decide +kernel)) ggX9_addTotals_X0_sumIn
set_option maxRecDepth 20000 in
theorem ggX9_addTotals_X0_countFields : GoodIn wsX9_addTotals wsX0_countFields := goodIn_r _ [38, 39, 40, 41, 8, 42, 43, 44, 45, 12, 46, 109, 110, 111, 112] (by decide +kernel) (by decide +kernel)
set_option maxRecDepth 20000 in
theorem gX9_addTotals_X0_countFields : GoodIn wsX9_addTotals (wsV RX9 147 RX0 yX0_countFields wsX0_countFields) := goodIn_app (goodIn_of _ (by decide +kernel)) ggX9_addTotals_X0_countFields
set_option maxRecDepth 20000 in
theorem ggX9_addTotals_X9_countOpenCells : GoodIn wsX9_addTotals wsX9_countOpenCells := goodIn_r _ [50, 1, 51, 52, 53, 8, 54, 43, 11, 12, 13, 14, 15, 16, 17, 18, 19, 20, 100, 101, 102, 103, 104, 105, 106, 107, 108, 109, 110, 111, 112] (by decide +kernel) (by decide +kernel)
set_option maxRecDepth 20000 in
theorem gX9_addTotals_X9_countOpenCells : GoodIn wsX9_addTotals (wsV RX9 237 RX9 yX9_countOpenCells wsX9_countOpenCells) := goodIn_app (goodIn_of _ (by decide +kernel)) ggX9_addTotals_X9_countOpenCells
set_option maxRecDepth 20000 in
theorem ggX9_addTotals_X7_size : GoodIn wsX9_addTotals wsX7_size := goodIn_r _ [59, 60, 114, 115, 116, 117, 118, 119, 120, 121] (by decide +kernel) (by decide +kernel)
set_option maxRecDepth 20000 in
theorem gX9_addTotals_X7_size : GoodIn wsX9_addTotals (wsV RX9 260 RX7 yX7_size wsX7_size) := goodIn_app (goodIn_of _ (by decide +kernel)) ggX9_addTotals_X7_size
set_option maxRecDepth 20000 in
theorem ggX9_addTotals_X8_countRounds : GoodIn wsX9_addTotals wsX8_countRounds := goodIn_r _ [65, 66, 122, 123, 124, 125, 126, 127, 128] (by decide +kernel) (by decide +kernel)
set_option maxRecDepth 20000 in
theorem gX9_addTotals_X8_countRounds : GoodIn wsX9_addTotals (wsV RX9 266 RX8 yX8_countRounds wsX8_countRounds) := goodIn_app (goodIn_of _ (by decide +kernel)) ggX9_addTotals_X8_countRounds
set_option maxRecDepth 20000 in
theorem ggX9_addTotals_X8_countLeft : GoodIn wsX9_addTotals wsX8_countLeft := goodIn_r _ [70, 71, 122, 123, 124, 125, 126, 127, 128] (by decide +kernel) (by decide +kernel)
set_option maxRecDepth 20000 in
theorem gX9_addTotals_X8_countLeft : GoodIn wsX9_addTotals (wsV RX9 269 RX8 yX8_countLeft wsX8_countLeft) := goodIn_app (goodIn_of _ (by decide +kernel)) ggX9_addTotals_X8_countLeft
set_option maxRecDepth 20000 in
theorem ggX9_addTotals_X8_endsInContradiction : GoodIn wsX9_addTotals wsX8_endsInContradiction := goodIn_r _ [75, 76, 77, 78, 32, 12, 33, 34, 11, 13, 79, 80, 64, 81, 122, 123, 124, 125, 126, 127, 128] (by decide +kernel) (by decide +kernel)
set_option maxRecDepth 20000 in
theorem gX9_addTotals_X8_endsInContradiction : GoodIn wsX9_addTotals (wsV RX9 275 RX8 yX8_endsInContradiction wsX8_endsInContradiction) := goodIn_app (goodIn_of _ (by decide +kernel)) ggX9_addTotals_X8_endsInContradiction
set_option maxRecDepth 20000 in
theorem ggX9_addTotals_X8_firstCertain : GoodIn wsX9_addTotals wsX8_firstCertain := goodIn_r _ [85, 86, 87, 88, 64, 89, 71, 90, 91, 92, 93, 58, 94, 60, 95, 122, 123, 124, 125, 126, 127, 128, 114, 115, 116, 117, 118, 119, 120, 121] (by decide +kernel) (by decide +kernel)
set_option maxRecDepth 20000 in
theorem gX9_addTotals_X8_firstCertain : GoodIn wsX9_addTotals (wsV RX9 281 RX8 yX8_firstCertain wsX8_firstCertain) := goodIn_app (goodIn_of _ (by decide +kernel)) ggX9_addTotals_X8_firstCertain
set_option maxRecDepth 20000 in
theorem ggX9_addTotals_X8_countCertain : GoodIn wsX9_addTotals wsX8_countCertain := goodIn_r _ [99, 86, 87, 88, 64, 89, 71, 90, 91, 92, 93, 58, 94, 60, 95, 122, 123, 124, 125, 126, 127, 128, 114, 115, 116, 117, 118, 119, 120, 121] (by decide +kernel) (by decide +kernel)
set_option maxRecDepth 20000 in
theorem gX9_addTotals_X8_countCertain : GoodIn wsX9_addTotals (wsV RX9 278 RX8 yX8_countCertain wsX8_countCertain) := goodIn_app (goodIn_of _ (by decide +kernel)) ggX9_addTotals_X8_countCertain
theorem dX9_addTotals_0 : decode cX9_addTotals 0 = .ok (.aload_n 1, 1) := by decide +kernel
theorem dX9_addTotals_1 : decode cX9_addTotals 1 = .ok (.aload_n 0, 1) := by decide +kernel
theorem dX9_addTotals_2 : decode cX9_addTotals 2 = .ok (.getfield 12, 3) := by decide +kernel
theorem dX9_addTotals_5 : decode cX9_addTotals 5 = .ok (.invokevirtual 109, 3) := by decide +kernel
theorem dX9_addTotals_8 : decode cX9_addTotals 8 = .ok (.invokestatic 113, 3) := by decide +kernel
theorem dX9_addTotals_11 : decode cX9_addTotals 11 = .ok (.i2l, 1) := by decide +kernel
theorem dX9_addTotals_12 : decode cX9_addTotals 12 = .ok (.invokevirtual 312, 3) := by decide +kernel
theorem dX9_addTotals_15 : decode cX9_addTotals 15 = .ok (.aload_n 1, 1) := by decide +kernel
theorem dX9_addTotals_16 : decode cX9_addTotals 16 = .ok (.aload_n 0, 1) := by decide +kernel
theorem dX9_addTotals_17 : decode cX9_addTotals 17 = .ok (.getfield 12, 3) := by decide +kernel
theorem dX9_addTotals_20 : decode cX9_addTotals 20 = .ok (.ldc2_w 229, 3) := by decide +kernel
theorem dX9_addTotals_23 : decode cX9_addTotals 23 = .ok (.invokevirtual 231, 3) := by decide +kernel
theorem dX9_addTotals_26 : decode cX9_addTotals 26 = .ok (.i2l, 1) := by decide +kernel
theorem dX9_addTotals_27 : decode cX9_addTotals 27 = .ok (.invokevirtual 312, 3) := by decide +kernel
theorem dX9_addTotals_30 : decode cX9_addTotals 30 = .ok (.aload_n 1, 1) := by decide +kernel
theorem dX9_addTotals_31 : decode cX9_addTotals 31 = .ok (.aload_n 0, 1) := by decide +kernel
theorem dX9_addTotals_32 : decode cX9_addTotals 32 = .ok (.getfield 12, 3) := by decide +kernel
theorem dX9_addTotals_35 : decode cX9_addTotals 35 = .ok (.invokevirtual 147, 3) := by decide +kernel
theorem dX9_addTotals_38 : decode cX9_addTotals 38 = .ok (.i2l, 1) := by decide +kernel
theorem dX9_addTotals_39 : decode cX9_addTotals 39 = .ok (.invokevirtual 312, 3) := by decide +kernel
theorem dX9_addTotals_42 : decode cX9_addTotals 42 = .ok (.aload_n 1, 1) := by decide +kernel
theorem dX9_addTotals_43 : decode cX9_addTotals 43 = .ok (.aload_n 0, 1) := by decide +kernel
theorem dX9_addTotals_44 : decode cX9_addTotals 44 = .ok (.invokevirtual 237, 3) := by decide +kernel
theorem dX9_addTotals_47 : decode cX9_addTotals 47 = .ok (.i2l, 1) := by decide +kernel
theorem dX9_addTotals_48 : decode cX9_addTotals 48 = .ok (.invokevirtual 312, 3) := by decide +kernel
theorem dX9_addTotals_51 : decode cX9_addTotals 51 = .ok (.aload_n 1, 1) := by decide +kernel
theorem dX9_addTotals_52 : decode cX9_addTotals 52 = .ok (.aload_n 0, 1) := by decide +kernel
theorem dX9_addTotals_53 : decode cX9_addTotals 53 = .ok (.getfield 43, 3) := by decide +kernel
theorem dX9_addTotals_56 : decode cX9_addTotals 56 = .ok (.invokevirtual 260, 3) := by decide +kernel
theorem dX9_addTotals_59 : decode cX9_addTotals 59 = .ok (.i2l, 1) := by decide +kernel
theorem dX9_addTotals_60 : decode cX9_addTotals 60 = .ok (.invokevirtual 312, 3) := by decide +kernel
theorem dX9_addTotals_63 : decode cX9_addTotals 63 = .ok (.aload_n 1, 1) := by decide +kernel
theorem dX9_addTotals_64 : decode cX9_addTotals 64 = .ok (.aload_n 0, 1) := by decide +kernel
theorem dX9_addTotals_65 : decode cX9_addTotals 65 = .ok (.getfield 52, 3) := by decide +kernel
theorem dX9_addTotals_68 : decode cX9_addTotals 68 = .ok (.invokevirtual 266, 3) := by decide +kernel
theorem dX9_addTotals_71 : decode cX9_addTotals 71 = .ok (.i2l, 1) := by decide +kernel
theorem dX9_addTotals_72 : decode cX9_addTotals 72 = .ok (.invokevirtual 312, 3) := by decide +kernel
theorem dX9_addTotals_75 : decode cX9_addTotals 75 = .ok (.aload_n 1, 1) := by decide +kernel
theorem dX9_addTotals_76 : decode cX9_addTotals 76 = .ok (.aload_n 0, 1) := by decide +kernel
theorem dX9_addTotals_77 : decode cX9_addTotals 77 = .ok (.getfield 52, 3) := by decide +kernel
theorem dX9_addTotals_80 : decode cX9_addTotals 80 = .ok (.invokevirtual 269, 3) := by decide +kernel
theorem dX9_addTotals_83 : decode cX9_addTotals 83 = .ok (.i2l, 1) := by decide +kernel
theorem dX9_addTotals_84 : decode cX9_addTotals 84 = .ok (.invokevirtual 312, 3) := by decide +kernel
theorem dX9_addTotals_87 : decode cX9_addTotals 87 = .ok (.aload_n 0, 1) := by decide +kernel
theorem dX9_addTotals_88 : decode cX9_addTotals 88 = .ok (.getfield 52, 3) := by decide +kernel
theorem dX9_addTotals_91 : decode cX9_addTotals 91 = .ok (.invokevirtual 275, 3) := by decide +kernel
theorem dX9_addTotals_94 : decode cX9_addTotals 94 = .ok (.istore_n 2, 1) := by decide +kernel
theorem dX9_addTotals_95 : decode cX9_addTotals 95 = .ok (.iload_n 2, 1) := by decide +kernel
theorem dX9_addTotals_96 : decode cX9_addTotals 96 = .ok (.ifCond .eq 8, 3) := by decide +kernel
theorem dX9_addTotals_99 : decode cX9_addTotals 99 = .ok (.bipush 42, 2) := by decide +kernel
theorem dX9_addTotals_101 : decode cX9_addTotals 101 = .ok (.goto 10, 3) := by decide +kernel
theorem dX9_addTotals_104 : decode cX9_addTotals 104 = .ok (.aload_n 0, 1) := by decide +kernel
theorem dX9_addTotals_105 : decode cX9_addTotals 105 = .ok (.getfield 52, 3) := by decide +kernel
theorem dX9_addTotals_108 : decode cX9_addTotals 108 = .ok (.invokevirtual 281, 3) := by decide +kernel
theorem dX9_addTotals_111 : decode cX9_addTotals 111 = .ok (.istore_n 3, 1) := by decide +kernel
theorem dX9_addTotals_112 : decode cX9_addTotals 112 = .ok (.aload_n 1, 1) := by decide +kernel
theorem dX9_addTotals_113 : decode cX9_addTotals 113 = .ok (.iload_n 2, 1) := by decide +kernel
theorem dX9_addTotals_114 : decode cX9_addTotals 114 = .ok (.ifCond .eq 7, 3) := by decide +kernel
theorem dX9_addTotals_117 : decode cX9_addTotals 117 = .ok (.lconst 1, 1) := by decide +kernel
theorem dX9_addTotals_118 : decode cX9_addTotals 118 = .ok (.goto 4, 3) := by decide +kernel
theorem dX9_addTotals_121 : decode cX9_addTotals 121 = .ok (.lconst 0, 1) := by decide +kernel
theorem dX9_addTotals_122 : decode cX9_addTotals 122 = .ok (.invokevirtual 312, 3) := by decide +kernel
theorem dX9_addTotals_125 : decode cX9_addTotals 125 = .ok (.aload_n 1, 1) := by decide +kernel
theorem dX9_addTotals_126 : decode cX9_addTotals 126 = .ok (.iload_n 2, 1) := by decide +kernel
theorem dX9_addTotals_127 : decode cX9_addTotals 127 = .ok (.ifCond .eq 7, 3) := by decide +kernel
theorem dX9_addTotals_130 : decode cX9_addTotals 130 = .ok (.lconst 0, 1) := by decide +kernel
theorem dX9_addTotals_131 : decode cX9_addTotals 131 = .ok (.goto 13, 3) := by decide +kernel
theorem dX9_addTotals_134 : decode cX9_addTotals 134 = .ok (.aload_n 0, 1) := by decide +kernel
theorem dX9_addTotals_135 : decode cX9_addTotals 135 = .ok (.getfield 52, 3) := by decide +kernel
theorem dX9_addTotals_138 : decode cX9_addTotals 138 = .ok (.invokevirtual 278, 3) := by decide +kernel
theorem dX9_addTotals_141 : decode cX9_addTotals 141 = .ok (.iconst 1, 1) := by decide +kernel
theorem dX9_addTotals_142 : decode cX9_addTotals 142 = .ok (.iadd, 1) := by decide +kernel
theorem dX9_addTotals_143 : decode cX9_addTotals 143 = .ok (.i2l, 1) := by decide +kernel
theorem dX9_addTotals_144 : decode cX9_addTotals 144 = .ok (.invokevirtual 312, 3) := by decide +kernel
theorem dX9_addTotals_147 : decode cX9_addTotals 147 = .ok (.aload_n 1, 1) := by decide +kernel
theorem dX9_addTotals_148 : decode cX9_addTotals 148 = .ok (.iload_n 3, 1) := by decide +kernel
theorem dX9_addTotals_149 : decode cX9_addTotals 149 = .ok (.bipush 42, 2) := by decide +kernel
theorem dX9_addTotals_151 : decode cX9_addTotals 151 = .ok (.if_icmp .ne 7, 3) := by decide +kernel
theorem dX9_addTotals_154 : decode cX9_addTotals 154 = .ok (.lconst 0, 1) := by decide +kernel
theorem dX9_addTotals_155 : decode cX9_addTotals 155 = .ok (.goto 7, 3) := by decide +kernel
theorem dX9_addTotals_158 : decode cX9_addTotals 158 = .ok (.iload_n 3, 1) := by decide +kernel
theorem dX9_addTotals_159 : decode cX9_addTotals 159 = .ok (.iconst 1, 1) := by decide +kernel
theorem dX9_addTotals_160 : decode cX9_addTotals 160 = .ok (.iadd, 1) := by decide +kernel
theorem dX9_addTotals_161 : decode cX9_addTotals 161 = .ok (.i2l, 1) := by decide +kernel
theorem dX9_addTotals_162 : decode cX9_addTotals 162 = .ok (.invokevirtual 312, 3) := by decide +kernel
theorem dX9_addTotals_165 : decode cX9_addTotals 165 = .ok (.return_, 1) := by decide +kernel
set_option maxRecDepth 20000 in
theorem ggX9_addWays_X6_countWays : GoodIn wsX9_addWays wsX6_countWays := goodIn_r _ [8, 9, 10, 11, 12, 13, 14, 15, 16, 17, 18, 19, 20, 21, 22, 23, 24, 25, 26, 27, 28, 29, 30, 31, 32, 33, 34, 35, 36, 37, 38, 39, 40, 41, 42, 43, 44, 45, 46, 47, 48, 49, 50, 51, 52, 53, 54, 55, 56, 57, 58, 59, 60, 61, 62, 63, 64, 65, 66, 67, 68, 69, 70, 71, 72, 73, 74, 75, 76, 77, 78, 79, 80, 81, 82, 7, 83, 84, 85, 86, 87, 88, 89, 90, 91, 92, 93, 94, 95, 96, 97, 98, 99, 100, 101, 102, 103, 104, 105, 106, 107, 108, 109, 110, 111, 112, 113, 114, 115, 202, 203, 204, 205, 206, 207, 208, 209, 210, 211, 212, 213, 214, 215, 216, 217] (by decide +kernel) (by decide +kernel)
set_option maxRecDepth 20000 in
theorem gX9_addWays_X6_countWays : GoodIn wsX9_addWays (wsV RX9 286 RX6 yX6_countWays wsX6_countWays) := goodIn_app (goodIn_of _ (by decide +kernel)) ggX9_addWays_X6_countWays
set_option maxRecDepth 20000 in
theorem ggX9_addWays_X2_add : GoodIn wsX9_addWays wsX2_add := goodIn_r _ [120, 121, 122, 218] (by decide +kernel) (by decide +kernel)
set_option maxRecDepth 20000 in
theorem gX9_addWays_X2_add : GoodIn wsX9_addWays (wsV RX9 312 RX2 yX2_add wsX2_add) := goodIn_app (goodIn_of _ (by decide +kernel)) ggX9_addWays_X2_add
set_option maxRecDepth 20000 in
theorem ggX9_addWays_X1_countWays : GoodIn wsX9_addWays wsX1_countWays := goodIn_r _ [127, 128, 129, 130, 131, 132, 13, 14, 15, 16, 17, 18, 19, 20, 21, 22, 23, 24, 25, 26, 27, 28, 29, 30, 31, 32, 33, 34, 35, 36, 37, 38, 39, 40, 41, 42, 43, 44, 45, 46, 47, 48, 49, 50, 51, 52, 53, 54, 55, 56, 57, 58, 133, 134, 135, 136, 137, 138, 139, 67, 68, 69, 70, 63, 65, 71, 72, 73, 74, 75, 76, 77, 78, 140, 141, 142, 143, 126, 144, 145, 146, 147, 148, 149, 150, 151, 152, 153, 154, 155, 156, 157, 158, 159, 160, 161, 162, 163, 164, 165, 166, 87, 88, 89, 90, 91, 92, 93, 167, 168, 169, 170, 171, 104, 105, 106, 172, 219, 220, 221, 222, 223, 206, 207, 208, 209, 210, 211, 212, 213, 214, 215, 216, 217] (by decide +kernel) (by decide +kernel)
set_option maxRecDepth 20000 in
theorem gX9_addWays_X1_countWays : GoodIn wsX9_addWays (wsV RX9 289 RX1 yX1_countWays wsX1_countWays) := goodIn_app (goodIn_of _ (by decide +kernel)) ggX9_addWays_X1_countWays
set_option maxRecDepth 20000 in
theorem ggX9_addWays_X1_firstWay : GoodIn wsX9_addWays wsX1_firstWay := goodIn_r _ [176, 129, 219, 220, 221, 222, 223] (by decide +kernel) (by decide +kernel)
set_option maxRecDepth 20000 in
theorem gX9_addWays_X1_firstWay : GoodIn wsX9_addWays (wsV RX9 164 RX1 yX1_firstWay wsX1_firstWay) := goodIn_app (goodIn_of _ (by decide +kernel)) ggX9_addWays_X1_firstWay
set_option maxRecDepth 20000 in
theorem ggX9_addWays_X0_sizeOfField : GoodIn wsX9_addWays wsX0_sizeOfField := goodIn_r _ [180, 137, 138, 47, 26, 48, 181, 182, 183, 184, 185, 186, 187, 188, 214, 215, 216, 217] (by decide +kernel) (by decide +kernel)
set_option maxRecDepth 20000 in
theorem gX9_addWays_X0_sizeOfField : GoodIn wsX9_addWays (wsV RX9 140 RX0 yX0_sizeOfField wsX0_sizeOfField) := goodIn_app (goodIn_of _ (by decide +kernel)) ggX9_addWays_X0_sizeOfField
set_option maxRecDepth 20000 in
theorem ggX9_addWays_X0_firstOfField : GoodIn wsX9_addWays wsX0_firstOfField := goodIn_r _ [192, 137, 47, 26, 48, 214, 215, 216, 217] (by decide +kernel) (by decide +kernel)
set_option maxRecDepth 20000 in
theorem gX9_addWays_X0_firstOfField : GoodIn wsX9_addWays (wsV RX9 234 RX0 yX0_firstOfField wsX0_firstOfField) := goodIn_app (goodIn_of _ (by decide +kernel)) ggX9_addWays_X0_firstOfField
theorem dX9_addWays_0 : decode cX9_addWays 0 = .ok (.aload_n 1, 1) := by decide +kernel
theorem dX9_addWays_1 : decode cX9_addWays 1 = .ok (.aload_n 0, 1) := by decide +kernel
theorem dX9_addWays_2 : decode cX9_addWays 2 = .ok (.getfield 59, 3) := by decide +kernel
theorem dX9_addWays_5 : decode cX9_addWays 5 = .ok (.aload_n 0, 1) := by decide +kernel
theorem dX9_addWays_6 : decode cX9_addWays 6 = .ok (.getfield 12, 3) := by decide +kernel
theorem dX9_addWays_9 : decode cX9_addWays 9 = .ok (.invokevirtual 286, 3) := by decide +kernel
theorem dX9_addWays_12 : decode cX9_addWays 12 = .ok (.i2l, 1) := by decide +kernel
theorem dX9_addWays_13 : decode cX9_addWays 13 = .ok (.invokevirtual 312, 3) := by decide +kernel
theorem dX9_addWays_16 : decode cX9_addWays 16 = .ok (.aload_n 0, 1) := by decide +kernel
theorem dX9_addWays_17 : decode cX9_addWays 17 = .ok (.getfield 66, 3) := by decide +kernel
theorem dX9_addWays_20 : decode cX9_addWays 20 = .ok (.aload_n 0, 1) := by decide +kernel
theorem dX9_addWays_21 : decode cX9_addWays 21 = .ok (.getfield 12, 3) := by decide +kernel
theorem dX9_addWays_24 : decode cX9_addWays 24 = .ok (.bipush 50, 2) := by decide +kernel
theorem dX9_addWays_26 : decode cX9_addWays 26 = .ok (.invokevirtual 289, 3) := by decide +kernel
theorem dX9_addWays_29 : decode cX9_addWays 29 = .ok (.istore_n 2, 1) := by decide +kernel
theorem dX9_addWays_30 : decode cX9_addWays 30 = .ok (.aload_n 1, 1) := by decide +kernel
theorem dX9_addWays_31 : decode cX9_addWays 31 = .ok (.iload_n 2, 1) := by decide +kernel
theorem dX9_addWays_32 : decode cX9_addWays 32 = .ok (.i2l, 1) := by decide +kernel
theorem dX9_addWays_33 : decode cX9_addWays 33 = .ok (.invokevirtual 312, 3) := by decide +kernel
theorem dX9_addWays_36 : decode cX9_addWays 36 = .ok (.iload_n 2, 1) := by decide +kernel
theorem dX9_addWays_37 : decode cX9_addWays 37 = .ok (.ifCond .le 49, 3) := by decide +kernel
theorem dX9_addWays_40 : decode cX9_addWays 40 = .ok (.aload_n 0, 1) := by decide +kernel
theorem dX9_addWays_41 : decode cX9_addWays 41 = .ok (.getfield 66, 3) := by decide +kernel
theorem dX9_addWays_44 : decode cX9_addWays 44 = .ok (.invokevirtual 164, 3) := by decide +kernel
theorem dX9_addWays_47 : decode cX9_addWays 47 = .ok (.astore_n 3, 1) := by decide +kernel
theorem dX9_addWays_48 : decode cX9_addWays 48 = .ok (.iconst 0, 1) := by decide +kernel
theorem dX9_addWays_49 : decode cX9_addWays 49 = .ok (.istore 4, 2) := by decide +kernel
theorem dX9_addWays_51 : decode cX9_addWays 51 = .ok (.iload 4, 2) := by decide +kernel
theorem dX9_addWays_53 : decode cX9_addWays 53 = .ok (.bipush 42, 2) := by decide +kernel
theorem dX9_addWays_55 : decode cX9_addWays 55 = .ok (.if_icmp .ge 31, 3) := by decide +kernel
theorem dX9_addWays_58 : decode cX9_addWays 58 = .ok (.aload_n 1, 1) := by decide +kernel
theorem dX9_addWays_59 : decode cX9_addWays 59 = .ok (.aload_n 3, 1) := by decide +kernel
theorem dX9_addWays_60 : decode cX9_addWays 60 = .ok (.iload 4, 2) := by decide +kernel
theorem dX9_addWays_62 : decode cX9_addWays 62 = .ok (.invokevirtual 140, 3) := by decide +kernel
theorem dX9_addWays_65 : decode cX9_addWays 65 = .ok (.i2l, 1) := by decide +kernel
theorem dX9_addWays_66 : decode cX9_addWays 66 = .ok (.invokevirtual 312, 3) := by decide +kernel
theorem dX9_addWays_69 : decode cX9_addWays 69 = .ok (.aload_n 1, 1) := by decide +kernel
theorem dX9_addWays_70 : decode cX9_addWays 70 = .ok (.aload_n 3, 1) := by decide +kernel
theorem dX9_addWays_71 : decode cX9_addWays 71 = .ok (.iload 4, 2) := by decide +kernel
theorem dX9_addWays_73 : decode cX9_addWays 73 = .ok (.invokevirtual 234, 3) := by decide +kernel
theorem dX9_addWays_76 : decode cX9_addWays 76 = .ok (.i2l, 1) := by decide +kernel
theorem dX9_addWays_77 : decode cX9_addWays 77 = .ok (.invokevirtual 312, 3) := by decide +kernel
theorem dX9_addWays_80 : decode cX9_addWays 80 = .ok (.iinc 4 1, 3) := by decide +kernel
theorem dX9_addWays_83 : decode cX9_addWays 83 = .ok (.goto (-32), 3) := by decide +kernel
theorem dX9_addWays_86 : decode cX9_addWays 86 = .ok (.return_, 1) := by decide +kernel
set_option maxRecDepth 20000 in
theorem ggX9_countOpenCells_X0_cellsInFields : GoodIn wsX9_countOpenCells wsX0_cellsInFields := goodIn_r _ [6, 7, 8, 9, 10, 27, 28, 29, 30] (by decide +kernel) (by decide +kernel)
set_option maxRecDepth 20000 in
theorem gX9_countOpenCells_X0_cellsInFields : GoodIn wsX9_countOpenCells (wsV RX9 134 RX0 yX0_cellsInFields wsX0_cellsInFields) := goodIn_app (goodIn_of _ (by decide +kernel)) ggX9_countOpenCells_X0_cellsInFields
set_option maxRecDepth 20000 in
theorem ggX9_countOpenCells_J13_bitCount_95d88 : GoodIn wsX9_countOpenCells wsJ13_bitCount_95d88 := goodIn_r _ [14, 15, 16, 17] (by decide +kernel) (by decide +kernel)
set_option maxRecDepth 20000 in
theorem gX9_countOpenCells_J13_bitCount_95d88 : GoodIn wsX9_countOpenCells (va_wsS RX9 113 yJ13_bitCount_95d88 wsJ13_bitCount_95d88) := goodIn_app (goodIn_of _ (by decide +kernel)) ggX9_countOpenCells_J13_bitCount_95d88
theorem dX9_countOpenCells_0 : decode cX9_countOpenCells 0 = .ok (.bipush 42, 2) := by decide +kernel
theorem dX9_countOpenCells_2 : decode cX9_countOpenCells 2 = .ok (.aload_n 0, 1) := by decide +kernel
theorem dX9_countOpenCells_3 : decode cX9_countOpenCells 3 = .ok (.getfield 12, 3) := by decide +kernel
theorem dX9_countOpenCells_6 : decode cX9_countOpenCells 6 = .ok (.invokevirtual 134, 3) := by decide +kernel
theorem dX9_countOpenCells_9 : decode cX9_countOpenCells 9 = .ok (.invokestatic 113, 3) := by decide +kernel
theorem dX9_countOpenCells_12 : decode cX9_countOpenCells 12 = .ok (.isub, 1) := by decide +kernel
theorem dX9_countOpenCells_13 : decode cX9_countOpenCells 13 = .ok (.ireturn, 1) := by decide +kernel
set_option maxRecDepth 20000 in
theorem ggX9_rowHasField_X9_cellAt : GoodIn wsX9_rowHasField wsX9_cellAt := goodIn_r _ [5] (by decide +kernel) (by decide +kernel)
set_option maxRecDepth 20000 in
theorem gX9_rowHasField_X9_cellAt : GoodIn wsX9_rowHasField (va_wsS RX9 123 yX9_cellAt wsX9_cellAt) := goodIn_app (goodIn_of _ (by decide +kernel)) ggX9_rowHasField_X9_cellAt
set_option maxRecDepth 20000 in
theorem ggX9_rowHasField_X0_hasField : GoodIn wsX9_rowHasField wsX0_hasField := goodIn_r _ [10, 11, 12, 4, 13, 23, 24, 25, 26] (by decide +kernel) (by decide +kernel)
set_option maxRecDepth 20000 in
theorem gX9_rowHasField_X0_hasField : GoodIn wsX9_rowHasField (wsV RX9 81 RX0 yX0_hasField wsX0_hasField) := goodIn_app (goodIn_of _ (by decide +kernel)) ggX9_rowHasField_X0_hasField
theorem dX9_rowHasField_0 : decode cX9_rowHasField 0 = .ok (.iconst 0, 1) := by decide +kernel
theorem dX9_rowHasField_1 : decode cX9_rowHasField 1 = .ok (.istore_n 2, 1) := by decide +kernel
theorem dX9_rowHasField_2 : decode cX9_rowHasField 2 = .ok (.iload_n 2, 1) := by decide +kernel
theorem dX9_rowHasField_3 : decode cX9_rowHasField 3 = .ok (.bipush 7, 2) := by decide +kernel
theorem dX9_rowHasField_5 : decode cX9_rowHasField 5 = .ok (.if_icmp .ge 26, 3) := by decide +kernel
theorem dX9_rowHasField_8 : decode cX9_rowHasField 8 = .ok (.aload_n 0, 1) := by decide +kernel
theorem dX9_rowHasField_9 : decode cX9_rowHasField 9 = .ok (.getfield 12, 3) := by decide +kernel
theorem dX9_rowHasField_12 : decode cX9_rowHasField 12 = .ok (.iload_n 1, 1) := by decide +kernel
theorem dX9_rowHasField_13 : decode cX9_rowHasField 13 = .ok (.iload_n 2, 1) := by decide +kernel
theorem dX9_rowHasField_14 : decode cX9_rowHasField 14 = .ok (.invokestatic 123, 3) := by decide +kernel
theorem dX9_rowHasField_17 : decode cX9_rowHasField 17 = .ok (.invokevirtual 81, 3) := by decide +kernel
theorem dX9_rowHasField_20 : decode cX9_rowHasField 20 = .ok (.ifCond .eq 5, 3) := by decide +kernel
theorem dX9_rowHasField_23 : decode cX9_rowHasField 23 = .ok (.iconst 1, 1) := by decide +kernel
theorem dX9_rowHasField_24 : decode cX9_rowHasField 24 = .ok (.ireturn, 1) := by decide +kernel
theorem dX9_rowHasField_25 : decode cX9_rowHasField 25 = .ok (.iinc 2 1, 3) := by decide +kernel
theorem dX9_rowHasField_28 : decode cX9_rowHasField 28 = .ok (.goto (-26), 3) := by decide +kernel
theorem dX9_rowHasField_31 : decode cX9_rowHasField 31 = .ok (.iconst 0, 1) := by decide +kernel
theorem dX9_rowHasField_32 : decode cX9_rowHasField 32 = .ok (.ireturn, 1) := by decide +kernel
set_option maxRecDepth 20000 in
theorem ggX9_checkedFieldCell_X9_checkedCell : GoodIn wsX9_checkedFieldCell wsX9_checkedCell := goodIn_ca (goodIn_r _ [7, 8, 9, 10, 11, 6, 12] (by decide +kernel) (by decide +kernel)) (goodIn_sub (fun _ h => List.mem_cons_of_mem _ (List.mem_append_right _ h)) (by decide +kernel))
set_option maxRecDepth 20000 in
theorem gX9_checkedFieldCell_X9_checkedCell : GoodIn wsX9_checkedFieldCell (va_wsS RX9 70 yX9_checkedCell wsX9_checkedCell) := goodIn_app (goodIn_of _ (by decide +kernel)) ggX9_checkedFieldCell_X9_checkedCell
set_option maxRecDepth 20000 in
theorem ggX9_checkedFieldCell_X0_hasField : GoodIn wsX9_checkedFieldCell wsX0_hasField := goodIn_r _ [17, 18, 19, 6, 20, 30, 31, 32, 33] (by decide +kernel) (by decide +kernel)
set_option maxRecDepth 20000 in
theorem gX9_checkedFieldCell_X0_hasField : GoodIn wsX9_checkedFieldCell (wsV RX9 81 RX0 yX0_hasField wsX0_hasField) := goodIn_app (goodIn_of _ (by decide +kernel)) ggX9_checkedFieldCell_X0_hasField
theorem dX9_checkedFieldCell_0 : decode cX9_checkedFieldCell 0 = .ok (.iload_n 1, 1) := by decide +kernel
theorem dX9_checkedFieldCell_1 : decode cX9_checkedFieldCell 1 = .ok (.iload_n 2, 1) := by decide +kernel
theorem dX9_checkedFieldCell_2 : decode cX9_checkedFieldCell 2 = .ok (.invokestatic 70, 3) := by decide +kernel
theorem dX9_checkedFieldCell_5 : decode cX9_checkedFieldCell 5 = .ok (.istore_n 3, 1) := by decide +kernel
theorem dX9_checkedFieldCell_6 : decode cX9_checkedFieldCell 6 = .ok (.aload_n 0, 1) := by decide +kernel
theorem dX9_checkedFieldCell_7 : decode cX9_checkedFieldCell 7 = .ok (.getfield 12, 3) := by decide +kernel
theorem dX9_checkedFieldCell_10 : decode cX9_checkedFieldCell 10 = .ok (.iload_n 3, 1) := by decide +kernel
theorem dX9_checkedFieldCell_11 : decode cX9_checkedFieldCell 11 = .ok (.invokevirtual 81, 3) := by decide +kernel
theorem dX9_checkedFieldCell_14 : decode cX9_checkedFieldCell 14 = .ok (.ifCond .ne 14, 3) := by decide +kernel
theorem dX9_checkedFieldCell_17 : decode cX9_checkedFieldCell 17 = .ok (.new 85, 3) := by decide +kernel
theorem dX9_checkedFieldCell_20 : decode cX9_checkedFieldCell 20 = .ok (.dup, 1) := by decide +kernel
theorem dX9_checkedFieldCell_21 : decode cX9_checkedFieldCell 21 = .ok (.ldc_w 332, 3) := by decide +kernel
theorem dX9_checkedFieldCell_24 : decode cX9_checkedFieldCell 24 = .ok (.invokespecial 89, 3) := by decide +kernel
theorem dX9_checkedFieldCell_27 : decode cX9_checkedFieldCell 27 = .ok (.athrow, 1) := by decide +kernel
theorem dX9_checkedFieldCell_28 : decode cX9_checkedFieldCell 28 = .ok (.iload_n 3, 1) := by decide +kernel
theorem dX9_checkedFieldCell_29 : decode cX9_checkedFieldCell 29 = .ok (.ireturn, 1) := by decide +kernel
set_option maxRecDepth 20000 in
theorem ggX9_runWithoutContradiction_X8_run : GoodIn wsX9_runWithoutContradiction wsX8_run := goodIn_r _ [9, 10, 11, 12, 13, 14, 15, 16, 17, 18, 19, 20, 21, 22, 23, 24, 25, 26, 27, 28, 29, 30, 31, 32, 33, 34, 35, 36, 37, 38, 39, 40, 41, 42, 43, 44, 45, 46, 47, 48, 49, 50, 51, 52, 53, 54, 55, 56, 57, 58, 59, 60, 61, 62, 63, 64, 65, 66, 67, 68, 69, 70, 71, 72, 73, 74, 75, 76, 77, 78, 8, 79, 80, 81, 82, 83, 84, 85, 86, 87, 88, 89, 90, 91, 92, 93, 94, 95, 96, 97, 98, 99, 116, 117, 118, 119, 120, 121, 122, 123, 124, 125, 126, 127, 128, 129, 130, 131, 132, 133, 134] (by decide +kernel) (by decide +kernel)
set_option maxRecDepth 20000 in
theorem gX9_runWithoutContradiction_X8_run : GoodIn wsX9_runWithoutContradiction (wsV RX9 263 RX8 yX8_run wsX8_run) := goodIn_app (goodIn_of _ (by decide +kernel)) ggX9_runWithoutContradiction_X8_run
set_option maxRecDepth 20000 in
theorem ggX9_runWithoutContradiction_X8_endsInContradiction : GoodIn wsX9_runWithoutContradiction wsX8_endsInContradiction := goodIn_r _ [103, 14, 80, 13, 104, 31, 105, 106, 30, 32, 97, 98, 8, 99, 116, 117, 118, 119, 120, 121, 122] (by decide +kernel) (by decide +kernel)
set_option maxRecDepth 20000 in
theorem gX9_runWithoutContradiction_X8_endsInContradiction : GoodIn wsX9_runWithoutContradiction (wsV RX9 275 RX8 yX8_endsInContradiction wsX8_endsInContradiction) := goodIn_app (goodIn_of _ (by decide +kernel)) ggX9_runWithoutContradiction_X8_endsInContradiction
theorem dX9_runWithoutContradiction_0 : decode cX9_runWithoutContradiction 0 = .ok (.aload_n 0, 1) := by decide +kernel
theorem dX9_runWithoutContradiction_1 : decode cX9_runWithoutContradiction 1 = .ok (.getfield 52, 3) := by decide +kernel
theorem dX9_runWithoutContradiction_4 : decode cX9_runWithoutContradiction 4 = .ok (.aload_n 0, 1) := by decide +kernel
theorem dX9_runWithoutContradiction_5 : decode cX9_runWithoutContradiction 5 = .ok (.getfield 12, 3) := by decide +kernel
theorem dX9_runWithoutContradiction_8 : decode cX9_runWithoutContradiction 8 = .ok (.invokevirtual 263, 3) := by decide +kernel
theorem dX9_runWithoutContradiction_11 : decode cX9_runWithoutContradiction 11 = .ok (.aload_n 0, 1) := by decide +kernel
theorem dX9_runWithoutContradiction_12 : decode cX9_runWithoutContradiction 12 = .ok (.getfield 52, 3) := by decide +kernel
theorem dX9_runWithoutContradiction_15 : decode cX9_runWithoutContradiction 15 = .ok (.invokevirtual 275, 3) := by decide +kernel
theorem dX9_runWithoutContradiction_18 : decode cX9_runWithoutContradiction 18 = .ok (.ifCond .eq 14, 3) := by decide +kernel
theorem dX9_runWithoutContradiction_21 : decode cX9_runWithoutContradiction 21 = .ok (.new 85, 3) := by decide +kernel
theorem dX9_runWithoutContradiction_24 : decode cX9_runWithoutContradiction 24 = .ok (.dup, 1) := by decide +kernel
theorem dX9_runWithoutContradiction_25 : decode cX9_runWithoutContradiction 25 = .ok (.ldc_w 334, 3) := by decide +kernel
theorem dX9_runWithoutContradiction_28 : decode cX9_runWithoutContradiction 28 = .ok (.invokespecial 89, 3) := by decide +kernel
theorem dX9_runWithoutContradiction_31 : decode cX9_runWithoutContradiction 31 = .ok (.athrow, 1) := by decide +kernel
theorem dX9_runWithoutContradiction_32 : decode cX9_runWithoutContradiction 32 = .ok (.return_, 1) := by decide +kernel
set_option maxRecDepth 20000 in
theorem ggX9_findFirstWay_X1_countWays : GoodIn wsX9_findFirstWay wsX1_countWays := goodIn_r _ [8, 9, 10, 11, 12, 13, 14, 15, 16, 17, 18, 19, 20, 21, 22, 23, 24, 25, 26, 27, 28, 29, 30, 31, 32, 33, 34, 35, 36, 37, 38, 39, 40, 41, 42, 43, 44, 45, 46, 47, 48, 49, 50, 51, 52, 53, 54, 55, 56, 57, 58, 59, 60, 61, 62, 63, 64, 65, 66, 67, 68, 69, 70, 71, 72, 73, 74, 75, 76, 77, 78, 79, 80, 81, 82, 83, 84, 7, 85, 86, 87, 88, 89, 90, 91, 92, 93, 94, 95, 96, 97, 98, 99, 100, 101, 102, 103, 104, 105, 106, 107, 108, 109, 110, 111, 112, 113, 114, 115, 116, 117, 118, 119, 120, 121, 122, 123, 133, 134, 135, 136, 137, 138, 139, 140, 141, 142, 143, 144, 145, 146, 147, 148, 149] (by decide +kernel) (by decide +kernel)
set_option maxRecDepth 20000 in
theorem gX9_findFirstWay_X1_countWays : GoodIn wsX9_findFirstWay (wsV RX9 289 RX1 yX1_countWays wsX1_countWays) := goodIn_app (goodIn_of _ (by decide +kernel)) ggX9_findFirstWay_X1_countWays
theorem dX9_findFirstWay_0 : decode cX9_findFirstWay 0 = .ok (.aload_n 0, 1) := by decide +kernel
theorem dX9_findFirstWay_1 : decode cX9_findFirstWay 1 = .ok (.getfield 66, 3) := by decide +kernel
theorem dX9_findFirstWay_4 : decode cX9_findFirstWay 4 = .ok (.aload_n 1, 1) := by decide +kernel
theorem dX9_findFirstWay_5 : decode cX9_findFirstWay 5 = .ok (.iconst 1, 1) := by decide +kernel
theorem dX9_findFirstWay_6 : decode cX9_findFirstWay 6 = .ok (.invokevirtual 289, 3) := by decide +kernel
theorem dX9_findFirstWay_9 : decode cX9_findFirstWay 9 = .ok (.ifCond .ne 14, 3) := by decide +kernel
theorem dX9_findFirstWay_12 : decode cX9_findFirstWay 12 = .ok (.new 85, 3) := by decide +kernel
theorem dX9_findFirstWay_15 : decode cX9_findFirstWay 15 = .ok (.dup, 1) := by decide +kernel
theorem dX9_findFirstWay_16 : decode cX9_findFirstWay 16 = .ok (.ldc_w 336, 3) := by decide +kernel
theorem dX9_findFirstWay_19 : decode cX9_findFirstWay 19 = .ok (.invokespecial 89, 3) := by decide +kernel
theorem dX9_findFirstWay_22 : decode cX9_findFirstWay 22 = .ok (.athrow, 1) := by decide +kernel
theorem dX9_findFirstWay_23 : decode cX9_findFirstWay 23 = .ok (.return_, 1) := by decide +kernel
set_option maxRecDepth 20000 in
theorem ggX9_checkedCell_X9_cellAt : GoodIn wsX9_checkedCell wsX9_cellAt := goodIn_r _ [6] (by decide +kernel) (by decide +kernel)
set_option maxRecDepth 20000 in
theorem gX9_checkedCell_X9_cellAt : GoodIn wsX9_checkedCell (va_wsS RX9 123 yX9_cellAt wsX9_cellAt) := goodIn_app (goodIn_of _ (by decide +kernel)) ggX9_checkedCell_X9_cellAt
theorem dX9_checkedCell_0 : decode cX9_checkedCell 0 = .ok (.iload_n 0, 1) := by decide +kernel
theorem dX9_checkedCell_1 : decode cX9_checkedCell 1 = .ok (.ifCond .lt 19, 3) := by decide +kernel
theorem dX9_checkedCell_4 : decode cX9_checkedCell 4 = .ok (.iload_n 0, 1) := by decide +kernel
theorem dX9_checkedCell_5 : decode cX9_checkedCell 5 = .ok (.bipush 6, 2) := by decide +kernel
theorem dX9_checkedCell_7 : decode cX9_checkedCell 7 = .ok (.if_icmp .ge 13, 3) := by decide +kernel
theorem dX9_checkedCell_10 : decode cX9_checkedCell 10 = .ok (.iload_n 1, 1) := by decide +kernel
theorem dX9_checkedCell_11 : decode cX9_checkedCell 11 = .ok (.ifCond .lt 9, 3) := by decide +kernel
theorem dX9_checkedCell_14 : decode cX9_checkedCell 14 = .ok (.iload_n 1, 1) := by decide +kernel
theorem dX9_checkedCell_15 : decode cX9_checkedCell 15 = .ok (.bipush 7, 2) := by decide +kernel
theorem dX9_checkedCell_17 : decode cX9_checkedCell 17 = .ok (.if_icmp .lt 14, 3) := by decide +kernel
theorem dX9_checkedCell_20 : decode cX9_checkedCell 20 = .ok (.new 187, 3) := by decide +kernel
theorem dX9_checkedCell_23 : decode cX9_checkedCell 23 = .ok (.dup, 1) := by decide +kernel
theorem dX9_checkedCell_24 : decode cX9_checkedCell 24 = .ok (.ldc_w 338, 3) := by decide +kernel
theorem dX9_checkedCell_27 : decode cX9_checkedCell 27 = .ok (.invokespecial 191, 3) := by decide +kernel
theorem dX9_checkedCell_30 : decode cX9_checkedCell 30 = .ok (.athrow, 1) := by decide +kernel
theorem dX9_checkedCell_31 : decode cX9_checkedCell 31 = .ok (.iload_n 0, 1) := by decide +kernel
theorem dX9_checkedCell_32 : decode cX9_checkedCell 32 = .ok (.iload_n 1, 1) := by decide +kernel
theorem dX9_checkedCell_33 : decode cX9_checkedCell 33 = .ok (.invokestatic 123, 3) := by decide +kernel
theorem dX9_checkedCell_36 : decode cX9_checkedCell 36 = .ok (.ireturn, 1) := by decide +kernel
theorem dX9_checkRectangle_0 : decode cX9_checkRectangle 0 = .ok (.iload_n 0, 1) := by decide +kernel
theorem dX9_checkRectangle_1 : decode cX9_checkRectangle 1 = .ok (.ifCond .lt 29, 3) := by decide +kernel
theorem dX9_checkRectangle_4 : decode cX9_checkRectangle 4 = .ok (.iload_n 2, 1) := by decide +kernel
theorem dX9_checkRectangle_5 : decode cX9_checkRectangle 5 = .ok (.iload_n 0, 1) := by decide +kernel
theorem dX9_checkRectangle_6 : decode cX9_checkRectangle 6 = .ok (.if_icmp .lt 24, 3) := by decide +kernel
theorem dX9_checkRectangle_9 : decode cX9_checkRectangle 9 = .ok (.iload_n 2, 1) := by decide +kernel
theorem dX9_checkRectangle_10 : decode cX9_checkRectangle 10 = .ok (.bipush 6, 2) := by decide +kernel
theorem dX9_checkRectangle_12 : decode cX9_checkRectangle 12 = .ok (.if_icmp .ge 18, 3) := by decide +kernel
theorem dX9_checkRectangle_15 : decode cX9_checkRectangle 15 = .ok (.iload_n 1, 1) := by decide +kernel
theorem dX9_checkRectangle_16 : decode cX9_checkRectangle 16 = .ok (.ifCond .lt 14, 3) := by decide +kernel
theorem dX9_checkRectangle_19 : decode cX9_checkRectangle 19 = .ok (.iload_n 3, 1) := by decide +kernel
theorem dX9_checkRectangle_20 : decode cX9_checkRectangle 20 = .ok (.iload_n 1, 1) := by decide +kernel
theorem dX9_checkRectangle_21 : decode cX9_checkRectangle 21 = .ok (.if_icmp .lt 9, 3) := by decide +kernel
theorem dX9_checkRectangle_24 : decode cX9_checkRectangle 24 = .ok (.iload_n 3, 1) := by decide +kernel
theorem dX9_checkRectangle_25 : decode cX9_checkRectangle 25 = .ok (.bipush 7, 2) := by decide +kernel
theorem dX9_checkRectangle_27 : decode cX9_checkRectangle 27 = .ok (.if_icmp .lt 14, 3) := by decide +kernel
theorem dX9_checkRectangle_30 : decode cX9_checkRectangle 30 = .ok (.new 187, 3) := by decide +kernel
theorem dX9_checkRectangle_33 : decode cX9_checkRectangle 33 = .ok (.dup, 1) := by decide +kernel
theorem dX9_checkRectangle_34 : decode cX9_checkRectangle 34 = .ok (.ldc_w 340, 3) := by decide +kernel
theorem dX9_checkRectangle_37 : decode cX9_checkRectangle 37 = .ok (.invokespecial 191, 3) := by decide +kernel
theorem dX9_checkRectangle_40 : decode cX9_checkRectangle 40 = .ok (.athrow, 1) := by decide +kernel
theorem dX9_checkRectangle_41 : decode cX9_checkRectangle 41 = .ok (.return_, 1) := by decide +kernel
theorem dX9_checkSlot_0 : decode cX9_checkSlot 0 = .ok (.iload_n 0, 1) := by decide +kernel
theorem dX9_checkSlot_1 : decode cX9_checkSlot 1 = .ok (.ifCond .lt 8, 3) := by decide +kernel
theorem dX9_checkSlot_4 : decode cX9_checkSlot 4 = .ok (.iload_n 0, 1) := by decide +kernel
theorem dX9_checkSlot_5 : decode cX9_checkSlot 5 = .ok (.iconst 2, 1) := by decide +kernel
theorem dX9_checkSlot_6 : decode cX9_checkSlot 6 = .ok (.if_icmp .lt 14, 3) := by decide +kernel
theorem dX9_checkSlot_9 : decode cX9_checkSlot 9 = .ok (.new 74, 3) := by decide +kernel
theorem dX9_checkSlot_12 : decode cX9_checkSlot 12 = .ok (.dup, 1) := by decide +kernel
theorem dX9_checkSlot_13 : decode cX9_checkSlot 13 = .ok (.ldc_w 342, 3) := by decide +kernel
theorem dX9_checkSlot_16 : decode cX9_checkSlot 16 = .ok (.invokespecial 78, 3) := by decide +kernel
theorem dX9_checkSlot_19 : decode cX9_checkSlot 19 = .ok (.athrow, 1) := by decide +kernel
theorem dX9_checkSlot_20 : decode cX9_checkSlot 20 = .ok (.return_, 1) := by decide +kernel
theorem dX9_cellAt_0 : decode cX9_cellAt 0 = .ok (.iload_n 0, 1) := by decide +kernel
theorem dX9_cellAt_1 : decode cX9_cellAt 1 = .ok (.bipush 7, 2) := by decide +kernel
theorem dX9_cellAt_3 : decode cX9_cellAt 3 = .ok (.imul, 1) := by decide +kernel
theorem dX9_cellAt_4 : decode cX9_cellAt 4 = .ok (.iload_n 1, 1) := by decide +kernel
theorem dX9_cellAt_5 : decode cX9_cellAt 5 = .ok (.iadd, 1) := by decide +kernel
theorem dX9_cellAt_6 : decode cX9_cellAt 6 = .ok (.ireturn, 1) := by decide +kernel
theorem dX9_isCell_0 : decode cX9_isCell 0 = .ok (.iload_n 0, 1) := by decide +kernel
theorem dX9_isCell_1 : decode cX9_isCell 1 = .ok (.ifCond .lt 13, 3) := by decide +kernel
theorem dX9_isCell_4 : decode cX9_isCell 4 = .ok (.iload_n 0, 1) := by decide +kernel
theorem dX9_isCell_5 : decode cX9_isCell 5 = .ok (.bipush 42, 2) := by decide +kernel
theorem dX9_isCell_7 : decode cX9_isCell 7 = .ok (.if_icmp .ge 7, 3) := by decide +kernel
theorem dX9_isCell_10 : decode cX9_isCell 10 = .ok (.iconst 1, 1) := by decide +kernel
theorem dX9_isCell_11 : decode cX9_isCell 11 = .ok (.goto 4, 3) := by decide +kernel
theorem dX9_isCell_14 : decode cX9_isCell 14 = .ok (.iconst 0, 1) := by decide +kernel
theorem dX9_isCell_15 : decode cX9_isCell 15 = .ok (.ireturn, 1) := by decide +kernel
theorem dX9_bit_0 : decode cX9_bit 0 = .ok (.iload_n 0, 1) := by decide +kernel
theorem dX9_bit_1 : decode cX9_bit 1 = .ok (.ifCond .lt 15, 3) := by decide +kernel
theorem dX9_bit_4 : decode cX9_bit 4 = .ok (.iload_n 0, 1) := by decide +kernel
theorem dX9_bit_5 : decode cX9_bit 5 = .ok (.bipush 42, 2) := by decide +kernel
theorem dX9_bit_7 : decode cX9_bit 7 = .ok (.if_icmp .ge 9, 3) := by decide +kernel
theorem dX9_bit_10 : decode cX9_bit 10 = .ok (.lconst 1, 1) := by decide +kernel
theorem dX9_bit_11 : decode cX9_bit 11 = .ok (.iload_n 0, 1) := by decide +kernel
theorem dX9_bit_12 : decode cX9_bit 12 = .ok (.lshl, 1) := by decide +kernel
theorem dX9_bit_13 : decode cX9_bit 13 = .ok (.goto 4, 3) := by decide +kernel
theorem dX9_bit_16 : decode cX9_bit 16 = .ok (.lconst 0, 1) := by decide +kernel
theorem dX9_bit_17 : decode cX9_bit 17 = .ok (.lreturn, 1) := by decide +kernel
set_option maxRecDepth 20000 in
theorem ggX9_has_X9_bit : GoodIn wsX9_has wsX9_bit := goodIn_r _ [4] (by decide +kernel) (by decide +kernel)
set_option maxRecDepth 20000 in
theorem gX9_has_X9_bit : GoodIn wsX9_has (va_wsS RX9 344 yX9_bit wsX9_bit) := goodIn_app (goodIn_of _ (by decide +kernel)) ggX9_has_X9_bit
theorem dX9_has_0 : decode cX9_has 0 = .ok (.lload_n 0, 1) := by decide +kernel
theorem dX9_has_1 : decode cX9_has 1 = .ok (.iload_n 2, 1) := by decide +kernel
theorem dX9_has_2 : decode cX9_has 2 = .ok (.invokestatic 344, 3) := by decide +kernel
theorem dX9_has_5 : decode cX9_has 5 = .ok (.land, 1) := by decide +kernel
theorem dX9_has_6 : decode cX9_has 6 = .ok (.lconst 0, 1) := by decide +kernel
theorem dX9_has_7 : decode cX9_has 7 = .ok (.lcmp, 1) := by decide +kernel
theorem dX9_has_8 : decode cX9_has 8 = .ok (.ifCond .eq 7, 3) := by decide +kernel
theorem dX9_has_11 : decode cX9_has 11 = .ok (.iconst 1, 1) := by decide +kernel
theorem dX9_has_12 : decode cX9_has 12 = .ok (.goto 4, 3) := by decide +kernel
theorem dX9_has_15 : decode cX9_has 15 = .ok (.iconst 0, 1) := by decide +kernel
theorem dX9_has_16 : decode cX9_has 16 = .ok (.ireturn, 1) := by decide +kernel
set_option maxRecDepth 20000 in
theorem ggX9_lowestCell_J13_bitCount_95d88 : GoodIn wsX9_lowestCell wsJ13_bitCount_95d88 := goodIn_r _ [4, 5, 6, 7] (by decide +kernel) (by decide +kernel)
set_option maxRecDepth 20000 in
theorem gX9_lowestCell_J13_bitCount_95d88 : GoodIn wsX9_lowestCell (va_wsS RX9 113 yJ13_bitCount_95d88 wsJ13_bitCount_95d88) := goodIn_app (goodIn_of _ (by decide +kernel)) ggX9_lowestCell_J13_bitCount_95d88
theorem dX9_lowestCell_0 : decode cX9_lowestCell 0 = .ok (.lload_n 0, 1) := by decide +kernel
theorem dX9_lowestCell_1 : decode cX9_lowestCell 1 = .ok (.lconst 0, 1) := by decide +kernel
theorem dX9_lowestCell_2 : decode cX9_lowestCell 2 = .ok (.lcmp, 1) := by decide +kernel
theorem dX9_lowestCell_3 : decode cX9_lowestCell 3 = .ok (.ifCond .ne 8, 3) := by decide +kernel
theorem dX9_lowestCell_6 : decode cX9_lowestCell 6 = .ok (.bipush 42, 2) := by decide +kernel
theorem dX9_lowestCell_8 : decode cX9_lowestCell 8 = .ok (.goto 12, 3) := by decide +kernel
theorem dX9_lowestCell_11 : decode cX9_lowestCell 11 = .ok (.lload_n 0, 1) := by decide +kernel
theorem dX9_lowestCell_12 : decode cX9_lowestCell 12 = .ok (.lload_n 0, 1) := by decide +kernel
theorem dX9_lowestCell_13 : decode cX9_lowestCell 13 = .ok (.lneg, 1) := by decide +kernel
theorem dX9_lowestCell_14 : decode cX9_lowestCell 14 = .ok (.land, 1) := by decide +kernel
theorem dX9_lowestCell_15 : decode cX9_lowestCell 15 = .ok (.lconst 1, 1) := by decide +kernel
theorem dX9_lowestCell_16 : decode cX9_lowestCell 16 = .ok (.lsub, 1) := by decide +kernel
theorem dX9_lowestCell_17 : decode cX9_lowestCell 17 = .ok (.invokestatic 113, 3) := by decide +kernel
theorem dX9_lowestCell_20 : decode cX9_lowestCell 20 = .ok (.ireturn, 1) := by decide +kernel
theorem dX9_rowsOf_0 : decode cX9_rowsOf 0 = .ok (.iload_n 1, 1) := by decide +kernel
theorem dX9_rowsOf_1 : decode cX9_rowsOf 1 = .ok (.bipush 7, 2) := by decide +kernel
theorem dX9_rowsOf_3 : decode cX9_rowsOf 3 = .ok (.idiv, 1) := by decide +kernel
theorem dX9_rowsOf_4 : decode cX9_rowsOf 4 = .ok (.iload_n 0, 1) := by decide +kernel
theorem dX9_rowsOf_5 : decode cX9_rowsOf 5 = .ok (.bipush 7, 2) := by decide +kernel
theorem dX9_rowsOf_7 : decode cX9_rowsOf 7 = .ok (.idiv, 1) := by decide +kernel
theorem dX9_rowsOf_8 : decode cX9_rowsOf 8 = .ok (.isub, 1) := by decide +kernel
theorem dX9_rowsOf_9 : decode cX9_rowsOf 9 = .ok (.iconst 1, 1) := by decide +kernel
theorem dX9_rowsOf_10 : decode cX9_rowsOf 10 = .ok (.iadd, 1) := by decide +kernel
theorem dX9_rowsOf_11 : decode cX9_rowsOf 11 = .ok (.ireturn, 1) := by decide +kernel
theorem dX9_columnsOf_0 : decode cX9_columnsOf 0 = .ok (.iload_n 1, 1) := by decide +kernel
theorem dX9_columnsOf_1 : decode cX9_columnsOf 1 = .ok (.bipush 7, 2) := by decide +kernel
theorem dX9_columnsOf_3 : decode cX9_columnsOf 3 = .ok (.irem, 1) := by decide +kernel
theorem dX9_columnsOf_4 : decode cX9_columnsOf 4 = .ok (.iload_n 0, 1) := by decide +kernel
theorem dX9_columnsOf_5 : decode cX9_columnsOf 5 = .ok (.bipush 7, 2) := by decide +kernel
theorem dX9_columnsOf_7 : decode cX9_columnsOf 7 = .ok (.irem, 1) := by decide +kernel
theorem dX9_columnsOf_8 : decode cX9_columnsOf 8 = .ok (.isub, 1) := by decide +kernel
theorem dX9_columnsOf_9 : decode cX9_columnsOf 9 = .ok (.iconst 1, 1) := by decide +kernel
theorem dX9_columnsOf_10 : decode cX9_columnsOf 10 = .ok (.iadd, 1) := by decide +kernel
theorem dX9_columnsOf_11 : decode cX9_columnsOf 11 = .ok (.ireturn, 1) := by decide +kernel
set_option maxRecDepth 20000 in
theorem ggX9_sizeOf_X9_rowsOf : GoodIn wsX9_sizeOf wsX9_rowsOf := goodIn_r _ [4] (by decide +kernel) (by decide +kernel)
set_option maxRecDepth 20000 in
theorem gX9_sizeOf_X9_rowsOf : GoodIn wsX9_sizeOf (va_wsS RX9 348 yX9_rowsOf wsX9_rowsOf) := goodIn_app (goodIn_of _ (by decide +kernel)) ggX9_sizeOf_X9_rowsOf
set_option maxRecDepth 20000 in
theorem ggX9_sizeOf_X9_columnsOf : GoodIn wsX9_sizeOf wsX9_columnsOf := goodIn_r _ [7] (by decide +kernel) (by decide +kernel)
set_option maxRecDepth 20000 in
theorem gX9_sizeOf_X9_columnsOf : GoodIn wsX9_sizeOf (va_wsS RX9 351 yX9_columnsOf wsX9_columnsOf) := goodIn_app (goodIn_of _ (by decide +kernel)) ggX9_sizeOf_X9_columnsOf
theorem dX9_sizeOf_0 : decode cX9_sizeOf 0 = .ok (.iload_n 0, 1) := by decide +kernel
theorem dX9_sizeOf_1 : decode cX9_sizeOf 1 = .ok (.iload_n 1, 1) := by decide +kernel
theorem dX9_sizeOf_2 : decode cX9_sizeOf 2 = .ok (.invokestatic 348, 3) := by decide +kernel
theorem dX9_sizeOf_5 : decode cX9_sizeOf 5 = .ok (.iload_n 0, 1) := by decide +kernel
theorem dX9_sizeOf_6 : decode cX9_sizeOf 6 = .ok (.iload_n 1, 1) := by decide +kernel
theorem dX9_sizeOf_7 : decode cX9_sizeOf 7 = .ok (.invokestatic 351, 3) := by decide +kernel
theorem dX9_sizeOf_10 : decode cX9_sizeOf 10 = .ok (.imul, 1) := by decide +kernel
theorem dX9_sizeOf_11 : decode cX9_sizeOf 11 = .ok (.ireturn, 1) := by decide +kernel
theorem dX9_isInside_0 : decode cX9_isInside 0 = .ok (.iload_n 0, 1) := by decide +kernel
theorem dX9_isInside_1 : decode cX9_isInside 1 = .ok (.bipush 7, 2) := by decide +kernel
theorem dX9_isInside_3 : decode cX9_isInside 3 = .ok (.irem, 1) := by decide +kernel
theorem dX9_isInside_4 : decode cX9_isInside 4 = .ok (.istore_n 3, 1) := by decide +kernel
theorem dX9_isInside_5 : decode cX9_isInside 5 = .ok (.iload_n 0, 1) := by decide +kernel
theorem dX9_isInside_6 : decode cX9_isInside 6 = .ok (.iload_n 1, 1) := by decide +kernel
theorem dX9_isInside_7 : decode cX9_isInside 7 = .ok (.if_icmp .lt 28, 3) := by decide +kernel
theorem dX9_isInside_10 : decode cX9_isInside 10 = .ok (.iload_n 0, 1) := by decide +kernel
theorem dX9_isInside_11 : decode cX9_isInside 11 = .ok (.iload_n 2, 1) := by decide +kernel
theorem dX9_isInside_12 : decode cX9_isInside 12 = .ok (.if_icmp .gt 23, 3) := by decide +kernel
theorem dX9_isInside_15 : decode cX9_isInside 15 = .ok (.iload_n 3, 1) := by decide +kernel
theorem dX9_isInside_16 : decode cX9_isInside 16 = .ok (.iload_n 1, 1) := by decide +kernel
theorem dX9_isInside_17 : decode cX9_isInside 17 = .ok (.bipush 7, 2) := by decide +kernel
theorem dX9_isInside_19 : decode cX9_isInside 19 = .ok (.irem, 1) := by decide +kernel
theorem dX9_isInside_20 : decode cX9_isInside 20 = .ok (.if_icmp .lt 15, 3) := by decide +kernel
theorem dX9_isInside_23 : decode cX9_isInside 23 = .ok (.iload_n 3, 1) := by decide +kernel
theorem dX9_isInside_24 : decode cX9_isInside 24 = .ok (.iload_n 2, 1) := by decide +kernel
theorem dX9_isInside_25 : decode cX9_isInside 25 = .ok (.bipush 7, 2) := by decide +kernel
theorem dX9_isInside_27 : decode cX9_isInside 27 = .ok (.irem, 1) := by decide +kernel
theorem dX9_isInside_28 : decode cX9_isInside 28 = .ok (.if_icmp .gt 7, 3) := by decide +kernel
theorem dX9_isInside_31 : decode cX9_isInside 31 = .ok (.iconst 1, 1) := by decide +kernel
theorem dX9_isInside_32 : decode cX9_isInside 32 = .ok (.goto 4, 3) := by decide +kernel
theorem dX9_isInside_35 : decode cX9_isInside 35 = .ok (.iconst 0, 1) := by decide +kernel
theorem dX9_isInside_36 : decode cX9_isInside 36 = .ok (.ireturn, 1) := by decide +kernel
set_option maxRecDepth 20000 in
theorem ggX9_cellsOf_X9_isInside : GoodIn wsX9_cellsOf wsX9_isInside := goodIn_r _ [4] (by decide +kernel) (by decide +kernel)
set_option maxRecDepth 20000 in
theorem gX9_cellsOf_X9_isInside : GoodIn wsX9_cellsOf (va_wsS RX9 354 yX9_isInside wsX9_isInside) := goodIn_app (goodIn_of _ (by decide +kernel)) ggX9_cellsOf_X9_isInside
set_option maxRecDepth 20000 in
theorem ggX9_cellsOf_X9_bit : GoodIn wsX9_cellsOf wsX9_bit := goodIn_r _ [7] (by decide +kernel) (by decide +kernel)
set_option maxRecDepth 20000 in
theorem gX9_cellsOf_X9_bit : GoodIn wsX9_cellsOf (va_wsS RX9 344 yX9_bit wsX9_bit) := goodIn_app (goodIn_of _ (by decide +kernel)) ggX9_cellsOf_X9_bit
theorem dX9_cellsOf_0 : decode cX9_cellsOf 0 = .ok (.lconst 0, 1) := by decide +kernel
theorem dX9_cellsOf_1 : decode cX9_cellsOf 1 = .ok (.lstore_n 2, 1) := by decide +kernel
theorem dX9_cellsOf_2 : decode cX9_cellsOf 2 = .ok (.iconst 0, 1) := by decide +kernel
theorem dX9_cellsOf_3 : decode cX9_cellsOf 3 = .ok (.istore 4, 2) := by decide +kernel
theorem dX9_cellsOf_5 : decode cX9_cellsOf 5 = .ok (.iload 4, 2) := by decide +kernel
theorem dX9_cellsOf_7 : decode cX9_cellsOf 7 = .ok (.bipush 42, 2) := by decide +kernel
theorem dX9_cellsOf_9 : decode cX9_cellsOf 9 = .ok (.if_icmp .ge 31, 3) := by decide +kernel
theorem dX9_cellsOf_12 : decode cX9_cellsOf 12 = .ok (.lload_n 2, 1) := by decide +kernel
theorem dX9_cellsOf_13 : decode cX9_cellsOf 13 = .ok (.iload 4, 2) := by decide +kernel
theorem dX9_cellsOf_15 : decode cX9_cellsOf 15 = .ok (.iload_n 0, 1) := by decide +kernel
theorem dX9_cellsOf_16 : decode cX9_cellsOf 16 = .ok (.iload_n 1, 1) := by decide +kernel
theorem dX9_cellsOf_17 : decode cX9_cellsOf 17 = .ok (.invokestatic 354, 3) := by decide +kernel
theorem dX9_cellsOf_20 : decode cX9_cellsOf 20 = .ok (.ifCond .eq 11, 3) := by decide +kernel
theorem dX9_cellsOf_23 : decode cX9_cellsOf 23 = .ok (.iload 4, 2) := by decide +kernel
theorem dX9_cellsOf_25 : decode cX9_cellsOf 25 = .ok (.invokestatic 344, 3) := by decide +kernel
theorem dX9_cellsOf_28 : decode cX9_cellsOf 28 = .ok (.goto 4, 3) := by decide +kernel
theorem dX9_cellsOf_31 : decode cX9_cellsOf 31 = .ok (.lconst 0, 1) := by decide +kernel
theorem dX9_cellsOf_32 : decode cX9_cellsOf 32 = .ok (.lor, 1) := by decide +kernel
theorem dX9_cellsOf_33 : decode cX9_cellsOf 33 = .ok (.lstore_n 2, 1) := by decide +kernel
theorem dX9_cellsOf_34 : decode cX9_cellsOf 34 = .ok (.iinc 4 1, 3) := by decide +kernel
theorem dX9_cellsOf_37 : decode cX9_cellsOf 37 = .ok (.goto (-32), 3) := by decide +kernel
theorem dX9_cellsOf_40 : decode cX9_cellsOf 40 = .ok (.lload_n 2, 1) := by decide +kernel
theorem dX9_cellsOf_41 : decode cX9_cellsOf 41 = .ok (.lreturn, 1) := by decide +kernel
