theorem dX0_init_0 : decode cX0_init 0 = .ok (.aload_n 0, 1) := by decide +kernel
theorem dX0_init_1 : decode cX0_init 1 = .ok (.invokespecial 3, 3) := by decide +kernel
theorem dX0_init_4 : decode cX0_init 4 = .ok (.aload_n 0, 1) := by decide +kernel
theorem dX0_init_5 : decode cX0_init 5 = .ok (.bipush 42, 2) := by decide +kernel
theorem dX0_init_7 : decode cX0_init 7 = .ok (.newarray .int, 2) := by decide +kernel
theorem dX0_init_9 : decode cX0_init 9 = .ok (.putfield 9, 3) := by decide +kernel
theorem dX0_init_12 : decode cX0_init 12 = .ok (.aload_n 0, 1) := by decide +kernel
theorem dX0_init_13 : decode cX0_init 13 = .ok (.bipush 42, 2) := by decide +kernel
theorem dX0_init_15 : decode cX0_init 15 = .ok (.newarray .boolean, 2) := by decide +kernel
theorem dX0_init_17 : decode cX0_init 17 = .ok (.putfield 15, 3) := by decide +kernel
theorem dX0_init_20 : decode cX0_init 20 = .ok (.aload_n 0, 1) := by decide +kernel
theorem dX0_init_21 : decode cX0_init 21 = .ok (.bipush 42, 2) := by decide +kernel
theorem dX0_init_23 : decode cX0_init 23 = .ok (.newarray .int, 2) := by decide +kernel
theorem dX0_init_25 : decode cX0_init 25 = .ok (.putfield 19, 3) := by decide +kernel
theorem dX0_init_28 : decode cX0_init 28 = .ok (.aload_n 0, 1) := by decide +kernel
theorem dX0_init_29 : decode cX0_init 29 = .ok (.bipush 42, 2) := by decide +kernel
theorem dX0_init_31 : decode cX0_init 31 = .ok (.newarray .int, 2) := by decide +kernel
theorem dX0_init_33 : decode cX0_init 33 = .ok (.putfield 22, 3) := by decide +kernel
theorem dX0_init_36 : decode cX0_init 36 = .ok (.return_, 1) := by decide +kernel
theorem dX0_copy_0 : decode cX0_copy 0 = .ok (.aload_n 1, 1) := by decide +kernel
theorem dX0_copy_1 : decode cX0_copy 1 = .ok (.ifnonnull 4, 3) := by decide +kernel
theorem dX0_copy_4 : decode cX0_copy 4 = .ok (.return_, 1) := by decide +kernel
theorem dX0_copy_5 : decode cX0_copy 5 = .ok (.iconst 0, 1) := by decide +kernel
theorem dX0_copy_6 : decode cX0_copy 6 = .ok (.istore_n 2, 1) := by decide +kernel
theorem dX0_copy_7 : decode cX0_copy 7 = .ok (.iload_n 2, 1) := by decide +kernel
theorem dX0_copy_8 : decode cX0_copy 8 = .ok (.bipush 42, 2) := by decide +kernel
theorem dX0_copy_10 : decode cX0_copy 10 = .ok (.if_icmp .ge 57, 3) := by decide +kernel
theorem dX0_copy_13 : decode cX0_copy 13 = .ok (.aload_n 0, 1) := by decide +kernel
theorem dX0_copy_14 : decode cX0_copy 14 = .ok (.getfield 9, 3) := by decide +kernel
theorem dX0_copy_17 : decode cX0_copy 17 = .ok (.iload_n 2, 1) := by decide +kernel
theorem dX0_copy_18 : decode cX0_copy 18 = .ok (.aload_n 1, 1) := by decide +kernel
theorem dX0_copy_19 : decode cX0_copy 19 = .ok (.getfield 9, 3) := by decide +kernel
theorem dX0_copy_22 : decode cX0_copy 22 = .ok (.iload_n 2, 1) := by decide +kernel
theorem dX0_copy_23 : decode cX0_copy 23 = .ok (.iaload, 1) := by decide +kernel
theorem dX0_copy_24 : decode cX0_copy 24 = .ok (.iastore, 1) := by decide +kernel
theorem dX0_copy_25 : decode cX0_copy 25 = .ok (.aload_n 0, 1) := by decide +kernel
theorem dX0_copy_26 : decode cX0_copy 26 = .ok (.getfield 15, 3) := by decide +kernel
theorem dX0_copy_29 : decode cX0_copy 29 = .ok (.iload_n 2, 1) := by decide +kernel
theorem dX0_copy_30 : decode cX0_copy 30 = .ok (.aload_n 1, 1) := by decide +kernel
theorem dX0_copy_31 : decode cX0_copy 31 = .ok (.getfield 15, 3) := by decide +kernel
theorem dX0_copy_34 : decode cX0_copy 34 = .ok (.iload_n 2, 1) := by decide +kernel
theorem dX0_copy_35 : decode cX0_copy 35 = .ok (.baload, 1) := by decide +kernel
theorem dX0_copy_36 : decode cX0_copy 36 = .ok (.bastore, 1) := by decide +kernel
theorem dX0_copy_37 : decode cX0_copy 37 = .ok (.aload_n 0, 1) := by decide +kernel
theorem dX0_copy_38 : decode cX0_copy 38 = .ok (.getfield 19, 3) := by decide +kernel
theorem dX0_copy_41 : decode cX0_copy 41 = .ok (.iload_n 2, 1) := by decide +kernel
theorem dX0_copy_42 : decode cX0_copy 42 = .ok (.aload_n 1, 1) := by decide +kernel
theorem dX0_copy_43 : decode cX0_copy 43 = .ok (.getfield 19, 3) := by decide +kernel
theorem dX0_copy_46 : decode cX0_copy 46 = .ok (.iload_n 2, 1) := by decide +kernel
theorem dX0_copy_47 : decode cX0_copy 47 = .ok (.iaload, 1) := by decide +kernel
theorem dX0_copy_48 : decode cX0_copy 48 = .ok (.iastore, 1) := by decide +kernel
theorem dX0_copy_49 : decode cX0_copy 49 = .ok (.aload_n 0, 1) := by decide +kernel
theorem dX0_copy_50 : decode cX0_copy 50 = .ok (.getfield 22, 3) := by decide +kernel
theorem dX0_copy_53 : decode cX0_copy 53 = .ok (.iload_n 2, 1) := by decide +kernel
theorem dX0_copy_54 : decode cX0_copy 54 = .ok (.aload_n 1, 1) := by decide +kernel
theorem dX0_copy_55 : decode cX0_copy 55 = .ok (.getfield 22, 3) := by decide +kernel
theorem dX0_copy_58 : decode cX0_copy 58 = .ok (.iload_n 2, 1) := by decide +kernel
theorem dX0_copy_59 : decode cX0_copy 59 = .ok (.iaload, 1) := by decide +kernel
theorem dX0_copy_60 : decode cX0_copy 60 = .ok (.iastore, 1) := by decide +kernel
theorem dX0_copy_61 : decode cX0_copy 61 = .ok (.iinc 2 1, 3) := by decide +kernel
theorem dX0_copy_64 : decode cX0_copy 64 = .ok (.goto (-57), 3) := by decide +kernel
theorem dX0_copy_67 : decode cX0_copy 67 = .ok (.return_, 1) := by decide +kernel
set_option maxRecDepth 20000 in
theorem ggX0_numberIn_X9_isCell : GoodIn wsX0_numberIn wsX9_isCell := goodIn_r _ [4] (by decide +kernel) (by decide +kernel)
set_option maxRecDepth 20000 in
theorem gX0_numberIn_X9_isCell_n25 : GoodIn wsX0_numberIn (wsX9_isCell) := ggX0_numberIn_X9_isCell
theorem dX0_numberIn_0 : decode cX0_numberIn 0 = .ok (.iload_n 1, 1) := by decide +kernel
theorem dX0_numberIn_1 : decode cX0_numberIn 1 = .ok (.invokestatic 25, 3) := by decide +kernel
theorem dX0_numberIn_4 : decode cX0_numberIn 4 = .ok (.ifCond .eq 12, 3) := by decide +kernel
theorem dX0_numberIn_7 : decode cX0_numberIn 7 = .ok (.aload_n 0, 1) := by decide +kernel
theorem dX0_numberIn_8 : decode cX0_numberIn 8 = .ok (.getfield 9, 3) := by decide +kernel
theorem dX0_numberIn_11 : decode cX0_numberIn 11 = .ok (.iload_n 1, 1) := by decide +kernel
theorem dX0_numberIn_12 : decode cX0_numberIn 12 = .ok (.iaload, 1) := by decide +kernel
theorem dX0_numberIn_13 : decode cX0_numberIn 13 = .ok (.goto 4, 3) := by decide +kernel
theorem dX0_numberIn_16 : decode cX0_numberIn 16 = .ok (.iconst 0, 1) := by decide +kernel
theorem dX0_numberIn_17 : decode cX0_numberIn 17 = .ok (.ireturn, 1) := by decide +kernel
set_option maxRecDepth 20000 in
theorem ggX0_setNumber_X9_isCell : GoodIn wsX0_setNumber wsX9_isCell := goodIn_r _ [4] (by decide +kernel) (by decide +kernel)
set_option maxRecDepth 20000 in
theorem gX0_setNumber_X9_isCell_n25 : GoodIn wsX0_setNumber (wsX9_isCell) := ggX0_setNumber_X9_isCell
theorem dX0_setNumber_0 : decode cX0_setNumber 0 = .ok (.iload_n 1, 1) := by decide +kernel
theorem dX0_setNumber_1 : decode cX0_setNumber 1 = .ok (.invokestatic 25, 3) := by decide +kernel
theorem dX0_setNumber_4 : decode cX0_setNumber 4 = .ok (.ifCond .eq 10, 3) := by decide +kernel
theorem dX0_setNumber_7 : decode cX0_setNumber 7 = .ok (.aload_n 0, 1) := by decide +kernel
theorem dX0_setNumber_8 : decode cX0_setNumber 8 = .ok (.getfield 9, 3) := by decide +kernel
theorem dX0_setNumber_11 : decode cX0_setNumber 11 = .ok (.iload_n 1, 1) := by decide +kernel
theorem dX0_setNumber_12 : decode cX0_setNumber 12 = .ok (.iload_n 2, 1) := by decide +kernel
theorem dX0_setNumber_13 : decode cX0_setNumber 13 = .ok (.iastore, 1) := by decide +kernel
theorem dX0_setNumber_14 : decode cX0_setNumber 14 = .ok (.return_, 1) := by decide +kernel
theorem dX0_removeNumbers_0 : decode cX0_removeNumbers 0 = .ok (.iconst 0, 1) := by decide +kernel
theorem dX0_removeNumbers_1 : decode cX0_removeNumbers 1 = .ok (.istore_n 1, 1) := by decide +kernel
theorem dX0_removeNumbers_2 : decode cX0_removeNumbers 2 = .ok (.iload_n 1, 1) := by decide +kernel
theorem dX0_removeNumbers_3 : decode cX0_removeNumbers 3 = .ok (.bipush 42, 2) := by decide +kernel
theorem dX0_removeNumbers_5 : decode cX0_removeNumbers 5 = .ok (.if_icmp .ge 16, 3) := by decide +kernel
theorem dX0_removeNumbers_8 : decode cX0_removeNumbers 8 = .ok (.aload_n 0, 1) := by decide +kernel
theorem dX0_removeNumbers_9 : decode cX0_removeNumbers 9 = .ok (.getfield 9, 3) := by decide +kernel
theorem dX0_removeNumbers_12 : decode cX0_removeNumbers 12 = .ok (.iload_n 1, 1) := by decide +kernel
theorem dX0_removeNumbers_13 : decode cX0_removeNumbers 13 = .ok (.iconst 0, 1) := by decide +kernel
theorem dX0_removeNumbers_14 : decode cX0_removeNumbers 14 = .ok (.iastore, 1) := by decide +kernel
theorem dX0_removeNumbers_15 : decode cX0_removeNumbers 15 = .ok (.iinc 1 1, 3) := by decide +kernel
theorem dX0_removeNumbers_18 : decode cX0_removeNumbers 18 = .ok (.goto (-16), 3) := by decide +kernel
theorem dX0_removeNumbers_21 : decode cX0_removeNumbers 21 = .ok (.return_, 1) := by decide +kernel
set_option maxRecDepth 20000 in
theorem ggX0_hasField_X9_isCell : GoodIn wsX0_hasField wsX9_isCell := goodIn_r _ [4] (by decide +kernel) (by decide +kernel)
set_option maxRecDepth 20000 in
theorem gX0_hasField_X9_isCell_n25 : GoodIn wsX0_hasField (wsX9_isCell) := ggX0_hasField_X9_isCell
theorem dX0_hasField_0 : decode cX0_hasField 0 = .ok (.iload_n 1, 1) := by decide +kernel
theorem dX0_hasField_1 : decode cX0_hasField 1 = .ok (.invokestatic 25, 3) := by decide +kernel
theorem dX0_hasField_4 : decode cX0_hasField 4 = .ok (.ifCond .eq 16, 3) := by decide +kernel
theorem dX0_hasField_7 : decode cX0_hasField 7 = .ok (.aload_n 0, 1) := by decide +kernel
theorem dX0_hasField_8 : decode cX0_hasField 8 = .ok (.getfield 15, 3) := by decide +kernel
theorem dX0_hasField_11 : decode cX0_hasField 11 = .ok (.iload_n 1, 1) := by decide +kernel
theorem dX0_hasField_12 : decode cX0_hasField 12 = .ok (.baload, 1) := by decide +kernel
theorem dX0_hasField_13 : decode cX0_hasField 13 = .ok (.ifCond .eq 7, 3) := by decide +kernel
theorem dX0_hasField_16 : decode cX0_hasField 16 = .ok (.iconst 1, 1) := by decide +kernel
theorem dX0_hasField_17 : decode cX0_hasField 17 = .ok (.goto 4, 3) := by decide +kernel
theorem dX0_hasField_20 : decode cX0_hasField 20 = .ok (.iconst 0, 1) := by decide +kernel
theorem dX0_hasField_21 : decode cX0_hasField 21 = .ok (.ireturn, 1) := by decide +kernel
set_option maxRecDepth 20000 in
theorem ggX0_firstOfField_X9_isCell : GoodIn wsX0_firstOfField wsX9_isCell := goodIn_r _ [4] (by decide +kernel) (by decide +kernel)
set_option maxRecDepth 20000 in
theorem gX0_firstOfField_X9_isCell_n25 : GoodIn wsX0_firstOfField (wsX9_isCell) := ggX0_firstOfField_X9_isCell
theorem dX0_firstOfField_0 : decode cX0_firstOfField 0 = .ok (.iload_n 1, 1) := by decide +kernel
theorem dX0_firstOfField_1 : decode cX0_firstOfField 1 = .ok (.invokestatic 25, 3) := by decide +kernel
theorem dX0_firstOfField_4 : decode cX0_firstOfField 4 = .ok (.ifCond .eq 12, 3) := by decide +kernel
theorem dX0_firstOfField_7 : decode cX0_firstOfField 7 = .ok (.aload_n 0, 1) := by decide +kernel
theorem dX0_firstOfField_8 : decode cX0_firstOfField 8 = .ok (.getfield 19, 3) := by decide +kernel
theorem dX0_firstOfField_11 : decode cX0_firstOfField 11 = .ok (.iload_n 1, 1) := by decide +kernel
theorem dX0_firstOfField_12 : decode cX0_firstOfField 12 = .ok (.iaload, 1) := by decide +kernel
theorem dX0_firstOfField_13 : decode cX0_firstOfField 13 = .ok (.goto 4, 3) := by decide +kernel
theorem dX0_firstOfField_16 : decode cX0_firstOfField 16 = .ok (.iconst 0, 1) := by decide +kernel
theorem dX0_firstOfField_17 : decode cX0_firstOfField 17 = .ok (.ireturn, 1) := by decide +kernel
set_option maxRecDepth 20000 in
theorem ggX0_sizeOfField_X9_isCell : GoodIn wsX0_sizeOfField wsX9_isCell := goodIn_r _ [5] (by decide +kernel) (by decide +kernel)
set_option maxRecDepth 20000 in
theorem gX0_sizeOfField_X9_isCell_n25 : GoodIn wsX0_sizeOfField (wsX9_isCell) := ggX0_sizeOfField_X9_isCell
set_option maxRecDepth 20000 in
theorem ggX0_sizeOfField_X9_sizeOf : GoodIn wsX0_sizeOfField wsX9_sizeOf := goodIn_r _ [7, 8, 9, 4, 10, 11, 12, 13] (by decide +kernel) (by decide +kernel)
set_option maxRecDepth 20000 in
theorem gX0_sizeOfField_X9_sizeOf_n29 : GoodIn wsX0_sizeOfField (wsX9_sizeOf) := ggX0_sizeOfField_X9_sizeOf
theorem dX0_sizeOfField_0 : decode cX0_sizeOfField 0 = .ok (.iload_n 1, 1) := by decide +kernel
theorem dX0_sizeOfField_1 : decode cX0_sizeOfField 1 = .ok (.invokestatic 25, 3) := by decide +kernel
theorem dX0_sizeOfField_4 : decode cX0_sizeOfField 4 = .ok (.ifCond .eq 21, 3) := by decide +kernel
theorem dX0_sizeOfField_7 : decode cX0_sizeOfField 7 = .ok (.aload_n 0, 1) := by decide +kernel
theorem dX0_sizeOfField_8 : decode cX0_sizeOfField 8 = .ok (.getfield 19, 3) := by decide +kernel
theorem dX0_sizeOfField_11 : decode cX0_sizeOfField 11 = .ok (.iload_n 1, 1) := by decide +kernel
theorem dX0_sizeOfField_12 : decode cX0_sizeOfField 12 = .ok (.iaload, 1) := by decide +kernel
theorem dX0_sizeOfField_13 : decode cX0_sizeOfField 13 = .ok (.aload_n 0, 1) := by decide +kernel
theorem dX0_sizeOfField_14 : decode cX0_sizeOfField 14 = .ok (.getfield 22, 3) := by decide +kernel
theorem dX0_sizeOfField_17 : decode cX0_sizeOfField 17 = .ok (.iload_n 1, 1) := by decide +kernel
theorem dX0_sizeOfField_18 : decode cX0_sizeOfField 18 = .ok (.iaload, 1) := by decide +kernel
theorem dX0_sizeOfField_19 : decode cX0_sizeOfField 19 = .ok (.invokestatic 29, 3) := by decide +kernel
theorem dX0_sizeOfField_22 : decode cX0_sizeOfField 22 = .ok (.goto 4, 3) := by decide +kernel
theorem dX0_sizeOfField_25 : decode cX0_sizeOfField 25 = .ok (.iconst 0, 1) := by decide +kernel
theorem dX0_sizeOfField_26 : decode cX0_sizeOfField 26 = .ok (.ireturn, 1) := by decide +kernel
set_option maxRecDepth 20000 in
theorem ggX0_place_X9_isInside : GoodIn wsX0_place wsX9_isInside := goodIn_r _ [6] (by decide +kernel) (by decide +kernel)
set_option maxRecDepth 20000 in
theorem gX0_place_X9_isInside_n33 : GoodIn wsX0_place (wsX9_isInside) := ggX0_place_X9_isInside
theorem dX0_place_0 : decode cX0_place 0 = .ok (.iconst 0, 1) := by decide +kernel
theorem dX0_place_1 : decode cX0_place 1 = .ok (.istore_n 3, 1) := by decide +kernel
theorem dX0_place_2 : decode cX0_place 2 = .ok (.iload_n 3, 1) := by decide +kernel
theorem dX0_place_3 : decode cX0_place 3 = .ok (.bipush 42, 2) := by decide +kernel
theorem dX0_place_5 : decode cX0_place 5 = .ok (.if_icmp .ge 39, 3) := by decide +kernel
theorem dX0_place_8 : decode cX0_place 8 = .ok (.iload_n 3, 1) := by decide +kernel
theorem dX0_place_9 : decode cX0_place 9 = .ok (.iload_n 1, 1) := by decide +kernel
theorem dX0_place_10 : decode cX0_place 10 = .ok (.iload_n 2, 1) := by decide +kernel
theorem dX0_place_11 : decode cX0_place 11 = .ok (.invokestatic 33, 3) := by decide +kernel
theorem dX0_place_14 : decode cX0_place 14 = .ok (.ifCond .eq 24, 3) := by decide +kernel
theorem dX0_place_17 : decode cX0_place 17 = .ok (.aload_n 0, 1) := by decide +kernel
theorem dX0_place_18 : decode cX0_place 18 = .ok (.getfield 15, 3) := by decide +kernel
theorem dX0_place_21 : decode cX0_place 21 = .ok (.iload_n 3, 1) := by decide +kernel
theorem dX0_place_22 : decode cX0_place 22 = .ok (.iconst 1, 1) := by decide +kernel
theorem dX0_place_23 : decode cX0_place 23 = .ok (.bastore, 1) := by decide +kernel
theorem dX0_place_24 : decode cX0_place 24 = .ok (.aload_n 0, 1) := by decide +kernel
theorem dX0_place_25 : decode cX0_place 25 = .ok (.getfield 19, 3) := by decide +kernel
theorem dX0_place_28 : decode cX0_place 28 = .ok (.iload_n 3, 1) := by decide +kernel
theorem dX0_place_29 : decode cX0_place 29 = .ok (.iload_n 1, 1) := by decide +kernel
theorem dX0_place_30 : decode cX0_place 30 = .ok (.iastore, 1) := by decide +kernel
theorem dX0_place_31 : decode cX0_place 31 = .ok (.aload_n 0, 1) := by decide +kernel
theorem dX0_place_32 : decode cX0_place 32 = .ok (.getfield 22, 3) := by decide +kernel
theorem dX0_place_35 : decode cX0_place 35 = .ok (.iload_n 3, 1) := by decide +kernel
theorem dX0_place_36 : decode cX0_place 36 = .ok (.iload_n 2, 1) := by decide +kernel
theorem dX0_place_37 : decode cX0_place 37 = .ok (.iastore, 1) := by decide +kernel
theorem dX0_place_38 : decode cX0_place 38 = .ok (.iinc 3 1, 3) := by decide +kernel
theorem dX0_place_41 : decode cX0_place 41 = .ok (.goto (-39), 3) := by decide +kernel
theorem dX0_place_44 : decode cX0_place 44 = .ok (.return_, 1) := by decide +kernel
set_option maxRecDepth 20000 in
theorem ggX0_removeField_X0_firstOfField : GoodIn wsX0_removeField wsX0_firstOfField := goodIn_r _ [7, 2, 8, 9, 10, 11, 12, 13, 14] (by decide +kernel) (by decide +kernel)
set_option maxRecDepth 20000 in
theorem gX0_removeField_X0_firstOfField : GoodIn wsX0_removeField (wsV RX0 37 RX0 yX0_firstOfField wsX0_firstOfField) := goodIn_app (goodIn_of _ (by decide +kernel)) ggX0_removeField_X0_firstOfField
theorem dX0_removeField_0 : decode cX0_removeField 0 = .ok (.aload_n 0, 1) := by decide +kernel
theorem dX0_removeField_1 : decode cX0_removeField 1 = .ok (.iload_n 1, 1) := by decide +kernel
theorem dX0_removeField_2 : decode cX0_removeField 2 = .ok (.invokevirtual 37, 3) := by decide +kernel
theorem dX0_removeField_5 : decode cX0_removeField 5 = .ok (.istore_n 2, 1) := by decide +kernel
theorem dX0_removeField_6 : decode cX0_removeField 6 = .ok (.iconst 0, 1) := by decide +kernel
theorem dX0_removeField_7 : decode cX0_removeField 7 = .ok (.istore_n 3, 1) := by decide +kernel
theorem dX0_removeField_8 : decode cX0_removeField 8 = .ok (.iload_n 3, 1) := by decide +kernel
theorem dX0_removeField_9 : decode cX0_removeField 9 = .ok (.bipush 42, 2) := by decide +kernel
theorem dX0_removeField_11 : decode cX0_removeField 11 = .ok (.if_icmp .ge 35, 3) := by decide +kernel
theorem dX0_removeField_14 : decode cX0_removeField 14 = .ok (.aload_n 0, 1) := by decide +kernel
theorem dX0_removeField_15 : decode cX0_removeField 15 = .ok (.getfield 15, 3) := by decide +kernel
theorem dX0_removeField_18 : decode cX0_removeField 18 = .ok (.iload_n 3, 1) := by decide +kernel
theorem dX0_removeField_19 : decode cX0_removeField 19 = .ok (.baload, 1) := by decide +kernel
theorem dX0_removeField_20 : decode cX0_removeField 20 = .ok (.ifCond .eq 20, 3) := by decide +kernel
theorem dX0_removeField_23 : decode cX0_removeField 23 = .ok (.aload_n 0, 1) := by decide +kernel
theorem dX0_removeField_24 : decode cX0_removeField 24 = .ok (.getfield 19, 3) := by decide +kernel
theorem dX0_removeField_27 : decode cX0_removeField 27 = .ok (.iload_n 3, 1) := by decide +kernel
theorem dX0_removeField_28 : decode cX0_removeField 28 = .ok (.iaload, 1) := by decide +kernel
theorem dX0_removeField_29 : decode cX0_removeField 29 = .ok (.iload_n 2, 1) := by decide +kernel
theorem dX0_removeField_30 : decode cX0_removeField 30 = .ok (.if_icmp .ne 10, 3) := by decide +kernel
theorem dX0_removeField_33 : decode cX0_removeField 33 = .ok (.aload_n 0, 1) := by decide +kernel
theorem dX0_removeField_34 : decode cX0_removeField 34 = .ok (.getfield 15, 3) := by decide +kernel
theorem dX0_removeField_37 : decode cX0_removeField 37 = .ok (.iload_n 3, 1) := by decide +kernel
theorem dX0_removeField_38 : decode cX0_removeField 38 = .ok (.iconst 0, 1) := by decide +kernel
theorem dX0_removeField_39 : decode cX0_removeField 39 = .ok (.bastore, 1) := by decide +kernel
theorem dX0_removeField_40 : decode cX0_removeField 40 = .ok (.iinc 3 1, 3) := by decide +kernel
theorem dX0_removeField_43 : decode cX0_removeField 43 = .ok (.goto (-35), 3) := by decide +kernel
theorem dX0_removeField_46 : decode cX0_removeField 46 = .ok (.return_, 1) := by decide +kernel
theorem dX0_removeFields_0 : decode cX0_removeFields 0 = .ok (.iconst 0, 1) := by decide +kernel
theorem dX0_removeFields_1 : decode cX0_removeFields 1 = .ok (.istore_n 1, 1) := by decide +kernel
theorem dX0_removeFields_2 : decode cX0_removeFields 2 = .ok (.iload_n 1, 1) := by decide +kernel
theorem dX0_removeFields_3 : decode cX0_removeFields 3 = .ok (.bipush 42, 2) := by decide +kernel
theorem dX0_removeFields_5 : decode cX0_removeFields 5 = .ok (.if_icmp .ge 16, 3) := by decide +kernel
theorem dX0_removeFields_8 : decode cX0_removeFields 8 = .ok (.aload_n 0, 1) := by decide +kernel
theorem dX0_removeFields_9 : decode cX0_removeFields 9 = .ok (.getfield 15, 3) := by decide +kernel
theorem dX0_removeFields_12 : decode cX0_removeFields 12 = .ok (.iload_n 1, 1) := by decide +kernel
theorem dX0_removeFields_13 : decode cX0_removeFields 13 = .ok (.iconst 0, 1) := by decide +kernel
theorem dX0_removeFields_14 : decode cX0_removeFields 14 = .ok (.bastore, 1) := by decide +kernel
theorem dX0_removeFields_15 : decode cX0_removeFields 15 = .ok (.iinc 1 1, 3) := by decide +kernel
theorem dX0_removeFields_18 : decode cX0_removeFields 18 = .ok (.goto (-16), 3) := by decide +kernel
theorem dX0_removeFields_21 : decode cX0_removeFields 21 = .ok (.return_, 1) := by decide +kernel
set_option maxRecDepth 20000 in
theorem ggX0_countFields_X0_isCorner : GoodIn wsX0_countFields wsX0_isCorner := goodIn_r _ [5, 6, 7, 8, 9, 10, 11, 12, 13, 14] (by decide +kernel) (by decide +kernel)
set_option maxRecDepth 20000 in
theorem gX0_countFields_X0_isCorner : GoodIn wsX0_countFields (wsV RX0 41 RX0 yX0_isCorner wsX0_isCorner) := goodIn_app (goodIn_of _ (by decide +kernel)) ggX0_countFields_X0_isCorner
theorem dX0_countFields_0 : decode cX0_countFields 0 = .ok (.iconst 0, 1) := by decide +kernel
theorem dX0_countFields_1 : decode cX0_countFields 1 = .ok (.istore_n 1, 1) := by decide +kernel
theorem dX0_countFields_2 : decode cX0_countFields 2 = .ok (.iconst 0, 1) := by decide +kernel
theorem dX0_countFields_3 : decode cX0_countFields 3 = .ok (.istore_n 2, 1) := by decide +kernel
theorem dX0_countFields_4 : decode cX0_countFields 4 = .ok (.iload_n 2, 1) := by decide +kernel
theorem dX0_countFields_5 : decode cX0_countFields 5 = .ok (.bipush 42, 2) := by decide +kernel
theorem dX0_countFields_7 : decode cX0_countFields 7 = .ok (.if_icmp .ge 25, 3) := by decide +kernel
theorem dX0_countFields_10 : decode cX0_countFields 10 = .ok (.iload_n 1, 1) := by decide +kernel
theorem dX0_countFields_11 : decode cX0_countFields 11 = .ok (.aload_n 0, 1) := by decide +kernel
theorem dX0_countFields_12 : decode cX0_countFields 12 = .ok (.iload_n 2, 1) := by decide +kernel
theorem dX0_countFields_13 : decode cX0_countFields 13 = .ok (.invokevirtual 41, 3) := by decide +kernel
theorem dX0_countFields_16 : decode cX0_countFields 16 = .ok (.ifCond .eq 7, 3) := by decide +kernel
theorem dX0_countFields_19 : decode cX0_countFields 19 = .ok (.iconst 1, 1) := by decide +kernel
theorem dX0_countFields_20 : decode cX0_countFields 20 = .ok (.goto 4, 3) := by decide +kernel
theorem dX0_countFields_23 : decode cX0_countFields 23 = .ok (.iconst 0, 1) := by decide +kernel
theorem dX0_countFields_24 : decode cX0_countFields 24 = .ok (.iadd, 1) := by decide +kernel
theorem dX0_countFields_25 : decode cX0_countFields 25 = .ok (.istore_n 1, 1) := by decide +kernel
theorem dX0_countFields_26 : decode cX0_countFields 26 = .ok (.iinc 2 1, 3) := by decide +kernel
theorem dX0_countFields_29 : decode cX0_countFields 29 = .ok (.goto (-25), 3) := by decide +kernel
theorem dX0_countFields_32 : decode cX0_countFields 32 = .ok (.iload_n 1, 1) := by decide +kernel
theorem dX0_countFields_33 : decode cX0_countFields 33 = .ok (.ireturn, 1) := by decide +kernel
set_option maxRecDepth 20000 in
theorem ggX0_countFieldsMissingIn_X0_isCorner : GoodIn wsX0_countFieldsMissingIn wsX0_isCorner := goodIn_r _ [6, 7, 8, 9, 10, 11, 12, 13, 14, 15] (by decide +kernel) (by decide +kernel)
set_option maxRecDepth 20000 in
theorem gX0_countFieldsMissingIn_X0_isCorner : GoodIn wsX0_countFieldsMissingIn (wsV RX0 41 RX0 yX0_isCorner wsX0_isCorner) := goodIn_app (goodIn_of _ (by decide +kernel)) ggX0_countFieldsMissingIn_X0_isCorner
theorem dX0_countFieldsMissingIn_0 : decode cX0_countFieldsMissingIn 0 = .ok (.iconst 0, 1) := by decide +kernel
theorem dX0_countFieldsMissingIn_1 : decode cX0_countFieldsMissingIn 1 = .ok (.istore_n 2, 1) := by decide +kernel
theorem dX0_countFieldsMissingIn_2 : decode cX0_countFieldsMissingIn 2 = .ok (.iconst 0, 1) := by decide +kernel
theorem dX0_countFieldsMissingIn_3 : decode cX0_countFieldsMissingIn 3 = .ok (.istore_n 3, 1) := by decide +kernel
theorem dX0_countFieldsMissingIn_4 : decode cX0_countFieldsMissingIn 4 = .ok (.iload_n 3, 1) := by decide +kernel
theorem dX0_countFieldsMissingIn_5 : decode cX0_countFieldsMissingIn 5 = .ok (.bipush 42, 2) := by decide +kernel
theorem dX0_countFieldsMissingIn_7 : decode cX0_countFieldsMissingIn 7 = .ok (.if_icmp .ge 43, 3) := by decide +kernel
theorem dX0_countFieldsMissingIn_10 : decode cX0_countFieldsMissingIn 10 = .ok (.aload_n 0, 1) := by decide +kernel
theorem dX0_countFieldsMissingIn_11 : decode cX0_countFieldsMissingIn 11 = .ok (.iload_n 3, 1) := by decide +kernel
theorem dX0_countFieldsMissingIn_12 : decode cX0_countFieldsMissingIn 12 = .ok (.invokevirtual 41, 3) := by decide +kernel
theorem dX0_countFieldsMissingIn_15 : decode cX0_countFieldsMissingIn 15 = .ok (.ifCond .eq 29, 3) := by decide +kernel
theorem dX0_countFieldsMissingIn_18 : decode cX0_countFieldsMissingIn 18 = .ok (.aload_n 1, 1) := by decide +kernel
theorem dX0_countFieldsMissingIn_19 : decode cX0_countFieldsMissingIn 19 = .ok (.iload_n 3, 1) := by decide +kernel
theorem dX0_countFieldsMissingIn_20 : decode cX0_countFieldsMissingIn 20 = .ok (.invokevirtual 41, 3) := by decide +kernel
theorem dX0_countFieldsMissingIn_23 : decode cX0_countFieldsMissingIn 23 = .ok (.ifCond .eq 18, 3) := by decide +kernel
theorem dX0_countFieldsMissingIn_26 : decode cX0_countFieldsMissingIn 26 = .ok (.aload_n 1, 1) := by decide +kernel
theorem dX0_countFieldsMissingIn_27 : decode cX0_countFieldsMissingIn 27 = .ok (.getfield 22, 3) := by decide +kernel
theorem dX0_countFieldsMissingIn_30 : decode cX0_countFieldsMissingIn 30 = .ok (.iload_n 3, 1) := by decide +kernel
theorem dX0_countFieldsMissingIn_31 : decode cX0_countFieldsMissingIn 31 = .ok (.iaload, 1) := by decide +kernel
theorem dX0_countFieldsMissingIn_32 : decode cX0_countFieldsMissingIn 32 = .ok (.aload_n 0, 1) := by decide +kernel
theorem dX0_countFieldsMissingIn_33 : decode cX0_countFieldsMissingIn 33 = .ok (.getfield 22, 3) := by decide +kernel
theorem dX0_countFieldsMissingIn_36 : decode cX0_countFieldsMissingIn 36 = .ok (.iload_n 3, 1) := by decide +kernel
theorem dX0_countFieldsMissingIn_37 : decode cX0_countFieldsMissingIn 37 = .ok (.iaload, 1) := by decide +kernel
theorem dX0_countFieldsMissingIn_38 : decode cX0_countFieldsMissingIn 38 = .ok (.if_icmp .eq 6, 3) := by decide +kernel
theorem dX0_countFieldsMissingIn_41 : decode cX0_countFieldsMissingIn 41 = .ok (.iinc 2 1, 3) := by decide +kernel
theorem dX0_countFieldsMissingIn_44 : decode cX0_countFieldsMissingIn 44 = .ok (.iinc 3 1, 3) := by decide +kernel
theorem dX0_countFieldsMissingIn_47 : decode cX0_countFieldsMissingIn 47 = .ok (.goto (-43), 3) := by decide +kernel
theorem dX0_countFieldsMissingIn_50 : decode cX0_countFieldsMissingIn 50 = .ok (.iload_n 2, 1) := by decide +kernel
theorem dX0_countFieldsMissingIn_51 : decode cX0_countFieldsMissingIn 51 = .ok (.ireturn, 1) := by decide +kernel
set_option maxRecDepth 20000 in
theorem ggX0_isCorner_X9_isCell : GoodIn wsX0_isCorner wsX9_isCell := goodIn_r _ [5] (by decide +kernel) (by decide +kernel)
set_option maxRecDepth 20000 in
theorem gX0_isCorner_X9_isCell_n25 : GoodIn wsX0_isCorner (wsX9_isCell) := ggX0_isCorner_X9_isCell
theorem dX0_isCorner_0 : decode cX0_isCorner 0 = .ok (.iload_n 1, 1) := by decide +kernel
theorem dX0_isCorner_1 : decode cX0_isCorner 1 = .ok (.invokestatic 25, 3) := by decide +kernel
theorem dX0_isCorner_4 : decode cX0_isCorner 4 = .ok (.ifCond .eq 26, 3) := by decide +kernel
theorem dX0_isCorner_7 : decode cX0_isCorner 7 = .ok (.aload_n 0, 1) := by decide +kernel
theorem dX0_isCorner_8 : decode cX0_isCorner 8 = .ok (.getfield 15, 3) := by decide +kernel
theorem dX0_isCorner_11 : decode cX0_isCorner 11 = .ok (.iload_n 1, 1) := by decide +kernel
theorem dX0_isCorner_12 : decode cX0_isCorner 12 = .ok (.baload, 1) := by decide +kernel
theorem dX0_isCorner_13 : decode cX0_isCorner 13 = .ok (.ifCond .eq 17, 3) := by decide +kernel
theorem dX0_isCorner_16 : decode cX0_isCorner 16 = .ok (.aload_n 0, 1) := by decide +kernel
theorem dX0_isCorner_17 : decode cX0_isCorner 17 = .ok (.getfield 19, 3) := by decide +kernel
theorem dX0_isCorner_20 : decode cX0_isCorner 20 = .ok (.iload_n 1, 1) := by decide +kernel
theorem dX0_isCorner_21 : decode cX0_isCorner 21 = .ok (.iaload, 1) := by decide +kernel
theorem dX0_isCorner_22 : decode cX0_isCorner 22 = .ok (.iload_n 1, 1) := by decide +kernel
theorem dX0_isCorner_23 : decode cX0_isCorner 23 = .ok (.if_icmp .ne 7, 3) := by decide +kernel
theorem dX0_isCorner_26 : decode cX0_isCorner 26 = .ok (.iconst 1, 1) := by decide +kernel
theorem dX0_isCorner_27 : decode cX0_isCorner 27 = .ok (.goto 4, 3) := by decide +kernel
theorem dX0_isCorner_30 : decode cX0_isCorner 30 = .ok (.iconst 0, 1) := by decide +kernel
theorem dX0_isCorner_31 : decode cX0_isCorner 31 = .ok (.ireturn, 1) := by decide +kernel
set_option maxRecDepth 20000 in
theorem ggX0_cellsInFields_X9_bit : GoodIn wsX0_cellsInFields wsX9_bit := goodIn_r _ [4] (by decide +kernel) (by decide +kernel)
set_option maxRecDepth 20000 in
theorem gX0_cellsInFields_X9_bit_n44 : GoodIn wsX0_cellsInFields (wsX9_bit) := ggX0_cellsInFields_X9_bit
theorem dX0_cellsInFields_0 : decode cX0_cellsInFields 0 = .ok (.lconst 0, 1) := by decide +kernel
theorem dX0_cellsInFields_1 : decode cX0_cellsInFields 1 = .ok (.lstore_n 1, 1) := by decide +kernel
theorem dX0_cellsInFields_2 : decode cX0_cellsInFields 2 = .ok (.iconst 0, 1) := by decide +kernel
theorem dX0_cellsInFields_3 : decode cX0_cellsInFields 3 = .ok (.istore_n 3, 1) := by decide +kernel
theorem dX0_cellsInFields_4 : decode cX0_cellsInFields 4 = .ok (.iload_n 3, 1) := by decide +kernel
theorem dX0_cellsInFields_5 : decode cX0_cellsInFields 5 = .ok (.bipush 42, 2) := by decide +kernel
theorem dX0_cellsInFields_7 : decode cX0_cellsInFields 7 = .ok (.if_icmp .ge 29, 3) := by decide +kernel
theorem dX0_cellsInFields_10 : decode cX0_cellsInFields 10 = .ok (.lload_n 1, 1) := by decide +kernel
theorem dX0_cellsInFields_11 : decode cX0_cellsInFields 11 = .ok (.aload_n 0, 1) := by decide +kernel
theorem dX0_cellsInFields_12 : decode cX0_cellsInFields 12 = .ok (.getfield 15, 3) := by decide +kernel
theorem dX0_cellsInFields_15 : decode cX0_cellsInFields 15 = .ok (.iload_n 3, 1) := by decide +kernel
theorem dX0_cellsInFields_16 : decode cX0_cellsInFields 16 = .ok (.baload, 1) := by decide +kernel
theorem dX0_cellsInFields_17 : decode cX0_cellsInFields 17 = .ok (.ifCond .eq 10, 3) := by decide +kernel
theorem dX0_cellsInFields_20 : decode cX0_cellsInFields 20 = .ok (.iload_n 3, 1) := by decide +kernel
theorem dX0_cellsInFields_21 : decode cX0_cellsInFields 21 = .ok (.invokestatic 44, 3) := by decide +kernel
theorem dX0_cellsInFields_24 : decode cX0_cellsInFields 24 = .ok (.goto 4, 3) := by decide +kernel
theorem dX0_cellsInFields_27 : decode cX0_cellsInFields 27 = .ok (.lconst 0, 1) := by decide +kernel
theorem dX0_cellsInFields_28 : decode cX0_cellsInFields 28 = .ok (.lor, 1) := by decide +kernel
theorem dX0_cellsInFields_29 : decode cX0_cellsInFields 29 = .ok (.lstore_n 1, 1) := by decide +kernel
theorem dX0_cellsInFields_30 : decode cX0_cellsInFields 30 = .ok (.iinc 3 1, 3) := by decide +kernel
theorem dX0_cellsInFields_33 : decode cX0_cellsInFields 33 = .ok (.goto (-29), 3) := by decide +kernel
theorem dX0_cellsInFields_36 : decode cX0_cellsInFields 36 = .ok (.lload_n 1, 1) := by decide +kernel
theorem dX0_cellsInFields_37 : decode cX0_cellsInFields 37 = .ok (.lreturn, 1) := by decide +kernel
set_option maxRecDepth 20000 in
theorem ggX0_cellsWithNumber_X9_bit : GoodIn wsX0_cellsWithNumber wsX9_bit := goodIn_r _ [4] (by decide +kernel) (by decide +kernel)
set_option maxRecDepth 20000 in
theorem gX0_cellsWithNumber_X9_bit_n44 : GoodIn wsX0_cellsWithNumber (wsX9_bit) := ggX0_cellsWithNumber_X9_bit
theorem dX0_cellsWithNumber_0 : decode cX0_cellsWithNumber 0 = .ok (.lconst 0, 1) := by decide +kernel
theorem dX0_cellsWithNumber_1 : decode cX0_cellsWithNumber 1 = .ok (.lstore_n 1, 1) := by decide +kernel
theorem dX0_cellsWithNumber_2 : decode cX0_cellsWithNumber 2 = .ok (.iconst 0, 1) := by decide +kernel
theorem dX0_cellsWithNumber_3 : decode cX0_cellsWithNumber 3 = .ok (.istore_n 3, 1) := by decide +kernel
theorem dX0_cellsWithNumber_4 : decode cX0_cellsWithNumber 4 = .ok (.iload_n 3, 1) := by decide +kernel
theorem dX0_cellsWithNumber_5 : decode cX0_cellsWithNumber 5 = .ok (.bipush 42, 2) := by decide +kernel
theorem dX0_cellsWithNumber_7 : decode cX0_cellsWithNumber 7 = .ok (.if_icmp .ge 29, 3) := by decide +kernel
theorem dX0_cellsWithNumber_10 : decode cX0_cellsWithNumber 10 = .ok (.lload_n 1, 1) := by decide +kernel
theorem dX0_cellsWithNumber_11 : decode cX0_cellsWithNumber 11 = .ok (.aload_n 0, 1) := by decide +kernel
theorem dX0_cellsWithNumber_12 : decode cX0_cellsWithNumber 12 = .ok (.getfield 9, 3) := by decide +kernel
theorem dX0_cellsWithNumber_15 : decode cX0_cellsWithNumber 15 = .ok (.iload_n 3, 1) := by decide +kernel
theorem dX0_cellsWithNumber_16 : decode cX0_cellsWithNumber 16 = .ok (.iaload, 1) := by decide +kernel
theorem dX0_cellsWithNumber_17 : decode cX0_cellsWithNumber 17 = .ok (.ifCond .eq 10, 3) := by decide +kernel
theorem dX0_cellsWithNumber_20 : decode cX0_cellsWithNumber 20 = .ok (.iload_n 3, 1) := by decide +kernel
theorem dX0_cellsWithNumber_21 : decode cX0_cellsWithNumber 21 = .ok (.invokestatic 44, 3) := by decide +kernel
theorem dX0_cellsWithNumber_24 : decode cX0_cellsWithNumber 24 = .ok (.goto 4, 3) := by decide +kernel
theorem dX0_cellsWithNumber_27 : decode cX0_cellsWithNumber 27 = .ok (.lconst 0, 1) := by decide +kernel
theorem dX0_cellsWithNumber_28 : decode cX0_cellsWithNumber 28 = .ok (.lor, 1) := by decide +kernel
theorem dX0_cellsWithNumber_29 : decode cX0_cellsWithNumber 29 = .ok (.lstore_n 1, 1) := by decide +kernel
theorem dX0_cellsWithNumber_30 : decode cX0_cellsWithNumber 30 = .ok (.iinc 3 1, 3) := by decide +kernel
theorem dX0_cellsWithNumber_33 : decode cX0_cellsWithNumber 33 = .ok (.goto (-29), 3) := by decide +kernel
theorem dX0_cellsWithNumber_36 : decode cX0_cellsWithNumber 36 = .ok (.lload_n 1, 1) := by decide +kernel
theorem dX0_cellsWithNumber_37 : decode cX0_cellsWithNumber 37 = .ok (.lreturn, 1) := by decide +kernel
set_option maxRecDepth 20000 in
theorem ggX0_openNumbers_X0_cellsWithNumber : GoodIn wsX0_openNumbers wsX0_cellsWithNumber := goodIn_r _ [6, 7, 8, 9, 10, 16, 17, 18, 19] (by decide +kernel) (by decide +kernel)
set_option maxRecDepth 20000 in
theorem gX0_openNumbers_X0_cellsWithNumber : GoodIn wsX0_openNumbers (wsV RX0 48 RX0 yX0_cellsWithNumber wsX0_cellsWithNumber) := goodIn_app (goodIn_of _ (by decide +kernel)) ggX0_openNumbers_X0_cellsWithNumber
set_option maxRecDepth 20000 in
theorem ggX0_openNumbers_X0_cellsInFields : GoodIn wsX0_openNumbers wsX0_cellsInFields := goodIn_r _ [14, 15, 8, 9, 10, 16, 17, 18, 19] (by decide +kernel) (by decide +kernel)
set_option maxRecDepth 20000 in
theorem gX0_openNumbers_X0_cellsInFields : GoodIn wsX0_openNumbers (wsV RX0 52 RX0 yX0_cellsInFields wsX0_cellsInFields) := goodIn_app (goodIn_of _ (by decide +kernel)) ggX0_openNumbers_X0_cellsInFields
theorem dX0_openNumbers_0 : decode cX0_openNumbers 0 = .ok (.aload_n 0, 1) := by decide +kernel
theorem dX0_openNumbers_1 : decode cX0_openNumbers 1 = .ok (.invokevirtual 48, 3) := by decide +kernel
theorem dX0_openNumbers_4 : decode cX0_openNumbers 4 = .ok (.aload_n 0, 1) := by decide +kernel
theorem dX0_openNumbers_5 : decode cX0_openNumbers 5 = .ok (.invokevirtual 52, 3) := by decide +kernel
theorem dX0_openNumbers_8 : decode cX0_openNumbers 8 = .ok (.ldc2_w 55, 3) := by decide +kernel
theorem dX0_openNumbers_11 : decode cX0_openNumbers 11 = .ok (.lxor, 1) := by decide +kernel
theorem dX0_openNumbers_12 : decode cX0_openNumbers 12 = .ok (.land, 1) := by decide +kernel
theorem dX0_openNumbers_13 : decode cX0_openNumbers 13 = .ok (.lreturn, 1) := by decide +kernel
set_option maxRecDepth 20000 in
theorem ggX0_sumIn_X9_has : GoodIn wsX0_sumIn wsX9_has := goodIn_r _ [4, 5, 6, 3, 7] (by decide +kernel) (by decide +kernel)
set_option maxRecDepth 20000 in
theorem gX0_sumIn_X9_has_n57 : GoodIn wsX0_sumIn (wsX9_has) := ggX0_sumIn_X9_has
theorem dX0_sumIn_0 : decode cX0_sumIn 0 = .ok (.iconst 0, 1) := by decide +kernel
theorem dX0_sumIn_1 : decode cX0_sumIn 1 = .ok (.istore_n 3, 1) := by decide +kernel
theorem dX0_sumIn_2 : decode cX0_sumIn 2 = .ok (.iconst 0, 1) := by decide +kernel
theorem dX0_sumIn_3 : decode cX0_sumIn 3 = .ok (.istore 4, 2) := by decide +kernel
theorem dX0_sumIn_5 : decode cX0_sumIn 5 = .ok (.iload 4, 2) := by decide +kernel
theorem dX0_sumIn_7 : decode cX0_sumIn 7 = .ok (.bipush 42, 2) := by decide +kernel
theorem dX0_sumIn_9 : decode cX0_sumIn 9 = .ok (.if_icmp .ge 32, 3) := by decide +kernel
theorem dX0_sumIn_12 : decode cX0_sumIn 12 = .ok (.iload_n 3, 1) := by decide +kernel
theorem dX0_sumIn_13 : decode cX0_sumIn 13 = .ok (.lload_n 1, 1) := by decide +kernel
theorem dX0_sumIn_14 : decode cX0_sumIn 14 = .ok (.iload 4, 2) := by decide +kernel
theorem dX0_sumIn_16 : decode cX0_sumIn 16 = .ok (.invokestatic 57, 3) := by decide +kernel
theorem dX0_sumIn_19 : decode cX0_sumIn 19 = .ok (.ifCond .eq 13, 3) := by decide +kernel
theorem dX0_sumIn_22 : decode cX0_sumIn 22 = .ok (.aload_n 0, 1) := by decide +kernel
theorem dX0_sumIn_23 : decode cX0_sumIn 23 = .ok (.getfield 9, 3) := by decide +kernel
theorem dX0_sumIn_26 : decode cX0_sumIn 26 = .ok (.iload 4, 2) := by decide +kernel
theorem dX0_sumIn_28 : decode cX0_sumIn 28 = .ok (.iaload, 1) := by decide +kernel
theorem dX0_sumIn_29 : decode cX0_sumIn 29 = .ok (.goto 4, 3) := by decide +kernel
theorem dX0_sumIn_32 : decode cX0_sumIn 32 = .ok (.iconst 0, 1) := by decide +kernel
theorem dX0_sumIn_33 : decode cX0_sumIn 33 = .ok (.iadd, 1) := by decide +kernel
theorem dX0_sumIn_34 : decode cX0_sumIn 34 = .ok (.istore_n 3, 1) := by decide +kernel
theorem dX0_sumIn_35 : decode cX0_sumIn 35 = .ok (.iinc 4 1, 3) := by decide +kernel
theorem dX0_sumIn_38 : decode cX0_sumIn 38 = .ok (.goto (-33), 3) := by decide +kernel
theorem dX0_sumIn_41 : decode cX0_sumIn 41 = .ok (.iload_n 3, 1) := by decide +kernel
theorem dX0_sumIn_42 : decode cX0_sumIn 42 = .ok (.ireturn, 1) := by decide +kernel
set_option maxRecDepth 20000 in
theorem ggX0_addsUp_X0_cellsInFields : GoodIn wsX0_addsUp wsX0_cellsInFields := goodIn_r _ [7, 8, 9, 10, 11, 27, 28, 29, 30] (by decide +kernel) (by decide +kernel)
set_option maxRecDepth 20000 in
theorem gX0_addsUp_X0_cellsInFields : GoodIn wsX0_addsUp (wsV RX0 52 RX0 yX0_cellsInFields wsX0_cellsInFields) := goodIn_app (goodIn_of _ (by decide +kernel)) ggX0_addsUp_X0_cellsInFields
set_option maxRecDepth 20000 in
theorem ggX0_addsUp_X0_sumIn : GoodIn wsX0_addsUp wsX0_sumIn := goodIn_r _ [15, 16, 17, 10, 18, 19, 9, 11, 27, 28, 29, 30] (by decide +kernel) (by decide +kernel)
set_option maxRecDepth 20000 in
theorem gX0_addsUp_X0_sumIn : GoodIn wsX0_addsUp (wsV RX0 63 RX0 yX0_sumIn wsX0_sumIn) := goodIn_app (goodIn_of _ (by decide +kernel)) ggX0_addsUp_X0_sumIn
set_option maxRecDepth 20000 in
theorem ggX0_addsUp_J13_bitCount_95d88 : GoodIn wsX0_addsUp wsJ13_bitCount_95d88 := goodIn_r _ [23, 24, 25, 26] (by decide +kernel) (by decide +kernel)
set_option maxRecDepth 20000 in
theorem gX0_addsUp_J13_bitCount_95d88 : GoodIn wsX0_addsUp (va_wsS RX0 67 yJ13_bitCount_95d88 wsJ13_bitCount_95d88) := goodIn_app (goodIn_of _ (by decide +kernel)) ggX0_addsUp_J13_bitCount_95d88
theorem dX0_addsUp_0 : decode cX0_addsUp 0 = .ok (.ldc2_w 61, 3) := by decide +kernel
theorem dX0_addsUp_3 : decode cX0_addsUp 3 = .ok (.aload_n 0, 1) := by decide +kernel
theorem dX0_addsUp_4 : decode cX0_addsUp 4 = .ok (.invokevirtual 52, 3) := by decide +kernel
theorem dX0_addsUp_7 : decode cX0_addsUp 7 = .ok (.ldc2_w 55, 3) := by decide +kernel
theorem dX0_addsUp_10 : decode cX0_addsUp 10 = .ok (.lxor, 1) := by decide +kernel
theorem dX0_addsUp_11 : decode cX0_addsUp 11 = .ok (.land, 1) := by decide +kernel
theorem dX0_addsUp_12 : decode cX0_addsUp 12 = .ok (.lstore_n 1, 1) := by decide +kernel
theorem dX0_addsUp_13 : decode cX0_addsUp 13 = .ok (.aload_n 0, 1) := by decide +kernel
theorem dX0_addsUp_14 : decode cX0_addsUp 14 = .ok (.lload_n 1, 1) := by decide +kernel
theorem dX0_addsUp_15 : decode cX0_addsUp 15 = .ok (.invokevirtual 63, 3) := by decide +kernel
theorem dX0_addsUp_18 : decode cX0_addsUp 18 = .ok (.lload_n 1, 1) := by decide +kernel
theorem dX0_addsUp_19 : decode cX0_addsUp 19 = .ok (.invokestatic 67, 3) := by decide +kernel
theorem dX0_addsUp_22 : decode cX0_addsUp 22 = .ok (.if_icmp .ne 7, 3) := by decide +kernel
theorem dX0_addsUp_25 : decode cX0_addsUp 25 = .ok (.iconst 1, 1) := by decide +kernel
theorem dX0_addsUp_26 : decode cX0_addsUp 26 = .ok (.goto 4, 3) := by decide +kernel
theorem dX0_addsUp_29 : decode cX0_addsUp 29 = .ok (.iconst 0, 1) := by decide +kernel
theorem dX0_addsUp_30 : decode cX0_addsUp 30 = .ok (.ireturn, 1) := by decide +kernel
set_option maxRecDepth 20000 in
theorem ggX0_reason_X9_cellsOf : GoodIn wsX0_reason wsX9_cellsOf := goodIn_r _ [3, 4, 5, 2, 6, 7, 8, 9] (by decide +kernel) (by decide +kernel)
set_option maxRecDepth 20000 in
theorem gX0_reason_X9_cellsOf_n72 : GoodIn wsX0_reason (wsX9_cellsOf) := ggX0_reason_X9_cellsOf
set_option maxRecDepth 20000 in
theorem ggX0_reason_X0_cellsWithNumber : GoodIn wsX0_reason wsX0_cellsWithNumber := goodIn_r _ [14, 15, 8, 2, 9, 42, 43, 44, 45] (by decide +kernel) (by decide +kernel)
set_option maxRecDepth 20000 in
theorem gX0_reason_X0_cellsWithNumber : GoodIn wsX0_reason (wsV RX0 48 RX0 yX0_cellsWithNumber wsX0_cellsWithNumber) := goodIn_app (goodIn_of _ (by decide +kernel)) ggX0_reason_X0_cellsWithNumber
set_option maxRecDepth 20000 in
theorem ggX0_reason_J13_bitCount_95d88 : GoodIn wsX0_reason wsJ13_bitCount_95d88 := goodIn_r _ [19, 20, 21, 22] (by decide +kernel) (by decide +kernel)
set_option maxRecDepth 20000 in
theorem gX0_reason_J13_bitCount_95d88 : GoodIn wsX0_reason (va_wsS RX0 67 yJ13_bitCount_95d88 wsJ13_bitCount_95d88) := goodIn_app (goodIn_of _ (by decide +kernel)) ggX0_reason_J13_bitCount_95d88
set_option maxRecDepth 20000 in
theorem ggX0_reason_X0_cellsInFields : GoodIn wsX0_reason wsX0_cellsInFields := goodIn_r _ [26, 27, 8, 2, 9, 42, 43, 44, 45] (by decide +kernel) (by decide +kernel)
set_option maxRecDepth 20000 in
theorem gX0_reason_X0_cellsInFields : GoodIn wsX0_reason (wsV RX0 52 RX0 yX0_cellsInFields wsX0_cellsInFields) := goodIn_app (goodIn_of _ (by decide +kernel)) ggX0_reason_X0_cellsInFields
set_option maxRecDepth 20000 in
theorem ggX0_reason_X0_sumIn : GoodIn wsX0_reason wsX0_sumIn := goodIn_r _ [31, 15, 32, 2, 33, 7, 8, 9, 42, 43, 44, 45] (by decide +kernel) (by decide +kernel)
set_option maxRecDepth 20000 in
theorem gX0_reason_X0_sumIn : GoodIn wsX0_reason (wsV RX0 63 RX0 yX0_sumIn wsX0_sumIn) := goodIn_app (goodIn_of _ (by decide +kernel)) ggX0_reason_X0_sumIn
set_option maxRecDepth 20000 in
theorem ggX0_reason_X9_sizeOf : GoodIn wsX0_reason wsX9_sizeOf := goodIn_r _ [35, 36, 37, 2, 38, 39, 40, 41] (by decide +kernel) (by decide +kernel)
set_option maxRecDepth 20000 in
theorem gX0_reason_X9_sizeOf_n29 : GoodIn wsX0_reason (wsX9_sizeOf) := ggX0_reason_X9_sizeOf
theorem dX0_reason_0 : decode cX0_reason 0 = .ok (.iload_n 1, 1) := by decide +kernel
theorem dX0_reason_1 : decode cX0_reason 1 = .ok (.iload_n 2, 1) := by decide +kernel
theorem dX0_reason_2 : decode cX0_reason 2 = .ok (.invokestatic 72, 3) := by decide +kernel
theorem dX0_reason_5 : decode cX0_reason 5 = .ok (.lstore_n 3, 1) := by decide +kernel
theorem dX0_reason_6 : decode cX0_reason 6 = .ok (.lload_n 3, 1) := by decide +kernel
theorem dX0_reason_7 : decode cX0_reason 7 = .ok (.aload_n 0, 1) := by decide +kernel
theorem dX0_reason_8 : decode cX0_reason 8 = .ok (.invokevirtual 48, 3) := by decide +kernel
theorem dX0_reason_11 : decode cX0_reason 11 = .ok (.land, 1) := by decide +kernel
theorem dX0_reason_12 : decode cX0_reason 12 = .ok (.invokestatic 67, 3) := by decide +kernel
theorem dX0_reason_15 : decode cX0_reason 15 = .ok (.istore 5, 2) := by decide +kernel
theorem dX0_reason_17 : decode cX0_reason 17 = .ok (.lload_n 3, 1) := by decide +kernel
theorem dX0_reason_18 : decode cX0_reason 18 = .ok (.aload_n 0, 1) := by decide +kernel
theorem dX0_reason_19 : decode cX0_reason 19 = .ok (.invokevirtual 52, 3) := by decide +kernel
theorem dX0_reason_22 : decode cX0_reason 22 = .ok (.land, 1) := by decide +kernel
theorem dX0_reason_23 : decode cX0_reason 23 = .ok (.lconst 0, 1) := by decide +kernel
theorem dX0_reason_24 : decode cX0_reason 24 = .ok (.lcmp, 1) := by decide +kernel
theorem dX0_reason_25 : decode cX0_reason 25 = .ok (.ifCond .eq 5, 3) := by decide +kernel
theorem dX0_reason_28 : decode cX0_reason 28 = .ok (.iconst 1, 1) := by decide +kernel
theorem dX0_reason_29 : decode cX0_reason 29 = .ok (.ireturn, 1) := by decide +kernel
theorem dX0_reason_30 : decode cX0_reason 30 = .ok (.iload 5, 2) := by decide +kernel
theorem dX0_reason_32 : decode cX0_reason 32 = .ok (.ifCond .ne 5, 3) := by decide +kernel
theorem dX0_reason_35 : decode cX0_reason 35 = .ok (.iconst 2, 1) := by decide +kernel
theorem dX0_reason_36 : decode cX0_reason 36 = .ok (.ireturn, 1) := by decide +kernel
theorem dX0_reason_37 : decode cX0_reason 37 = .ok (.iload 5, 2) := by decide +kernel
theorem dX0_reason_39 : decode cX0_reason 39 = .ok (.iconst 1, 1) := by decide +kernel
theorem dX0_reason_40 : decode cX0_reason 40 = .ok (.if_icmp .le 5, 3) := by decide +kernel
theorem dX0_reason_43 : decode cX0_reason 43 = .ok (.iconst 3, 1) := by decide +kernel
theorem dX0_reason_44 : decode cX0_reason 44 = .ok (.ireturn, 1) := by decide +kernel
theorem dX0_reason_45 : decode cX0_reason 45 = .ok (.aload_n 0, 1) := by decide +kernel
theorem dX0_reason_46 : decode cX0_reason 46 = .ok (.lload_n 3, 1) := by decide +kernel
theorem dX0_reason_47 : decode cX0_reason 47 = .ok (.invokevirtual 63, 3) := by decide +kernel
theorem dX0_reason_50 : decode cX0_reason 50 = .ok (.iload_n 1, 1) := by decide +kernel
theorem dX0_reason_51 : decode cX0_reason 51 = .ok (.iload_n 2, 1) := by decide +kernel
theorem dX0_reason_52 : decode cX0_reason 52 = .ok (.invokestatic 29, 3) := by decide +kernel
theorem dX0_reason_55 : decode cX0_reason 55 = .ok (.if_icmp .ne 7, 3) := by decide +kernel
theorem dX0_reason_58 : decode cX0_reason 58 = .ok (.iconst 0, 1) := by decide +kernel
theorem dX0_reason_59 : decode cX0_reason 59 = .ok (.goto 4, 3) := by decide +kernel
theorem dX0_reason_62 : decode cX0_reason 62 = .ok (.iconst 4, 1) := by decide +kernel
theorem dX0_reason_63 : decode cX0_reason 63 = .ok (.ireturn, 1) := by decide +kernel
set_option maxRecDepth 20000 in
theorem ggX1_init_X0_init : GoodIn wsX1_init wsX0_init := goodIn_r _ [15, 16, 2, 3, 5, 17, 18, 19, 20, 21, 27, 28, 29, 30] (by decide +kernel) (by decide +kernel)
set_option maxRecDepth 20000 in
theorem gX1_init_X0_init : GoodIn wsX1_init (wsX0_init) := ggX1_init_X0_init
theorem dX1_init_0 : decode cX1_init 0 = .ok (.aload_n 0, 1) := by decide +kernel
theorem dX1_init_1 : decode cX1_init 1 = .ok (.invokespecial 3, 3) := by decide +kernel
theorem dX1_init_4 : decode cX1_init 4 = .ok (.aload_n 0, 1) := by decide +kernel
theorem dX1_init_5 : decode cX1_init 5 = .ok (.aload_n 1, 1) := by decide +kernel
theorem dX1_init_6 : decode cX1_init 6 = .ok (.putfield 9, 3) := by decide +kernel
theorem dX1_init_9 : decode cX1_init 9 = .ok (.aload_n 0, 1) := by decide +kernel
theorem dX1_init_10 : decode cX1_init 10 = .ok (.bipush 42, 2) := by decide +kernel
theorem dX1_init_12 : decode cX1_init 12 = .ok (.newarray .int, 2) := by decide +kernel
theorem dX1_init_14 : decode cX1_init 14 = .ok (.putfield 15, 3) := by decide +kernel
theorem dX1_init_17 : decode cX1_init 17 = .ok (.aload_n 0, 1) := by decide +kernel
theorem dX1_init_18 : decode cX1_init 18 = .ok (.new 19, 3) := by decide +kernel
theorem dX1_init_21 : decode cX1_init 21 = .ok (.dup, 1) := by decide +kernel
theorem dX1_init_22 : decode cX1_init 22 = .ok (.invokespecial 21, 3) := by decide +kernel
theorem dX1_init_25 : decode cX1_init 25 = .ok (.putfield 22, 3) := by decide +kernel
theorem dX1_init_28 : decode cX1_init 28 = .ok (.aload_n 0, 1) := by decide +kernel
theorem dX1_init_29 : decode cX1_init 29 = .ok (.iconst 0, 1) := by decide +kernel
theorem dX1_init_30 : decode cX1_init 30 = .ok (.putfield 26, 3) := by decide +kernel
theorem dX1_init_33 : decode cX1_init 33 = .ok (.aload_n 0, 1) := by decide +kernel
theorem dX1_init_34 : decode cX1_init 34 = .ok (.iconst 0, 1) := by decide +kernel
theorem dX1_init_35 : decode cX1_init 35 = .ok (.putfield 30, 3) := by decide +kernel
theorem dX1_init_38 : decode cX1_init 38 = .ok (.return_, 1) := by decide +kernel
set_option maxRecDepth 20000 in
theorem ggX1_countWays_X7_find : GoodIn wsX1_countWays wsX7_find := goodIn_r _ [9, 10, 11, 12, 13, 14, 15, 16, 17, 18, 19, 20, 21, 22, 23, 24, 25, 26, 27, 28, 29, 30, 31, 32, 33, 34, 35, 36, 37, 38, 39, 40, 41, 42, 43, 44, 8, 45, 46, 47, 48, 49, 50, 51, 122, 123, 124, 125, 126, 127, 128, 129, 130, 131, 132, 133] (by decide +kernel) (by decide +kernel)
set_option maxRecDepth 20000 in
theorem gX1_countWays_X7_find : GoodIn wsX1_countWays (wsV RX1 33 RX7 yX7_find wsX7_find) := goodIn_app (goodIn_of _ (by decide +kernel)) ggX1_countWays_X7_find
set_option maxRecDepth 20000 in
theorem ggX1_countWays_X0_copy : GoodIn wsX1_countWays wsX0_copy := goodIn_r _ [55, 25, 17, 56, 57, 130, 131, 132, 133] (by decide +kernel) (by decide +kernel)
set_option maxRecDepth 20000 in
theorem gX1_countWays_X0_copy : GoodIn wsX1_countWays (wsV RX1 39 RX0 yX0_copy wsX0_copy) := goodIn_app (goodIn_of _ (by decide +kernel)) ggX1_countWays_X0_copy
set_option maxRecDepth 20000 in
theorem ggX1_countWays_X0_addsUp : GoodIn wsX1_countWays wsX0_addsUp := goodIn_r _ [61, 62, 63, 64, 13, 14, 15, 16, 17, 18, 19, 20, 65, 66, 67, 68, 25, 69, 70, 71, 72, 27, 28, 29, 30, 31, 32, 130, 131, 132, 133] (by decide +kernel) (by decide +kernel)
set_option maxRecDepth 20000 in
theorem gX1_countWays_X0_addsUp : GoodIn wsX1_countWays (wsV RX1 42 RX0 yX0_addsUp wsX0_addsUp) := goodIn_app (goodIn_of _ (by decide +kernel)) ggX1_countWays_X0_addsUp
set_option maxRecDepth 20000 in
theorem ggX1_countWays_X0_cellsInFields : GoodIn wsX1_countWays wsX0_cellsInFields := goodIn_r _ [16, 17, 18, 19, 20, 130, 131, 132, 133] (by decide +kernel) (by decide +kernel)
set_option maxRecDepth 20000 in
theorem gX1_countWays_X0_cellsInFields : GoodIn wsX1_countWays (wsV RX1 46 RX0 yX0_cellsInFields wsX0_cellsInFields) := goodIn_app (goodIn_of _ (by decide +kernel)) ggX1_countWays_X0_cellsInFields
set_option maxRecDepth 20000 in
theorem ggX1_countWays_X1_fill : GoodIn wsX1_countWays wsX1_fill := goodIn_r _ [78, 79, 4, 1, 80, 81, 82, 83, 77, 84, 2, 85, 86, 87, 88, 8, 89, 10, 46, 90, 91, 92, 93, 48, 94, 95, 96, 15, 97, 17, 56, 57, 98, 19, 99, 100, 101, 102, 103, 104, 105, 106, 107, 50, 33, 34, 35, 27, 28, 29, 30, 31, 32, 108, 109, 110, 111, 3, 112, 113, 114, 115, 116, 74, 75, 76, 117, 118, 119, 120, 121, 122, 123, 124, 125, 126, 127, 128, 129, 130, 131, 132, 133] (by decide +kernel) (by decide +kernel)
set_option maxRecDepth 20000 in
theorem gX1_countWays_X1_fill : GoodIn wsX1_countWays (wsV RX1 50 RX1 yX1_fill wsX1_fill) := goodIn_app (goodIn_of _ (by decide +kernel)) ggX1_countWays_X1_fill
theorem dX1_countWays_0 : decode cX1_countWays 0 = .ok (.aload_n 0, 1) := by decide +kernel
theorem dX1_countWays_1 : decode cX1_countWays 1 = .ok (.getfield 9, 3) := by decide +kernel
theorem dX1_countWays_4 : decode cX1_countWays 4 = .ok (.aload_n 1, 1) := by decide +kernel
theorem dX1_countWays_5 : decode cX1_countWays 5 = .ok (.invokevirtual 33, 3) := by decide +kernel
theorem dX1_countWays_8 : decode cX1_countWays 8 = .ok (.aload_n 0, 1) := by decide +kernel
theorem dX1_countWays_9 : decode cX1_countWays 9 = .ok (.getfield 22, 3) := by decide +kernel
theorem dX1_countWays_12 : decode cX1_countWays 12 = .ok (.aload_n 1, 1) := by decide +kernel
theorem dX1_countWays_13 : decode cX1_countWays 13 = .ok (.invokevirtual 39, 3) := by decide +kernel
theorem dX1_countWays_16 : decode cX1_countWays 16 = .ok (.aload_n 0, 1) := by decide +kernel
theorem dX1_countWays_17 : decode cX1_countWays 17 = .ok (.iload_n 2, 1) := by decide +kernel
theorem dX1_countWays_18 : decode cX1_countWays 18 = .ok (.putfield 26, 3) := by decide +kernel
theorem dX1_countWays_21 : decode cX1_countWays 21 = .ok (.aload_n 0, 1) := by decide +kernel
theorem dX1_countWays_22 : decode cX1_countWays 22 = .ok (.iconst 0, 1) := by decide +kernel
theorem dX1_countWays_23 : decode cX1_countWays 23 = .ok (.putfield 30, 3) := by decide +kernel
theorem dX1_countWays_26 : decode cX1_countWays 26 = .ok (.aload_n 1, 1) := by decide +kernel
theorem dX1_countWays_27 : decode cX1_countWays 27 = .ok (.invokevirtual 42, 3) := by decide +kernel
theorem dX1_countWays_30 : decode cX1_countWays 30 = .ok (.ifCond .eq 12, 3) := by decide +kernel
theorem dX1_countWays_33 : decode cX1_countWays 33 = .ok (.aload_n 0, 1) := by decide +kernel
theorem dX1_countWays_34 : decode cX1_countWays 34 = .ok (.aload_n 1, 1) := by decide +kernel
theorem dX1_countWays_35 : decode cX1_countWays 35 = .ok (.invokevirtual 46, 3) := by decide +kernel
theorem dX1_countWays_38 : decode cX1_countWays 38 = .ok (.iconst 0, 1) := by decide +kernel
theorem dX1_countWays_39 : decode cX1_countWays 39 = .ok (.invokevirtual 50, 3) := by decide +kernel
theorem dX1_countWays_42 : decode cX1_countWays 42 = .ok (.aload_n 0, 1) := by decide +kernel
theorem dX1_countWays_43 : decode cX1_countWays 43 = .ok (.getfield 30, 3) := by decide +kernel
theorem dX1_countWays_46 : decode cX1_countWays 46 = .ok (.ireturn, 1) := by decide +kernel
theorem dX1_firstWay_0 : decode cX1_firstWay 0 = .ok (.aload_n 0, 1) := by decide +kernel
theorem dX1_firstWay_1 : decode cX1_firstWay 1 = .ok (.getfield 22, 3) := by decide +kernel
theorem dX1_firstWay_4 : decode cX1_firstWay 4 = .ok (.areturn, 1) := by decide +kernel
set_option maxRecDepth 20000 in
theorem ggX1_fill_X1_placeChosen : GoodIn wsX1_fill wsX1_placeChosen := goodIn_r _ [9, 10, 3, 11, 12, 13, 14, 15, 16, 17, 18, 19, 20, 21, 22, 23, 24, 25, 26, 27, 28, 29, 30, 31, 32, 33, 34, 66, 67, 68, 69, 70, 71, 72, 73, 74, 75, 76, 77, 78, 79, 80, 81, 82] (by decide +kernel) (by decide +kernel)
set_option maxRecDepth 20000 in
theorem gX1_fill_X1_placeChosen : GoodIn wsX1_fill (wsV RX1 56 RX1 yX1_placeChosen wsX1_placeChosen) := goodIn_app (goodIn_of _ (by decide +kernel)) ggX1_fill_X1_placeChosen
set_option maxRecDepth 20000 in
theorem ggX1_fill_X7_cellsInReach : GoodIn wsX1_fill wsX7_cellsInReach := goodIn_r _ [38, 17, 39, 40, 41, 15, 42, 43, 71, 72, 73, 74, 75, 76, 77, 78] (by decide +kernel) (by decide +kernel)
set_option maxRecDepth 20000 in
theorem gX1_fill_X7_cellsInReach : GoodIn wsX1_fill (wsV RX1 60 RX7 yX7_cellsInReach wsX7_cellsInReach) := goodIn_app (goodIn_of _ (by decide +kernel)) ggX1_fill_X7_cellsInReach
set_option maxRecDepth 20000 in
theorem ggX1_fill_X9_lowestCell : GoodIn wsX1_fill wsX9_lowestCell := goodIn_r _ [45, 46, 47, 48, 49, 50, 51, 52] (by decide +kernel) (by decide +kernel)
set_option maxRecDepth 20000 in
theorem gX1_fill_X9_lowestCell_n66 : GoodIn wsX1_fill (wsX9_lowestCell) := ggX1_fill_X9_lowestCell
set_option maxRecDepth 20000 in
theorem ggX1_fill_X1_fillFrom : GoodIn wsX1_fill wsX1_fillFrom := goodIn_r _ [56, 3, 2, 57, 11, 58, 59, 60, 15, 61, 17, 62, 40, 41, 42, 43, 12, 13, 14, 16, 18, 63, 64, 65, 8, 0, 1, 4, 5, 6, 7, 9, 10, 19, 20, 21, 22, 23, 24, 25, 26, 27, 28, 29, 30, 31, 32, 33, 34, 35, 36, 37, 38, 39, 44, 45, 46, 47, 48, 49, 50, 51, 52, 53, 54, 55, 66, 67, 68, 69, 70, 71, 72, 73, 74, 75, 76, 77, 78, 79, 80, 81, 82] (by decide +kernel) (by decide +kernel)
set_option maxRecDepth 20000 in
theorem gX1_fill_X1_fillFrom : GoodIn wsX1_fill (wsV RX1 70 RX1 yX1_fillFrom wsX1_fillFrom) := goodIn_app (goodIn_of _ (by decide +kernel)) ggX1_fill_X1_fillFrom
theorem dX1_fill_0 : decode cX1_fill 0 = .ok (.lload_n 1, 1) := by decide +kernel
theorem dX1_fill_1 : decode cX1_fill 1 = .ok (.ldc2_w 54, 3) := by decide +kernel
theorem dX1_fill_4 : decode cX1_fill 4 = .ok (.lcmp, 1) := by decide +kernel
theorem dX1_fill_5 : decode cX1_fill 5 = .ok (.ifCond .ne 28, 3) := by decide +kernel
theorem dX1_fill_8 : decode cX1_fill 8 = .ok (.aload_n 0, 1) := by decide +kernel
theorem dX1_fill_9 : decode cX1_fill 9 = .ok (.getfield 30, 3) := by decide +kernel
theorem dX1_fill_12 : decode cX1_fill 12 = .ok (.ifCond .ne 8, 3) := by decide +kernel
theorem dX1_fill_15 : decode cX1_fill 15 = .ok (.aload_n 0, 1) := by decide +kernel
theorem dX1_fill_16 : decode cX1_fill 16 = .ok (.iload_n 3, 1) := by decide +kernel
theorem dX1_fill_17 : decode cX1_fill 17 = .ok (.invokevirtual 56, 3) := by decide +kernel
theorem dX1_fill_20 : decode cX1_fill 20 = .ok (.aload_n 0, 1) := by decide +kernel
theorem dX1_fill_21 : decode cX1_fill 21 = .ok (.dup, 1) := by decide +kernel
theorem dX1_fill_22 : decode cX1_fill 22 = .ok (.getfield 30, 3) := by decide +kernel
theorem dX1_fill_25 : decode cX1_fill 25 = .ok (.iconst 1, 1) := by decide +kernel
theorem dX1_fill_26 : decode cX1_fill 26 = .ok (.iadd, 1) := by decide +kernel
theorem dX1_fill_27 : decode cX1_fill 27 = .ok (.putfield 30, 3) := by decide +kernel
theorem dX1_fill_30 : decode cX1_fill 30 = .ok (.goto 48, 3) := by decide +kernel
theorem dX1_fill_33 : decode cX1_fill 33 = .ok (.iload_n 3, 1) := by decide +kernel
theorem dX1_fill_34 : decode cX1_fill 34 = .ok (.bipush 42, 2) := by decide +kernel
theorem dX1_fill_36 : decode cX1_fill 36 = .ok (.if_icmp .ge 42, 3) := by decide +kernel
theorem dX1_fill_39 : decode cX1_fill 39 = .ok (.aload_n 0, 1) := by decide +kernel
theorem dX1_fill_40 : decode cX1_fill 40 = .ok (.getfield 9, 3) := by decide +kernel
theorem dX1_fill_43 : decode cX1_fill 43 = .ok (.lload_n 1, 1) := by decide +kernel
theorem dX1_fill_44 : decode cX1_fill 44 = .ok (.invokevirtual 60, 3) := by decide +kernel
theorem dX1_fill_47 : decode cX1_fill 47 = .ok (.ldc2_w 54, 3) := by decide +kernel
theorem dX1_fill_50 : decode cX1_fill 50 = .ok (.lload_n 1, 1) := by decide +kernel
theorem dX1_fill_51 : decode cX1_fill 51 = .ok (.ldc2_w 64, 3) := by decide +kernel
theorem dX1_fill_54 : decode cX1_fill 54 = .ok (.lxor, 1) := by decide +kernel
theorem dX1_fill_55 : decode cX1_fill 55 = .ok (.land, 1) := by decide +kernel
theorem dX1_fill_56 : decode cX1_fill 56 = .ok (.lcmp, 1) := by decide +kernel
theorem dX1_fill_57 : decode cX1_fill 57 = .ok (.ifCond .ne 21, 3) := by decide +kernel
theorem dX1_fill_60 : decode cX1_fill 60 = .ok (.aload_n 0, 1) := by decide +kernel
theorem dX1_fill_61 : decode cX1_fill 61 = .ok (.ldc2_w 54, 3) := by decide +kernel
theorem dX1_fill_64 : decode cX1_fill 64 = .ok (.lload_n 1, 1) := by decide +kernel
theorem dX1_fill_65 : decode cX1_fill 65 = .ok (.ldc2_w 64, 3) := by decide +kernel
theorem dX1_fill_68 : decode cX1_fill 68 = .ok (.lxor, 1) := by decide +kernel
theorem dX1_fill_69 : decode cX1_fill 69 = .ok (.land, 1) := by decide +kernel
theorem dX1_fill_70 : decode cX1_fill 70 = .ok (.invokestatic 66, 3) := by decide +kernel
theorem dX1_fill_73 : decode cX1_fill 73 = .ok (.lload_n 1, 1) := by decide +kernel
theorem dX1_fill_74 : decode cX1_fill 74 = .ok (.iload_n 3, 1) := by decide +kernel
theorem dX1_fill_75 : decode cX1_fill 75 = .ok (.invokevirtual 70, 3) := by decide +kernel
theorem dX1_fill_78 : decode cX1_fill 78 = .ok (.return_, 1) := by decide +kernel
set_option maxRecDepth 20000 in
theorem ggX1_fillFrom_X7_size : GoodIn wsX1_fillFrom wsX7_size := goodIn_r _ [9, 10, 71, 72, 73, 74, 75, 76, 77, 78] (by decide +kernel) (by decide +kernel)
set_option maxRecDepth 20000 in
theorem gX1_fillFrom_X7_size : GoodIn wsX1_fillFrom (wsV RX1 74 RX7 yX7_size wsX7_size) := goodIn_app (goodIn_of _ (by decide +kernel)) ggX1_fillFrom_X7_size
set_option maxRecDepth 20000 in
theorem ggX1_fillFrom_X7_cellsAt : GoodIn wsX1_fillFrom wsX7_cellsAt := goodIn_r _ [14, 10, 15, 71, 72, 73, 74, 75, 76, 77, 78] (by decide +kernel) (by decide +kernel)
set_option maxRecDepth 20000 in
theorem gX1_fillFrom_X7_cellsAt : GoodIn wsX1_fillFrom (wsV RX1 78 RX7 yX7_cellsAt wsX7_cellsAt) := goodIn_app (goodIn_of _ (by decide +kernel)) ggX1_fillFrom_X7_cellsAt
set_option maxRecDepth 20000 in
theorem ggX1_fillFrom_X7_firstAt : GoodIn wsX1_fillFrom wsX7_firstAt := goodIn_r _ [19, 10, 20, 71, 72, 73, 74, 75, 76, 77, 78] (by decide +kernel) (by decide +kernel)
set_option maxRecDepth 20000 in
theorem gX1_fillFrom_X7_firstAt : GoodIn wsX1_fillFrom (wsV RX1 82 RX7 yX7_firstAt wsX7_firstAt) := goodIn_app (goodIn_of _ (by decide +kernel)) ggX1_fillFrom_X7_firstAt
set_option maxRecDepth 20000 in
theorem ggX1_fillFrom_X1_fill : GoodIn wsX1_fillFrom wsX1_fill := goodIn_r _ [25, 26, 2, 1, 27, 28, 29, 30, 24, 31, 32, 4, 16, 17, 18, 8, 19, 10, 20, 33, 34, 35, 36, 37, 38, 39, 40, 41, 42, 43, 44, 45, 46, 47, 48, 49, 50, 51, 52, 53, 12, 13, 14, 15, 54, 55, 56, 57, 58, 59, 60, 61, 62, 63, 64, 65, 0, 3, 5, 6, 7, 9, 11, 21, 22, 23, 66, 67, 68, 69, 70, 71, 72, 73, 74, 75, 76, 77, 78, 79, 80, 81, 82] (by decide +kernel) (by decide +kernel)
set_option maxRecDepth 20000 in
theorem gX1_fillFrom_X1_fill : GoodIn wsX1_fillFrom (wsV RX1 50 RX1 yX1_fill wsX1_fill) := goodIn_app (goodIn_of _ (by decide +kernel)) ggX1_fillFrom_X1_fill
theorem dX1_fillFrom_0 : decode cX1_fillFrom 0 = .ok (.iconst 0, 1) := by decide +kernel
theorem dX1_fillFrom_1 : decode cX1_fillFrom 1 = .ok (.istore 5, 2) := by decide +kernel
theorem dX1_fillFrom_3 : decode cX1_fillFrom 3 = .ok (.iload 5, 2) := by decide +kernel
theorem dX1_fillFrom_5 : decode cX1_fillFrom 5 = .ok (.aload_n 0, 1) := by decide +kernel
theorem dX1_fillFrom_6 : decode cX1_fillFrom 6 = .ok (.getfield 9, 3) := by decide +kernel
theorem dX1_fillFrom_9 : decode cX1_fillFrom 9 = .ok (.invokevirtual 74, 3) := by decide +kernel
theorem dX1_fillFrom_12 : decode cX1_fillFrom 12 = .ok (.if_icmp .ge 86, 3) := by decide +kernel
theorem dX1_fillFrom_15 : decode cX1_fillFrom 15 = .ok (.aload_n 0, 1) := by decide +kernel
theorem dX1_fillFrom_16 : decode cX1_fillFrom 16 = .ok (.getfield 30, 3) := by decide +kernel
theorem dX1_fillFrom_19 : decode cX1_fillFrom 19 = .ok (.aload_n 0, 1) := by decide +kernel
theorem dX1_fillFrom_20 : decode cX1_fillFrom 20 = .ok (.getfield 26, 3) := by decide +kernel
theorem dX1_fillFrom_23 : decode cX1_fillFrom 23 = .ok (.if_icmp .ge 75, 3) := by decide +kernel
theorem dX1_fillFrom_26 : decode cX1_fillFrom 26 = .ok (.aload_n 0, 1) := by decide +kernel
theorem dX1_fillFrom_27 : decode cX1_fillFrom 27 = .ok (.getfield 9, 3) := by decide +kernel
theorem dX1_fillFrom_30 : decode cX1_fillFrom 30 = .ok (.iload 5, 2) := by decide +kernel
theorem dX1_fillFrom_32 : decode cX1_fillFrom 32 = .ok (.invokevirtual 78, 3) := by decide +kernel
theorem dX1_fillFrom_35 : decode cX1_fillFrom 35 = .ok (.lstore 6, 2) := by decide +kernel
theorem dX1_fillFrom_37 : decode cX1_fillFrom 37 = .ok (.aload_n 0, 1) := by decide +kernel
theorem dX1_fillFrom_38 : decode cX1_fillFrom 38 = .ok (.getfield 9, 3) := by decide +kernel
theorem dX1_fillFrom_41 : decode cX1_fillFrom 41 = .ok (.iload 5, 2) := by decide +kernel
theorem dX1_fillFrom_43 : decode cX1_fillFrom 43 = .ok (.invokevirtual 82, 3) := by decide +kernel
theorem dX1_fillFrom_46 : decode cX1_fillFrom 46 = .ok (.iload_n 1, 1) := by decide +kernel
theorem dX1_fillFrom_47 : decode cX1_fillFrom 47 = .ok (.if_icmp .ne 45, 3) := by decide +kernel
theorem dX1_fillFrom_50 : decode cX1_fillFrom 50 = .ok (.lload 6, 2) := by decide +kernel
theorem dX1_fillFrom_52 : decode cX1_fillFrom 52 = .ok (.lload_n 2, 1) := by decide +kernel
theorem dX1_fillFrom_53 : decode cX1_fillFrom 53 = .ok (.land, 1) := by decide +kernel
theorem dX1_fillFrom_54 : decode cX1_fillFrom 54 = .ok (.lconst 0, 1) := by decide +kernel
theorem dX1_fillFrom_55 : decode cX1_fillFrom 55 = .ok (.lcmp, 1) := by decide +kernel
theorem dX1_fillFrom_56 : decode cX1_fillFrom 56 = .ok (.ifCond .ne 36, 3) := by decide +kernel
theorem dX1_fillFrom_59 : decode cX1_fillFrom 59 = .ok (.iload 4, 2) := by decide +kernel
theorem dX1_fillFrom_61 : decode cX1_fillFrom 61 = .ok (.ifCond .lt 31, 3) := by decide +kernel
theorem dX1_fillFrom_64 : decode cX1_fillFrom 64 = .ok (.iload 4, 2) := by decide +kernel
theorem dX1_fillFrom_66 : decode cX1_fillFrom 66 = .ok (.bipush 42, 2) := by decide +kernel
theorem dX1_fillFrom_68 : decode cX1_fillFrom 68 = .ok (.if_icmp .ge 24, 3) := by decide +kernel
theorem dX1_fillFrom_71 : decode cX1_fillFrom 71 = .ok (.aload_n 0, 1) := by decide +kernel
theorem dX1_fillFrom_72 : decode cX1_fillFrom 72 = .ok (.getfield 15, 3) := by decide +kernel
theorem dX1_fillFrom_75 : decode cX1_fillFrom 75 = .ok (.iload 4, 2) := by decide +kernel
theorem dX1_fillFrom_77 : decode cX1_fillFrom 77 = .ok (.iload 5, 2) := by decide +kernel
theorem dX1_fillFrom_79 : decode cX1_fillFrom 79 = .ok (.iastore, 1) := by decide +kernel
theorem dX1_fillFrom_80 : decode cX1_fillFrom 80 = .ok (.aload_n 0, 1) := by decide +kernel
theorem dX1_fillFrom_81 : decode cX1_fillFrom 81 = .ok (.lload_n 2, 1) := by decide +kernel
theorem dX1_fillFrom_82 : decode cX1_fillFrom 82 = .ok (.lload 6, 2) := by decide +kernel
theorem dX1_fillFrom_84 : decode cX1_fillFrom 84 = .ok (.lor, 1) := by decide +kernel
theorem dX1_fillFrom_85 : decode cX1_fillFrom 85 = .ok (.iload 4, 2) := by decide +kernel
theorem dX1_fillFrom_87 : decode cX1_fillFrom 87 = .ok (.iconst 1, 1) := by decide +kernel
theorem dX1_fillFrom_88 : decode cX1_fillFrom 88 = .ok (.iadd, 1) := by decide +kernel
theorem dX1_fillFrom_89 : decode cX1_fillFrom 89 = .ok (.invokevirtual 50, 3) := by decide +kernel
theorem dX1_fillFrom_92 : decode cX1_fillFrom 92 = .ok (.iinc 5 1, 3) := by decide +kernel
theorem dX1_fillFrom_95 : decode cX1_fillFrom 95 = .ok (.goto (-92), 3) := by decide +kernel
theorem dX1_fillFrom_98 : decode cX1_fillFrom 98 = .ok (.return_, 1) := by decide +kernel
set_option maxRecDepth 20000 in
theorem ggX1_placeChosen_X7_firstAt : GoodIn wsX1_placeChosen wsX7_firstAt := goodIn_r _ [8, 9, 10, 32, 33, 34, 35, 36, 37, 38, 39] (by decide +kernel) (by decide +kernel)
set_option maxRecDepth 20000 in
theorem gX1_placeChosen_X7_firstAt : GoodIn wsX1_placeChosen (wsV RX1 82 RX7 yX7_firstAt wsX7_firstAt) := goodIn_app (goodIn_of _ (by decide +kernel)) ggX1_placeChosen_X7_firstAt
set_option maxRecDepth 20000 in
theorem ggX1_placeChosen_X7_lastAt : GoodIn wsX1_placeChosen wsX7_lastAt := goodIn_r _ [14, 9, 15, 32, 33, 34, 35, 36, 37, 38, 39] (by decide +kernel) (by decide +kernel)
set_option maxRecDepth 20000 in
theorem gX1_placeChosen_X7_lastAt : GoodIn wsX1_placeChosen (wsV RX1 86 RX7 yX7_lastAt wsX7_lastAt) := goodIn_app (goodIn_of _ (by decide +kernel)) ggX1_placeChosen_X7_lastAt
set_option maxRecDepth 20000 in
theorem ggX1_placeChosen_X0_place : GoodIn wsX1_placeChosen wsX0_place := goodIn_r _ [20, 21, 22, 23, 24, 25, 26, 40, 41, 42, 43] (by decide +kernel) (by decide +kernel)
set_option maxRecDepth 20000 in
theorem gX1_placeChosen_X0_place : GoodIn wsX1_placeChosen (wsV RX1 89 RX0 yX0_place wsX0_place) := goodIn_app (goodIn_of _ (by decide +kernel)) ggX1_placeChosen_X0_place
theorem dX1_placeChosen_0 : decode cX1_placeChosen 0 = .ok (.iconst 0, 1) := by decide +kernel
theorem dX1_placeChosen_1 : decode cX1_placeChosen 1 = .ok (.istore_n 2, 1) := by decide +kernel
theorem dX1_placeChosen_2 : decode cX1_placeChosen 2 = .ok (.iload_n 2, 1) := by decide +kernel
theorem dX1_placeChosen_3 : decode cX1_placeChosen 3 = .ok (.iload_n 1, 1) := by decide +kernel
theorem dX1_placeChosen_4 : decode cX1_placeChosen 4 = .ok (.if_icmp .ge 48, 3) := by decide +kernel
theorem dX1_placeChosen_7 : decode cX1_placeChosen 7 = .ok (.iload_n 2, 1) := by decide +kernel
theorem dX1_placeChosen_8 : decode cX1_placeChosen 8 = .ok (.bipush 42, 2) := by decide +kernel
theorem dX1_placeChosen_10 : decode cX1_placeChosen 10 = .ok (.if_icmp .ge 42, 3) := by decide +kernel
theorem dX1_placeChosen_13 : decode cX1_placeChosen 13 = .ok (.aload_n 0, 1) := by decide +kernel
theorem dX1_placeChosen_14 : decode cX1_placeChosen 14 = .ok (.getfield 22, 3) := by decide +kernel
theorem dX1_placeChosen_17 : decode cX1_placeChosen 17 = .ok (.aload_n 0, 1) := by decide +kernel
theorem dX1_placeChosen_18 : decode cX1_placeChosen 18 = .ok (.getfield 9, 3) := by decide +kernel
theorem dX1_placeChosen_21 : decode cX1_placeChosen 21 = .ok (.aload_n 0, 1) := by decide +kernel
theorem dX1_placeChosen_22 : decode cX1_placeChosen 22 = .ok (.getfield 15, 3) := by decide +kernel
theorem dX1_placeChosen_25 : decode cX1_placeChosen 25 = .ok (.iload_n 2, 1) := by decide +kernel
theorem dX1_placeChosen_26 : decode cX1_placeChosen 26 = .ok (.iaload, 1) := by decide +kernel
theorem dX1_placeChosen_27 : decode cX1_placeChosen 27 = .ok (.invokevirtual 82, 3) := by decide +kernel
theorem dX1_placeChosen_30 : decode cX1_placeChosen 30 = .ok (.aload_n 0, 1) := by decide +kernel
theorem dX1_placeChosen_31 : decode cX1_placeChosen 31 = .ok (.getfield 9, 3) := by decide +kernel
theorem dX1_placeChosen_34 : decode cX1_placeChosen 34 = .ok (.aload_n 0, 1) := by decide +kernel
theorem dX1_placeChosen_35 : decode cX1_placeChosen 35 = .ok (.getfield 15, 3) := by decide +kernel
theorem dX1_placeChosen_38 : decode cX1_placeChosen 38 = .ok (.iload_n 2, 1) := by decide +kernel
theorem dX1_placeChosen_39 : decode cX1_placeChosen 39 = .ok (.iaload, 1) := by decide +kernel
theorem dX1_placeChosen_40 : decode cX1_placeChosen 40 = .ok (.invokevirtual 86, 3) := by decide +kernel
theorem dX1_placeChosen_43 : decode cX1_placeChosen 43 = .ok (.invokevirtual 89, 3) := by decide +kernel
theorem dX1_placeChosen_46 : decode cX1_placeChosen 46 = .ok (.iinc 2 1, 3) := by decide +kernel
theorem dX1_placeChosen_49 : decode cX1_placeChosen 49 = .ok (.goto (-47), 3) := by decide +kernel
theorem dX1_placeChosen_52 : decode cX1_placeChosen 52 = .ok (.return_, 1) := by decide +kernel
set_option maxRecDepth 20000 in
theorem ggX3_init_X0_init : GoodIn wsX3_init wsX0_init := goodIn_r _ [14, 15, 2, 3, 16, 17, 9, 18, 19, 20, 25, 26, 27, 28] (by decide +kernel) (by decide +kernel)
set_option maxRecDepth 20000 in
theorem gX3_init_X0_init : GoodIn wsX3_init (wsX0_init) := ggX3_init_X0_init
theorem dX3_init_0 : decode cX3_init 0 = .ok (.aload_n 0, 1) := by decide +kernel
theorem dX3_init_1 : decode cX3_init 1 = .ok (.invokespecial 3, 3) := by decide +kernel
theorem dX3_init_4 : decode cX3_init 4 = .ok (.aload_n 0, 1) := by decide +kernel
theorem dX3_init_5 : decode cX3_init 5 = .ok (.bipush 6, 2) := by decide +kernel
theorem dX3_init_7 : decode cX3_init 7 = .ok (.anewarray 9, 3) := by decide +kernel
theorem dX3_init_10 : decode cX3_init 10 = .ok (.putfield 11, 3) := by decide +kernel
theorem dX3_init_13 : decode cX3_init 13 = .ok (.iconst 0, 1) := by decide +kernel
theorem dX3_init_14 : decode cX3_init 14 = .ok (.istore_n 1, 1) := by decide +kernel
theorem dX3_init_15 : decode cX3_init 15 = .ok (.iload_n 1, 1) := by decide +kernel
theorem dX3_init_16 : decode cX3_init 16 = .ok (.bipush 6, 2) := by decide +kernel
theorem dX3_init_18 : decode cX3_init 18 = .ok (.if_icmp .ge 22, 3) := by decide +kernel
theorem dX3_init_21 : decode cX3_init 21 = .ok (.aload_n 0, 1) := by decide +kernel
theorem dX3_init_22 : decode cX3_init 22 = .ok (.getfield 11, 3) := by decide +kernel
theorem dX3_init_25 : decode cX3_init 25 = .ok (.iload_n 1, 1) := by decide +kernel
theorem dX3_init_26 : decode cX3_init 26 = .ok (.new 9, 3) := by decide +kernel
theorem dX3_init_29 : decode cX3_init 29 = .ok (.dup, 1) := by decide +kernel
theorem dX3_init_30 : decode cX3_init 30 = .ok (.invokespecial 17, 3) := by decide +kernel
theorem dX3_init_33 : decode cX3_init 33 = .ok (.aastore, 1) := by decide +kernel
theorem dX3_init_34 : decode cX3_init 34 = .ok (.iinc 1 1, 3) := by decide +kernel
theorem dX3_init_37 : decode cX3_init 37 = .ok (.goto (-22), 3) := by decide +kernel
theorem dX3_init_40 : decode cX3_init 40 = .ok (.aload_n 0, 1) := by decide +kernel
theorem dX3_init_41 : decode cX3_init 41 = .ok (.iconst 2, 1) := by decide +kernel
theorem dX3_init_42 : decode cX3_init 42 = .ok (.anewarray 9, 3) := by decide +kernel
theorem dX3_init_45 : decode cX3_init 45 = .ok (.putfield 18, 3) := by decide +kernel
theorem dX3_init_48 : decode cX3_init 48 = .ok (.iconst 0, 1) := by decide +kernel
theorem dX3_init_49 : decode cX3_init 49 = .ok (.istore_n 1, 1) := by decide +kernel
theorem dX3_init_50 : decode cX3_init 50 = .ok (.iload_n 1, 1) := by decide +kernel
theorem dX3_init_51 : decode cX3_init 51 = .ok (.iconst 2, 1) := by decide +kernel
theorem dX3_init_52 : decode cX3_init 52 = .ok (.if_icmp .ge 22, 3) := by decide +kernel
theorem dX3_init_55 : decode cX3_init 55 = .ok (.aload_n 0, 1) := by decide +kernel
theorem dX3_init_56 : decode cX3_init 56 = .ok (.getfield 18, 3) := by decide +kernel
theorem dX3_init_59 : decode cX3_init 59 = .ok (.iload_n 1, 1) := by decide +kernel
theorem dX3_init_60 : decode cX3_init 60 = .ok (.new 9, 3) := by decide +kernel
theorem dX3_init_63 : decode cX3_init 63 = .ok (.dup, 1) := by decide +kernel
theorem dX3_init_64 : decode cX3_init 64 = .ok (.invokespecial 17, 3) := by decide +kernel
theorem dX3_init_67 : decode cX3_init 67 = .ok (.aastore, 1) := by decide +kernel
theorem dX3_init_68 : decode cX3_init 68 = .ok (.iinc 1 1, 3) := by decide +kernel
theorem dX3_init_71 : decode cX3_init 71 = .ok (.goto (-21), 3) := by decide +kernel
theorem dX3_init_74 : decode cX3_init 74 = .ok (.aload_n 0, 1) := by decide +kernel
theorem dX3_init_75 : decode cX3_init 75 = .ok (.iconst 2, 1) := by decide +kernel
theorem dX3_init_76 : decode cX3_init 76 = .ok (.newarray .boolean, 2) := by decide +kernel
theorem dX3_init_78 : decode cX3_init 78 = .ok (.putfield 21, 3) := by decide +kernel
theorem dX3_init_81 : decode cX3_init 81 = .ok (.aload_n 0, 1) := by decide +kernel
theorem dX3_init_82 : decode cX3_init 82 = .ok (.iconst 0, 1) := by decide +kernel
theorem dX3_init_83 : decode cX3_init 83 = .ok (.putfield 25, 3) := by decide +kernel
theorem dX3_init_86 : decode cX3_init 86 = .ok (.return_, 1) := by decide +kernel
set_option maxRecDepth 20000 in
theorem ggX3_save_X3_dropOldest : GoodIn wsX3_save wsX3_dropOldest := goodIn_r _ [7, 2, 1, 17, 18, 19, 20] (by decide +kernel) (by decide +kernel)
set_option maxRecDepth 20000 in
theorem gX3_save_X3_dropOldest : GoodIn wsX3_save (wsV RX3 29 RX3 yX3_dropOldest wsX3_dropOldest) := goodIn_app (goodIn_of _ (by decide +kernel)) ggX3_save_X3_dropOldest
set_option maxRecDepth 20000 in
theorem ggX3_save_X0_copy : GoodIn wsX3_save wsX0_copy := goodIn_r _ [12, 13, 14, 15, 16, 21, 22, 23, 24] (by decide +kernel) (by decide +kernel)
set_option maxRecDepth 20000 in
theorem gX3_save_X0_copy : GoodIn wsX3_save (wsV RX3 32 RX0 yX0_copy wsX0_copy) := goodIn_app (goodIn_of _ (by decide +kernel)) ggX3_save_X0_copy
theorem dX3_save_0 : decode cX3_save 0 = .ok (.aload_n 0, 1) := by decide +kernel
theorem dX3_save_1 : decode cX3_save 1 = .ok (.getfield 25, 3) := by decide +kernel
theorem dX3_save_4 : decode cX3_save 4 = .ok (.bipush 6, 2) := by decide +kernel
theorem dX3_save_6 : decode cX3_save 6 = .ok (.if_icmp .lt 7, 3) := by decide +kernel
theorem dX3_save_9 : decode cX3_save 9 = .ok (.aload_n 0, 1) := by decide +kernel
theorem dX3_save_10 : decode cX3_save 10 = .ok (.invokevirtual 29, 3) := by decide +kernel
theorem dX3_save_13 : decode cX3_save 13 = .ok (.aload_n 0, 1) := by decide +kernel
theorem dX3_save_14 : decode cX3_save 14 = .ok (.getfield 25, 3) := by decide +kernel
theorem dX3_save_17 : decode cX3_save 17 = .ok (.ifCond .lt 47, 3) := by decide +kernel
theorem dX3_save_20 : decode cX3_save 20 = .ok (.aload_n 0, 1) := by decide +kernel
theorem dX3_save_21 : decode cX3_save 21 = .ok (.getfield 25, 3) := by decide +kernel
theorem dX3_save_24 : decode cX3_save 24 = .ok (.bipush 6, 2) := by decide +kernel
theorem dX3_save_26 : decode cX3_save 26 = .ok (.if_icmp .ge 38, 3) := by decide +kernel
theorem dX3_save_29 : decode cX3_save 29 = .ok (.aload_n 0, 1) := by decide +kernel
theorem dX3_save_30 : decode cX3_save 30 = .ok (.getfield 11, 3) := by decide +kernel
theorem dX3_save_33 : decode cX3_save 33 = .ok (.aload_n 0, 1) := by decide +kernel
theorem dX3_save_34 : decode cX3_save 34 = .ok (.getfield 25, 3) := by decide +kernel
theorem dX3_save_37 : decode cX3_save 37 = .ok (.aaload, 1) := by decide +kernel
theorem dX3_save_38 : decode cX3_save 38 = .ok (.ifnull 26, 3) := by decide +kernel
theorem dX3_save_41 : decode cX3_save 41 = .ok (.aload_n 0, 1) := by decide +kernel
theorem dX3_save_42 : decode cX3_save 42 = .ok (.getfield 11, 3) := by decide +kernel
theorem dX3_save_45 : decode cX3_save 45 = .ok (.aload_n 0, 1) := by decide +kernel
theorem dX3_save_46 : decode cX3_save 46 = .ok (.getfield 25, 3) := by decide +kernel
theorem dX3_save_49 : decode cX3_save 49 = .ok (.aaload, 1) := by decide +kernel
theorem dX3_save_50 : decode cX3_save 50 = .ok (.aload_n 1, 1) := by decide +kernel
theorem dX3_save_51 : decode cX3_save 51 = .ok (.invokevirtual 32, 3) := by decide +kernel
theorem dX3_save_54 : decode cX3_save 54 = .ok (.aload_n 0, 1) := by decide +kernel
theorem dX3_save_55 : decode cX3_save 55 = .ok (.dup, 1) := by decide +kernel
theorem dX3_save_56 : decode cX3_save 56 = .ok (.getfield 25, 3) := by decide +kernel
theorem dX3_save_59 : decode cX3_save 59 = .ok (.iconst 1, 1) := by decide +kernel
theorem dX3_save_60 : decode cX3_save 60 = .ok (.iadd, 1) := by decide +kernel
theorem dX3_save_61 : decode cX3_save 61 = .ok (.putfield 25, 3) := by decide +kernel
theorem dX3_save_64 : decode cX3_save 64 = .ok (.return_, 1) := by decide +kernel
theorem dX3_dropOldest_0 : decode cX3_dropOldest 0 = .ok (.aload_n 0, 1) := by decide +kernel
theorem dX3_dropOldest_1 : decode cX3_dropOldest 1 = .ok (.getfield 11, 3) := by decide +kernel
theorem dX3_dropOldest_4 : decode cX3_dropOldest 4 = .ok (.iconst 0, 1) := by decide +kernel
theorem dX3_dropOldest_5 : decode cX3_dropOldest 5 = .ok (.aaload, 1) := by decide +kernel
theorem dX3_dropOldest_6 : decode cX3_dropOldest 6 = .ok (.astore_n 1, 1) := by decide +kernel
theorem dX3_dropOldest_7 : decode cX3_dropOldest 7 = .ok (.iconst 1, 1) := by decide +kernel
theorem dX3_dropOldest_8 : decode cX3_dropOldest 8 = .ok (.istore_n 2, 1) := by decide +kernel
theorem dX3_dropOldest_9 : decode cX3_dropOldest 9 = .ok (.iload_n 2, 1) := by decide +kernel
theorem dX3_dropOldest_10 : decode cX3_dropOldest 10 = .ok (.bipush 6, 2) := by decide +kernel
theorem dX3_dropOldest_12 : decode cX3_dropOldest 12 = .ok (.if_icmp .ge 23, 3) := by decide +kernel
theorem dX3_dropOldest_15 : decode cX3_dropOldest 15 = .ok (.aload_n 0, 1) := by decide +kernel
theorem dX3_dropOldest_16 : decode cX3_dropOldest 16 = .ok (.getfield 11, 3) := by decide +kernel
theorem dX3_dropOldest_19 : decode cX3_dropOldest 19 = .ok (.iload_n 2, 1) := by decide +kernel
theorem dX3_dropOldest_20 : decode cX3_dropOldest 20 = .ok (.iconst 1, 1) := by decide +kernel
theorem dX3_dropOldest_21 : decode cX3_dropOldest 21 = .ok (.isub, 1) := by decide +kernel
theorem dX3_dropOldest_22 : decode cX3_dropOldest 22 = .ok (.aload_n 0, 1) := by decide +kernel
theorem dX3_dropOldest_23 : decode cX3_dropOldest 23 = .ok (.getfield 11, 3) := by decide +kernel
theorem dX3_dropOldest_26 : decode cX3_dropOldest 26 = .ok (.iload_n 2, 1) := by decide +kernel
theorem dX3_dropOldest_27 : decode cX3_dropOldest 27 = .ok (.aaload, 1) := by decide +kernel
theorem dX3_dropOldest_28 : decode cX3_dropOldest 28 = .ok (.aastore, 1) := by decide +kernel
theorem dX3_dropOldest_29 : decode cX3_dropOldest 29 = .ok (.iinc 2 1, 3) := by decide +kernel
theorem dX3_dropOldest_32 : decode cX3_dropOldest 32 = .ok (.goto (-23), 3) := by decide +kernel
theorem dX3_dropOldest_35 : decode cX3_dropOldest 35 = .ok (.aload_n 0, 1) := by decide +kernel
theorem dX3_dropOldest_36 : decode cX3_dropOldest 36 = .ok (.getfield 11, 3) := by decide +kernel
theorem dX3_dropOldest_39 : decode cX3_dropOldest 39 = .ok (.iconst 5, 1) := by decide +kernel
theorem dX3_dropOldest_40 : decode cX3_dropOldest 40 = .ok (.aload_n 1, 1) := by decide +kernel
theorem dX3_dropOldest_41 : decode cX3_dropOldest 41 = .ok (.aastore, 1) := by decide +kernel
theorem dX3_dropOldest_42 : decode cX3_dropOldest 42 = .ok (.aload_n 0, 1) := by decide +kernel
theorem dX3_dropOldest_43 : decode cX3_dropOldest 43 = .ok (.iconst 5, 1) := by decide +kernel
theorem dX3_dropOldest_44 : decode cX3_dropOldest 44 = .ok (.putfield 25, 3) := by decide +kernel
theorem dX3_dropOldest_47 : decode cX3_dropOldest 47 = .ok (.return_, 1) := by decide +kernel
theorem dX4_init_0 : decode cX4_init 0 = .ok (.aload_n 0, 1) := by decide +kernel
theorem dX4_init_1 : decode cX4_init 1 = .ok (.invokespecial 3, 3) := by decide +kernel
theorem dX4_init_4 : decode cX4_init 4 = .ok (.aload_n 0, 1) := by decide +kernel
theorem dX4_init_5 : decode cX4_init 5 = .ok (.bipush 60, 2) := by decide +kernel
theorem dX4_init_7 : decode cX4_init 7 = .ok (.newarray .int, 2) := by decide +kernel
theorem dX4_init_9 : decode cX4_init 9 = .ok (.putfield 9, 3) := by decide +kernel
theorem dX4_init_12 : decode cX4_init 12 = .ok (.aload_n 0, 1) := by decide +kernel
theorem dX4_init_13 : decode cX4_init 13 = .ok (.iconst 0, 1) := by decide +kernel
theorem dX4_init_14 : decode cX4_init 14 = .ok (.putfield 15, 3) := by decide +kernel
theorem dX4_init_17 : decode cX4_init 17 = .ok (.return_, 1) := by decide +kernel
theorem dX5_init_0 : decode cX5_init 0 = .ok (.aload_n 0, 1) := by decide +kernel
theorem dX5_init_1 : decode cX5_init 1 = .ok (.invokespecial 3, 3) := by decide +kernel
theorem dX5_init_4 : decode cX5_init 4 = .ok (.aload_n 0, 1) := by decide +kernel
theorem dX5_init_5 : decode cX5_init 5 = .ok (.bipush 42, 2) := by decide +kernel
theorem dX5_init_7 : decode cX5_init 7 = .ok (.newarray .int, 2) := by decide +kernel
theorem dX5_init_9 : decode cX5_init 9 = .ok (.putfield 9, 3) := by decide +kernel
theorem dX5_init_12 : decode cX5_init 12 = .ok (.aload_n 0, 1) := by decide +kernel
theorem dX5_init_13 : decode cX5_init 13 = .ok (.bipush 42, 2) := by decide +kernel
theorem dX5_init_15 : decode cX5_init 15 = .ok (.newarray .int, 2) := by decide +kernel
theorem dX5_init_17 : decode cX5_init 17 = .ok (.putfield 15, 3) := by decide +kernel
theorem dX5_init_20 : decode cX5_init 20 = .ok (.aload_n 0, 1) := by decide +kernel
theorem dX5_init_21 : decode cX5_init 21 = .ok (.iconst 0, 1) := by decide +kernel
theorem dX5_init_22 : decode cX5_init 22 = .ok (.putfield 18, 3) := by decide +kernel
theorem dX5_init_25 : decode cX5_init 25 = .ok (.aload_n 0, 1) := by decide +kernel
theorem dX5_init_26 : decode cX5_init 26 = .ok (.lconst 0, 1) := by decide +kernel
theorem dX5_init_27 : decode cX5_init 27 = .ok (.putfield 22, 3) := by decide +kernel
theorem dX5_init_30 : decode cX5_init 30 = .ok (.return_, 1) := by decide +kernel
set_option maxRecDepth 20000 in
theorem ggX5_writeNumbers_X0_removeFields : GoodIn wsX5_writeNumbers wsX0_removeFields := goodIn_r _ [9, 10, 65, 66, 67, 68] (by decide +kernel) (by decide +kernel)
set_option maxRecDepth 20000 in
theorem gX5_writeNumbers_X0_removeFields : GoodIn wsX5_writeNumbers (wsV RX5 26 RX0 yX0_removeFields wsX0_removeFields) := goodIn_app (goodIn_of _ (by decide +kernel)) ggX5_writeNumbers_X0_removeFields
set_option maxRecDepth 20000 in
theorem ggX5_writeNumbers_X0_removeNumbers : GoodIn wsX5_writeNumbers wsX0_removeNumbers := goodIn_r _ [14, 15, 65, 66, 67, 68] (by decide +kernel) (by decide +kernel)
set_option maxRecDepth 20000 in
theorem gX5_writeNumbers_X0_removeNumbers : GoodIn wsX5_writeNumbers (wsV RX5 31 RX0 yX0_removeNumbers wsX0_removeNumbers) := goodIn_app (goodIn_of _ (by decide +kernel)) ggX5_writeNumbers_X0_removeNumbers
set_option maxRecDepth 20000 in
theorem ggX5_writeNumbers_X5_put : GoodIn wsX5_writeNumbers wsX5_put := goodIn_r _ [20, 2, 3, 4, 61, 62, 63, 64] (by decide +kernel) (by decide +kernel)
set_option maxRecDepth 20000 in
theorem gX5_writeNumbers_X5_put : GoodIn wsX5_writeNumbers (wsV RX5 34 RX5 yX5_put wsX5_put) := goodIn_app (goodIn_of _ (by decide +kernel)) ggX5_writeNumbers_X5_put
set_option maxRecDepth 20000 in
theorem ggX5_writeNumbers_X5_cutAll : GoodIn wsX5_writeNumbers wsX5_cutAll := goodIn_r _ [24, 25, 26, 27, 19, 28, 2, 3, 4, 29, 30, 31, 32, 33, 34, 35, 36, 37, 38, 39, 40, 41, 42, 43, 44, 45, 1, 46, 47, 48, 49, 50, 51, 16, 17, 18, 20, 61, 62, 63, 64] (by decide +kernel) (by decide +kernel)
set_option maxRecDepth 20000 in
theorem gX5_writeNumbers_X5_cutAll : GoodIn wsX5_writeNumbers (wsV RX5 38 RX5 yX5_cutAll wsX5_cutAll) := goodIn_app (goodIn_of _ (by decide +kernel)) ggX5_writeNumbers_X5_cutAll
set_option maxRecDepth 20000 in
theorem ggX5_writeNumbers_X9_sizeOf : GoodIn wsX5_writeNumbers wsX9_sizeOf := goodIn_r _ [31, 32, 33, 30, 34, 35, 36, 37] (by decide +kernel) (by decide +kernel)
set_option maxRecDepth 20000 in
theorem gX5_writeNumbers_X9_sizeOf_n41 : GoodIn wsX5_writeNumbers (wsX9_sizeOf) := ggX5_writeNumbers_X9_sizeOf
set_option maxRecDepth 20000 in
theorem ggX5_writeNumbers_X5_drawBelow : GoodIn wsX5_writeNumbers wsX5_drawBelow := goodIn_r _ [45, 1, 46, 47, 48, 49, 61, 62, 63, 64] (by decide +kernel) (by decide +kernel)
set_option maxRecDepth 20000 in
theorem gX5_writeNumbers_X5_drawBelow : GoodIn wsX5_writeNumbers (wsV RX5 45 RX5 yX5_drawBelow wsX5_drawBelow) := goodIn_app (goodIn_of _ (by decide +kernel)) ggX5_writeNumbers_X5_drawBelow
set_option maxRecDepth 20000 in
theorem ggX5_writeNumbers_X5_cellInside : GoodIn wsX5_writeNumbers wsX5_cellInside := goodIn_r _ [54, 36, 30, 37] (by decide +kernel) (by decide +kernel)
set_option maxRecDepth 20000 in
theorem gX5_writeNumbers_X5_cellInside : GoodIn wsX5_writeNumbers (va_wsS RX5 49 yX5_cellInside wsX5_cellInside) := goodIn_app (goodIn_of _ (by decide +kernel)) ggX5_writeNumbers_X5_cellInside
set_option maxRecDepth 20000 in
theorem ggX5_writeNumbers_X0_setNumber : GoodIn wsX5_writeNumbers wsX0_setNumber := goodIn_r _ [58, 15, 59, 30, 60, 65, 66, 67, 68] (by decide +kernel) (by decide +kernel)
set_option maxRecDepth 20000 in
theorem gX5_writeNumbers_X0_setNumber : GoodIn wsX5_writeNumbers (wsV RX5 53 RX0 yX0_setNumber wsX0_setNumber) := goodIn_app (goodIn_of _ (by decide +kernel)) ggX5_writeNumbers_X0_setNumber
theorem dX5_writeNumbers_0 : decode cX5_writeNumbers 0 = .ok (.aload_n 1, 1) := by decide +kernel
theorem dX5_writeNumbers_1 : decode cX5_writeNumbers 1 = .ok (.invokevirtual 26, 3) := by decide +kernel
theorem dX5_writeNumbers_4 : decode cX5_writeNumbers 4 = .ok (.aload_n 1, 1) := by decide +kernel
theorem dX5_writeNumbers_5 : decode cX5_writeNumbers 5 = .ok (.invokevirtual 31, 3) := by decide +kernel
theorem dX5_writeNumbers_8 : decode cX5_writeNumbers 8 = .ok (.aload_n 0, 1) := by decide +kernel
theorem dX5_writeNumbers_9 : decode cX5_writeNumbers 9 = .ok (.iload_n 2, 1) := by decide +kernel
theorem dX5_writeNumbers_10 : decode cX5_writeNumbers 10 = .ok (.i2l, 1) := by decide +kernel
theorem dX5_writeNumbers_11 : decode cX5_writeNumbers 11 = .ok (.putfield 22, 3) := by decide +kernel
theorem dX5_writeNumbers_14 : decode cX5_writeNumbers 14 = .ok (.aload_n 0, 1) := by decide +kernel
theorem dX5_writeNumbers_15 : decode cX5_writeNumbers 15 = .ok (.iconst 0, 1) := by decide +kernel
theorem dX5_writeNumbers_16 : decode cX5_writeNumbers 16 = .ok (.putfield 18, 3) := by decide +kernel
theorem dX5_writeNumbers_19 : decode cX5_writeNumbers 19 = .ok (.aload_n 0, 1) := by decide +kernel
theorem dX5_writeNumbers_20 : decode cX5_writeNumbers 20 = .ok (.iconst 0, 1) := by decide +kernel
theorem dX5_writeNumbers_21 : decode cX5_writeNumbers 21 = .ok (.bipush 41, 2) := by decide +kernel
theorem dX5_writeNumbers_23 : decode cX5_writeNumbers 23 = .ok (.invokevirtual 34, 3) := by decide +kernel
theorem dX5_writeNumbers_26 : decode cX5_writeNumbers 26 = .ok (.aload_n 0, 1) := by decide +kernel
theorem dX5_writeNumbers_27 : decode cX5_writeNumbers 27 = .ok (.invokevirtual 38, 3) := by decide +kernel
theorem dX5_writeNumbers_30 : decode cX5_writeNumbers 30 = .ok (.iconst 0, 1) := by decide +kernel
theorem dX5_writeNumbers_31 : decode cX5_writeNumbers 31 = .ok (.istore_n 3, 1) := by decide +kernel
theorem dX5_writeNumbers_32 : decode cX5_writeNumbers 32 = .ok (.iload_n 3, 1) := by decide +kernel
theorem dX5_writeNumbers_33 : decode cX5_writeNumbers 33 = .ok (.aload_n 0, 1) := by decide +kernel
theorem dX5_writeNumbers_34 : decode cX5_writeNumbers 34 = .ok (.getfield 18, 3) := by decide +kernel
theorem dX5_writeNumbers_37 : decode cX5_writeNumbers 37 = .ok (.if_icmp .ge 59, 3) := by decide +kernel
theorem dX5_writeNumbers_40 : decode cX5_writeNumbers 40 = .ok (.iload_n 3, 1) := by decide +kernel
theorem dX5_writeNumbers_41 : decode cX5_writeNumbers 41 = .ok (.bipush 42, 2) := by decide +kernel
theorem dX5_writeNumbers_43 : decode cX5_writeNumbers 43 = .ok (.if_icmp .ge 53, 3) := by decide +kernel
theorem dX5_writeNumbers_46 : decode cX5_writeNumbers 46 = .ok (.aload_n 0, 1) := by decide +kernel
theorem dX5_writeNumbers_47 : decode cX5_writeNumbers 47 = .ok (.getfield 9, 3) := by decide +kernel
theorem dX5_writeNumbers_50 : decode cX5_writeNumbers 50 = .ok (.iload_n 3, 1) := by decide +kernel
theorem dX5_writeNumbers_51 : decode cX5_writeNumbers 51 = .ok (.iaload, 1) := by decide +kernel
theorem dX5_writeNumbers_52 : decode cX5_writeNumbers 52 = .ok (.aload_n 0, 1) := by decide +kernel
theorem dX5_writeNumbers_53 : decode cX5_writeNumbers 53 = .ok (.getfield 15, 3) := by decide +kernel
theorem dX5_writeNumbers_56 : decode cX5_writeNumbers 56 = .ok (.iload_n 3, 1) := by decide +kernel
theorem dX5_writeNumbers_57 : decode cX5_writeNumbers 57 = .ok (.iaload, 1) := by decide +kernel
theorem dX5_writeNumbers_58 : decode cX5_writeNumbers 58 = .ok (.invokestatic 41, 3) := by decide +kernel
theorem dX5_writeNumbers_61 : decode cX5_writeNumbers 61 = .ok (.istore 4, 2) := by decide +kernel
theorem dX5_writeNumbers_63 : decode cX5_writeNumbers 63 = .ok (.aload_n 1, 1) := by decide +kernel
theorem dX5_writeNumbers_64 : decode cX5_writeNumbers 64 = .ok (.aload_n 0, 1) := by decide +kernel
theorem dX5_writeNumbers_65 : decode cX5_writeNumbers 65 = .ok (.getfield 9, 3) := by decide +kernel
theorem dX5_writeNumbers_68 : decode cX5_writeNumbers 68 = .ok (.iload_n 3, 1) := by decide +kernel
theorem dX5_writeNumbers_69 : decode cX5_writeNumbers 69 = .ok (.iaload, 1) := by decide +kernel
theorem dX5_writeNumbers_70 : decode cX5_writeNumbers 70 = .ok (.aload_n 0, 1) := by decide +kernel
theorem dX5_writeNumbers_71 : decode cX5_writeNumbers 71 = .ok (.getfield 15, 3) := by decide +kernel
theorem dX5_writeNumbers_74 : decode cX5_writeNumbers 74 = .ok (.iload_n 3, 1) := by decide +kernel
theorem dX5_writeNumbers_75 : decode cX5_writeNumbers 75 = .ok (.iaload, 1) := by decide +kernel
theorem dX5_writeNumbers_76 : decode cX5_writeNumbers 76 = .ok (.aload_n 0, 1) := by decide +kernel
theorem dX5_writeNumbers_77 : decode cX5_writeNumbers 77 = .ok (.iload 4, 2) := by decide +kernel
theorem dX5_writeNumbers_79 : decode cX5_writeNumbers 79 = .ok (.invokevirtual 45, 3) := by decide +kernel
theorem dX5_writeNumbers_82 : decode cX5_writeNumbers 82 = .ok (.invokestatic 49, 3) := by decide +kernel
theorem dX5_writeNumbers_85 : decode cX5_writeNumbers 85 = .ok (.iload 4, 2) := by decide +kernel
theorem dX5_writeNumbers_87 : decode cX5_writeNumbers 87 = .ok (.invokevirtual 53, 3) := by decide +kernel
theorem dX5_writeNumbers_90 : decode cX5_writeNumbers 90 = .ok (.iinc 3 1, 3) := by decide +kernel
theorem dX5_writeNumbers_93 : decode cX5_writeNumbers 93 = .ok (.goto (-61), 3) := by decide +kernel
theorem dX5_writeNumbers_96 : decode cX5_writeNumbers 96 = .ok (.return_, 1) := by decide +kernel
set_option maxRecDepth 20000 in
theorem ggX5_cutAll_X5_firstLarge : GoodIn wsX5_cutAll wsX5_firstLarge := goodIn_r _ [5, 6, 7, 8, 9, 10, 11, 12, 13, 14, 15, 16, 17, 37, 38, 39, 40] (by decide +kernel) (by decide +kernel)
set_option maxRecDepth 20000 in
theorem gX5_cutAll_X5_firstLarge : GoodIn wsX5_cutAll (wsV RX5 56 RX5 yX5_firstLarge wsX5_firstLarge) := goodIn_app (goodIn_of _ (by decide +kernel)) ggX5_cutAll_X5_firstLarge
set_option maxRecDepth 20000 in
theorem ggX5_cutAll_X5_cut : GoodIn wsX5_cutAll wsX5_cut := goodIn_r _ [21, 7, 8, 13, 10, 14, 16, 17, 22, 23, 24, 4, 25, 26, 27, 28, 29, 30, 31, 32, 33, 34, 35, 36, 6, 37, 38, 39, 40] (by decide +kernel) (by decide +kernel)
set_option maxRecDepth 20000 in
theorem gX5_cutAll_X5_cut : GoodIn wsX5_cutAll (wsV RX5 60 RX5 yX5_cut wsX5_cut) := goodIn_app (goodIn_of _ (by decide +kernel)) ggX5_cutAll_X5_cut
theorem dX5_cutAll_0 : decode cX5_cutAll 0 = .ok (.iconst 0, 1) := by decide +kernel
theorem dX5_cutAll_1 : decode cX5_cutAll 1 = .ok (.istore_n 1, 1) := by decide +kernel
theorem dX5_cutAll_2 : decode cX5_cutAll 2 = .ok (.iload_n 1, 1) := by decide +kernel
theorem dX5_cutAll_3 : decode cX5_cutAll 3 = .ok (.bipush 42, 2) := by decide +kernel
theorem dX5_cutAll_5 : decode cX5_cutAll 5 = .ok (.if_icmp .ge 24, 3) := by decide +kernel
theorem dX5_cutAll_8 : decode cX5_cutAll 8 = .ok (.aload_n 0, 1) := by decide +kernel
theorem dX5_cutAll_9 : decode cX5_cutAll 9 = .ok (.invokevirtual 56, 3) := by decide +kernel
theorem dX5_cutAll_12 : decode cX5_cutAll 12 = .ok (.istore_n 2, 1) := by decide +kernel
theorem dX5_cutAll_13 : decode cX5_cutAll 13 = .ok (.iload_n 2, 1) := by decide +kernel
theorem dX5_cutAll_14 : decode cX5_cutAll 14 = .ok (.ifCond .ge 4, 3) := by decide +kernel
theorem dX5_cutAll_17 : decode cX5_cutAll 17 = .ok (.return_, 1) := by decide +kernel
theorem dX5_cutAll_18 : decode cX5_cutAll 18 = .ok (.aload_n 0, 1) := by decide +kernel
theorem dX5_cutAll_19 : decode cX5_cutAll 19 = .ok (.iload_n 2, 1) := by decide +kernel
theorem dX5_cutAll_20 : decode cX5_cutAll 20 = .ok (.invokevirtual 60, 3) := by decide +kernel
theorem dX5_cutAll_23 : decode cX5_cutAll 23 = .ok (.iinc 1 1, 3) := by decide +kernel
theorem dX5_cutAll_26 : decode cX5_cutAll 26 = .ok (.goto (-24), 3) := by decide +kernel
theorem dX5_cutAll_29 : decode cX5_cutAll 29 = .ok (.return_, 1) := by decide +kernel
set_option maxRecDepth 20000 in
theorem ggX5_firstLarge_X9_sizeOf : GoodIn wsX5_firstLarge wsX9_sizeOf := goodIn_r _ [6, 7, 8, 5, 9, 10, 11, 12] (by decide +kernel) (by decide +kernel)
set_option maxRecDepth 20000 in
theorem gX5_firstLarge_X9_sizeOf_n41 : GoodIn wsX5_firstLarge (wsX9_sizeOf) := ggX5_firstLarge_X9_sizeOf
theorem dX5_firstLarge_0 : decode cX5_firstLarge 0 = .ok (.iconst 0, 1) := by decide +kernel
theorem dX5_firstLarge_1 : decode cX5_firstLarge 1 = .ok (.istore_n 1, 1) := by decide +kernel
theorem dX5_firstLarge_2 : decode cX5_firstLarge 2 = .ok (.iload_n 1, 1) := by decide +kernel
theorem dX5_firstLarge_3 : decode cX5_firstLarge 3 = .ok (.aload_n 0, 1) := by decide +kernel
theorem dX5_firstLarge_4 : decode cX5_firstLarge 4 = .ok (.getfield 18, 3) := by decide +kernel
theorem dX5_firstLarge_7 : decode cX5_firstLarge 7 = .ok (.if_icmp .ge 37, 3) := by decide +kernel
theorem dX5_firstLarge_10 : decode cX5_firstLarge 10 = .ok (.iload_n 1, 1) := by decide +kernel
theorem dX5_firstLarge_11 : decode cX5_firstLarge 11 = .ok (.bipush 42, 2) := by decide +kernel
theorem dX5_firstLarge_13 : decode cX5_firstLarge 13 = .ok (.if_icmp .ge 31, 3) := by decide +kernel
theorem dX5_firstLarge_16 : decode cX5_firstLarge 16 = .ok (.aload_n 0, 1) := by decide +kernel
theorem dX5_firstLarge_17 : decode cX5_firstLarge 17 = .ok (.getfield 9, 3) := by decide +kernel
theorem dX5_firstLarge_20 : decode cX5_firstLarge 20 = .ok (.iload_n 1, 1) := by decide +kernel
theorem dX5_firstLarge_21 : decode cX5_firstLarge 21 = .ok (.iaload, 1) := by decide +kernel
theorem dX5_firstLarge_22 : decode cX5_firstLarge 22 = .ok (.aload_n 0, 1) := by decide +kernel
theorem dX5_firstLarge_23 : decode cX5_firstLarge 23 = .ok (.getfield 15, 3) := by decide +kernel
theorem dX5_firstLarge_26 : decode cX5_firstLarge 26 = .ok (.iload_n 1, 1) := by decide +kernel
theorem dX5_firstLarge_27 : decode cX5_firstLarge 27 = .ok (.iaload, 1) := by decide +kernel
theorem dX5_firstLarge_28 : decode cX5_firstLarge 28 = .ok (.invokestatic 41, 3) := by decide +kernel
theorem dX5_firstLarge_31 : decode cX5_firstLarge 31 = .ok (.bipush 6, 2) := by decide +kernel
theorem dX5_firstLarge_33 : decode cX5_firstLarge 33 = .ok (.if_icmp .le 5, 3) := by decide +kernel
theorem dX5_firstLarge_36 : decode cX5_firstLarge 36 = .ok (.iload_n 1, 1) := by decide +kernel
theorem dX5_firstLarge_37 : decode cX5_firstLarge 37 = .ok (.ireturn, 1) := by decide +kernel
theorem dX5_firstLarge_38 : decode cX5_firstLarge 38 = .ok (.iinc 1 1, 3) := by decide +kernel
theorem dX5_firstLarge_41 : decode cX5_firstLarge 41 = .ok (.goto (-39), 3) := by decide +kernel
theorem dX5_firstLarge_44 : decode cX5_firstLarge 44 = .ok (.iconst (-1), 1) := by decide +kernel
theorem dX5_firstLarge_45 : decode cX5_firstLarge 45 = .ok (.ireturn, 1) := by decide +kernel
set_option maxRecDepth 20000 in
theorem ggX5_cut_X9_rowsOf : GoodIn wsX5_cut wsX9_rowsOf := goodIn_r _ [5] (by decide +kernel) (by decide +kernel)
set_option maxRecDepth 20000 in
theorem gX5_cut_X9_rowsOf_n64 : GoodIn wsX5_cut (wsX9_rowsOf) := ggX5_cut_X9_rowsOf
set_option maxRecDepth 20000 in
theorem ggX5_cut_X9_columnsOf : GoodIn wsX5_cut wsX9_columnsOf := goodIn_r _ [7] (by decide +kernel) (by decide +kernel)
set_option maxRecDepth 20000 in
theorem gX5_cut_X9_columnsOf_n67 : GoodIn wsX5_cut (wsX9_columnsOf) := ggX5_cut_X9_columnsOf
set_option maxRecDepth 20000 in
theorem ggX5_cut_X5_drawBelow : GoodIn wsX5_cut wsX5_drawBelow := goodIn_r _ [12, 13, 14, 15, 16, 17, 25, 26, 27, 28] (by decide +kernel) (by decide +kernel)
set_option maxRecDepth 20000 in
theorem gX5_cut_X5_drawBelow : GoodIn wsX5_cut (wsV RX5 45 RX5 yX5_drawBelow wsX5_drawBelow) := goodIn_app (goodIn_of _ (by decide +kernel)) ggX5_cut_X5_drawBelow
set_option maxRecDepth 20000 in
theorem ggX5_cut_X9_cellAt : GoodIn wsX5_cut wsX9_cellAt := goodIn_r _ [19] (by decide +kernel) (by decide +kernel)
set_option maxRecDepth 20000 in
theorem gX5_cut_X9_cellAt_n70 : GoodIn wsX5_cut (wsX9_cellAt) := ggX5_cut_X9_cellAt
set_option maxRecDepth 20000 in
theorem ggX5_cut_X5_put : GoodIn wsX5_cut wsX5_put := goodIn_r _ [23, 24, 1, 2, 25, 26, 27, 28] (by decide +kernel) (by decide +kernel)
set_option maxRecDepth 20000 in
theorem gX5_cut_X5_put : GoodIn wsX5_cut (wsV RX5 34 RX5 yX5_put wsX5_put) := goodIn_app (goodIn_of _ (by decide +kernel)) ggX5_cut_X5_put
theorem dX5_cut_0 : decode cX5_cut 0 = .ok (.iload_n 1, 1) := by decide +kernel
theorem dX5_cut_1 : decode cX5_cut 1 = .ok (.ifCond .lt 9, 3) := by decide +kernel
theorem dX5_cut_4 : decode cX5_cut 4 = .ok (.iload_n 1, 1) := by decide +kernel
theorem dX5_cut_5 : decode cX5_cut 5 = .ok (.bipush 42, 2) := by decide +kernel
theorem dX5_cut_7 : decode cX5_cut 7 = .ok (.if_icmp .lt 4, 3) := by decide +kernel
theorem dX5_cut_10 : decode cX5_cut 10 = .ok (.return_, 1) := by decide +kernel
theorem dX5_cut_11 : decode cX5_cut 11 = .ok (.aload_n 0, 1) := by decide +kernel
theorem dX5_cut_12 : decode cX5_cut 12 = .ok (.getfield 9, 3) := by decide +kernel
theorem dX5_cut_15 : decode cX5_cut 15 = .ok (.iload_n 1, 1) := by decide +kernel
theorem dX5_cut_16 : decode cX5_cut 16 = .ok (.iaload, 1) := by decide +kernel
theorem dX5_cut_17 : decode cX5_cut 17 = .ok (.istore_n 2, 1) := by decide +kernel
theorem dX5_cut_18 : decode cX5_cut 18 = .ok (.aload_n 0, 1) := by decide +kernel
theorem dX5_cut_19 : decode cX5_cut 19 = .ok (.getfield 15, 3) := by decide +kernel
theorem dX5_cut_22 : decode cX5_cut 22 = .ok (.iload_n 1, 1) := by decide +kernel
theorem dX5_cut_23 : decode cX5_cut 23 = .ok (.iaload, 1) := by decide +kernel
theorem dX5_cut_24 : decode cX5_cut 24 = .ok (.istore_n 3, 1) := by decide +kernel
theorem dX5_cut_25 : decode cX5_cut 25 = .ok (.iload_n 2, 1) := by decide +kernel
theorem dX5_cut_26 : decode cX5_cut 26 = .ok (.iload_n 3, 1) := by decide +kernel
theorem dX5_cut_27 : decode cX5_cut 27 = .ok (.invokestatic 64, 3) := by decide +kernel
theorem dX5_cut_30 : decode cX5_cut 30 = .ok (.istore 4, 2) := by decide +kernel
theorem dX5_cut_32 : decode cX5_cut 32 = .ok (.iload_n 2, 1) := by decide +kernel
theorem dX5_cut_33 : decode cX5_cut 33 = .ok (.iload_n 3, 1) := by decide +kernel
theorem dX5_cut_34 : decode cX5_cut 34 = .ok (.invokestatic 67, 3) := by decide +kernel
theorem dX5_cut_37 : decode cX5_cut 37 = .ok (.istore 5, 2) := by decide +kernel
theorem dX5_cut_39 : decode cX5_cut 39 = .ok (.iload 4, 2) := by decide +kernel
theorem dX5_cut_41 : decode cX5_cut 41 = .ok (.iload 5, 2) := by decide +kernel
theorem dX5_cut_43 : decode cX5_cut 43 = .ok (.if_icmp .le 52, 3) := by decide +kernel
theorem dX5_cut_46 : decode cX5_cut 46 = .ok (.aload_n 0, 1) := by decide +kernel
theorem dX5_cut_47 : decode cX5_cut 47 = .ok (.iload 4, 2) := by decide +kernel
theorem dX5_cut_49 : decode cX5_cut 49 = .ok (.iconst 1, 1) := by decide +kernel
theorem dX5_cut_50 : decode cX5_cut 50 = .ok (.isub, 1) := by decide +kernel
theorem dX5_cut_51 : decode cX5_cut 51 = .ok (.invokevirtual 45, 3) := by decide +kernel
theorem dX5_cut_54 : decode cX5_cut 54 = .ok (.iconst 1, 1) := by decide +kernel
theorem dX5_cut_55 : decode cX5_cut 55 = .ok (.iadd, 1) := by decide +kernel
theorem dX5_cut_56 : decode cX5_cut 56 = .ok (.istore 6, 2) := by decide +kernel
theorem dX5_cut_58 : decode cX5_cut 58 = .ok (.aload_n 0, 1) := by decide +kernel
theorem dX5_cut_59 : decode cX5_cut 59 = .ok (.getfield 15, 3) := by decide +kernel
theorem dX5_cut_62 : decode cX5_cut 62 = .ok (.iload_n 1, 1) := by decide +kernel
theorem dX5_cut_63 : decode cX5_cut 63 = .ok (.iload_n 2, 1) := by decide +kernel
theorem dX5_cut_64 : decode cX5_cut 64 = .ok (.bipush 7, 2) := by decide +kernel
theorem dX5_cut_66 : decode cX5_cut 66 = .ok (.idiv, 1) := by decide +kernel
theorem dX5_cut_67 : decode cX5_cut 67 = .ok (.iload 6, 2) := by decide +kernel
theorem dX5_cut_69 : decode cX5_cut 69 = .ok (.iadd, 1) := by decide +kernel
theorem dX5_cut_70 : decode cX5_cut 70 = .ok (.iconst 1, 1) := by decide +kernel
theorem dX5_cut_71 : decode cX5_cut 71 = .ok (.isub, 1) := by decide +kernel
theorem dX5_cut_72 : decode cX5_cut 72 = .ok (.iload_n 3, 1) := by decide +kernel
theorem dX5_cut_73 : decode cX5_cut 73 = .ok (.bipush 7, 2) := by decide +kernel
theorem dX5_cut_75 : decode cX5_cut 75 = .ok (.irem, 1) := by decide +kernel
theorem dX5_cut_76 : decode cX5_cut 76 = .ok (.invokestatic 70, 3) := by decide +kernel
theorem dX5_cut_79 : decode cX5_cut 79 = .ok (.iastore, 1) := by decide +kernel
theorem dX5_cut_80 : decode cX5_cut 80 = .ok (.aload_n 0, 1) := by decide +kernel
theorem dX5_cut_81 : decode cX5_cut 81 = .ok (.iload_n 2, 1) := by decide +kernel
theorem dX5_cut_82 : decode cX5_cut 82 = .ok (.iload 6, 2) := by decide +kernel
theorem dX5_cut_84 : decode cX5_cut 84 = .ok (.bipush 7, 2) := by decide +kernel
theorem dX5_cut_86 : decode cX5_cut 86 = .ok (.imul, 1) := by decide +kernel
theorem dX5_cut_87 : decode cX5_cut 87 = .ok (.iadd, 1) := by decide +kernel
theorem dX5_cut_88 : decode cX5_cut 88 = .ok (.iload_n 3, 1) := by decide +kernel
theorem dX5_cut_89 : decode cX5_cut 89 = .ok (.invokevirtual 34, 3) := by decide +kernel
theorem dX5_cut_92 : decode cX5_cut 92 = .ok (.goto 46, 3) := by decide +kernel
theorem dX5_cut_95 : decode cX5_cut 95 = .ok (.aload_n 0, 1) := by decide +kernel
theorem dX5_cut_96 : decode cX5_cut 96 = .ok (.iload 5, 2) := by decide +kernel
theorem dX5_cut_98 : decode cX5_cut 98 = .ok (.iconst 1, 1) := by decide +kernel
theorem dX5_cut_99 : decode cX5_cut 99 = .ok (.isub, 1) := by decide +kernel
theorem dX5_cut_100 : decode cX5_cut 100 = .ok (.invokevirtual 45, 3) := by decide +kernel
theorem dX5_cut_103 : decode cX5_cut 103 = .ok (.iconst 1, 1) := by decide +kernel
theorem dX5_cut_104 : decode cX5_cut 104 = .ok (.iadd, 1) := by decide +kernel
theorem dX5_cut_105 : decode cX5_cut 105 = .ok (.istore 6, 2) := by decide +kernel
theorem dX5_cut_107 : decode cX5_cut 107 = .ok (.aload_n 0, 1) := by decide +kernel
theorem dX5_cut_108 : decode cX5_cut 108 = .ok (.getfield 15, 3) := by decide +kernel
theorem dX5_cut_111 : decode cX5_cut 111 = .ok (.iload_n 1, 1) := by decide +kernel
theorem dX5_cut_112 : decode cX5_cut 112 = .ok (.iload_n 3, 1) := by decide +kernel
theorem dX5_cut_113 : decode cX5_cut 113 = .ok (.bipush 7, 2) := by decide +kernel
theorem dX5_cut_115 : decode cX5_cut 115 = .ok (.idiv, 1) := by decide +kernel
theorem dX5_cut_116 : decode cX5_cut 116 = .ok (.iload_n 2, 1) := by decide +kernel
theorem dX5_cut_117 : decode cX5_cut 117 = .ok (.bipush 7, 2) := by decide +kernel
theorem dX5_cut_119 : decode cX5_cut 119 = .ok (.irem, 1) := by decide +kernel
theorem dX5_cut_120 : decode cX5_cut 120 = .ok (.iload 6, 2) := by decide +kernel
theorem dX5_cut_122 : decode cX5_cut 122 = .ok (.iadd, 1) := by decide +kernel
theorem dX5_cut_123 : decode cX5_cut 123 = .ok (.iconst 1, 1) := by decide +kernel
theorem dX5_cut_124 : decode cX5_cut 124 = .ok (.isub, 1) := by decide +kernel
theorem dX5_cut_125 : decode cX5_cut 125 = .ok (.invokestatic 70, 3) := by decide +kernel
theorem dX5_cut_128 : decode cX5_cut 128 = .ok (.iastore, 1) := by decide +kernel
theorem dX5_cut_129 : decode cX5_cut 129 = .ok (.aload_n 0, 1) := by decide +kernel
theorem dX5_cut_130 : decode cX5_cut 130 = .ok (.iload_n 2, 1) := by decide +kernel
theorem dX5_cut_131 : decode cX5_cut 131 = .ok (.iload 6, 2) := by decide +kernel
theorem dX5_cut_133 : decode cX5_cut 133 = .ok (.iadd, 1) := by decide +kernel
theorem dX5_cut_134 : decode cX5_cut 134 = .ok (.iload_n 3, 1) := by decide +kernel
theorem dX5_cut_135 : decode cX5_cut 135 = .ok (.invokevirtual 34, 3) := by decide +kernel
theorem dX5_cut_138 : decode cX5_cut 138 = .ok (.return_, 1) := by decide +kernel
theorem dX5_put_0 : decode cX5_put 0 = .ok (.aload_n 0, 1) := by decide +kernel
theorem dX5_put_1 : decode cX5_put 1 = .ok (.getfield 18, 3) := by decide +kernel
theorem dX5_put_4 : decode cX5_put 4 = .ok (.ifCond .lt 42, 3) := by decide +kernel
theorem dX5_put_7 : decode cX5_put 7 = .ok (.aload_n 0, 1) := by decide +kernel
theorem dX5_put_8 : decode cX5_put 8 = .ok (.getfield 18, 3) := by decide +kernel
theorem dX5_put_11 : decode cX5_put 11 = .ok (.bipush 42, 2) := by decide +kernel
theorem dX5_put_13 : decode cX5_put 13 = .ok (.if_icmp .ge 33, 3) := by decide +kernel
theorem dX5_put_16 : decode cX5_put 16 = .ok (.aload_n 0, 1) := by decide +kernel
theorem dX5_put_17 : decode cX5_put 17 = .ok (.getfield 9, 3) := by decide +kernel
theorem dX5_put_20 : decode cX5_put 20 = .ok (.aload_n 0, 1) := by decide +kernel
theorem dX5_put_21 : decode cX5_put 21 = .ok (.getfield 18, 3) := by decide +kernel
theorem dX5_put_24 : decode cX5_put 24 = .ok (.iload_n 1, 1) := by decide +kernel
theorem dX5_put_25 : decode cX5_put 25 = .ok (.iastore, 1) := by decide +kernel
theorem dX5_put_26 : decode cX5_put 26 = .ok (.aload_n 0, 1) := by decide +kernel
theorem dX5_put_27 : decode cX5_put 27 = .ok (.getfield 15, 3) := by decide +kernel
theorem dX5_put_30 : decode cX5_put 30 = .ok (.aload_n 0, 1) := by decide +kernel
theorem dX5_put_31 : decode cX5_put 31 = .ok (.getfield 18, 3) := by decide +kernel
theorem dX5_put_34 : decode cX5_put 34 = .ok (.iload_n 2, 1) := by decide +kernel
theorem dX5_put_35 : decode cX5_put 35 = .ok (.iastore, 1) := by decide +kernel
theorem dX5_put_36 : decode cX5_put 36 = .ok (.aload_n 0, 1) := by decide +kernel
theorem dX5_put_37 : decode cX5_put 37 = .ok (.dup, 1) := by decide +kernel
theorem dX5_put_38 : decode cX5_put 38 = .ok (.getfield 18, 3) := by decide +kernel
theorem dX5_put_41 : decode cX5_put 41 = .ok (.iconst 1, 1) := by decide +kernel
theorem dX5_put_42 : decode cX5_put 42 = .ok (.iadd, 1) := by decide +kernel
theorem dX5_put_43 : decode cX5_put 43 = .ok (.putfield 18, 3) := by decide +kernel
theorem dX5_put_46 : decode cX5_put 46 = .ok (.return_, 1) := by decide +kernel
theorem dX5_drawBelow_0 : decode cX5_drawBelow 0 = .ok (.aload_n 0, 1) := by decide +kernel
theorem dX5_drawBelow_1 : decode cX5_drawBelow 1 = .ok (.aload_n 0, 1) := by decide +kernel
theorem dX5_drawBelow_2 : decode cX5_drawBelow 2 = .ok (.getfield 22, 3) := by decide +kernel
theorem dX5_drawBelow_5 : decode cX5_drawBelow 5 = .ok (.ldc2_w 73, 3) := by decide +kernel
theorem dX5_drawBelow_8 : decode cX5_drawBelow 8 = .ok (.lmul, 1) := by decide +kernel
theorem dX5_drawBelow_9 : decode cX5_drawBelow 9 = .ok (.ldc2_w 75, 3) := by decide +kernel
theorem dX5_drawBelow_12 : decode cX5_drawBelow 12 = .ok (.ladd, 1) := by decide +kernel
theorem dX5_drawBelow_13 : decode cX5_drawBelow 13 = .ok (.ldc2_w 77, 3) := by decide +kernel
theorem dX5_drawBelow_16 : decode cX5_drawBelow 16 = .ok (.lrem, 1) := by decide +kernel
theorem dX5_drawBelow_17 : decode cX5_drawBelow 17 = .ok (.putfield 22, 3) := by decide +kernel
theorem dX5_drawBelow_20 : decode cX5_drawBelow 20 = .ok (.iload_n 1, 1) := by decide +kernel
theorem dX5_drawBelow_21 : decode cX5_drawBelow 21 = .ok (.ifCond .le 18, 3) := by decide +kernel
theorem dX5_drawBelow_24 : decode cX5_drawBelow 24 = .ok (.aload_n 0, 1) := by decide +kernel
theorem dX5_drawBelow_25 : decode cX5_drawBelow 25 = .ok (.getfield 22, 3) := by decide +kernel
theorem dX5_drawBelow_28 : decode cX5_drawBelow 28 = .ok (.ldc2_w 79, 3) := by decide +kernel
theorem dX5_drawBelow_31 : decode cX5_drawBelow 31 = .ok (.ldiv, 1) := by decide +kernel
theorem dX5_drawBelow_32 : decode cX5_drawBelow 32 = .ok (.iload_n 1, 1) := by decide +kernel
theorem dX5_drawBelow_33 : decode cX5_drawBelow 33 = .ok (.i2l, 1) := by decide +kernel
theorem dX5_drawBelow_34 : decode cX5_drawBelow 34 = .ok (.lrem, 1) := by decide +kernel
theorem dX5_drawBelow_35 : decode cX5_drawBelow 35 = .ok (.l2i, 1) := by decide +kernel
theorem dX5_drawBelow_36 : decode cX5_drawBelow 36 = .ok (.goto 4, 3) := by decide +kernel
theorem dX5_drawBelow_39 : decode cX5_drawBelow 39 = .ok (.iconst 0, 1) := by decide +kernel
theorem dX5_drawBelow_40 : decode cX5_drawBelow 40 = .ok (.ireturn, 1) := by decide +kernel
set_option maxRecDepth 20000 in
theorem ggX5_cellInside_X9_columnsOf : GoodIn wsX5_cellInside wsX9_columnsOf := goodIn_r _ [3] (by decide +kernel) (by decide +kernel)
set_option maxRecDepth 20000 in
theorem gX5_cellInside_X9_columnsOf_n67 : GoodIn wsX5_cellInside (wsX9_columnsOf) := ggX5_cellInside_X9_columnsOf
theorem dX5_cellInside_0 : decode cX5_cellInside 0 = .ok (.iload_n 0, 1) := by decide +kernel
theorem dX5_cellInside_1 : decode cX5_cellInside 1 = .ok (.iload_n 1, 1) := by decide +kernel
theorem dX5_cellInside_2 : decode cX5_cellInside 2 = .ok (.invokestatic 67, 3) := by decide +kernel
theorem dX5_cellInside_5 : decode cX5_cellInside 5 = .ok (.istore_n 3, 1) := by decide +kernel
theorem dX5_cellInside_6 : decode cX5_cellInside 6 = .ok (.iload_n 3, 1) := by decide +kernel
theorem dX5_cellInside_7 : decode cX5_cellInside 7 = .ok (.ifCond .le 18, 3) := by decide +kernel
theorem dX5_cellInside_10 : decode cX5_cellInside 10 = .ok (.iload_n 0, 1) := by decide +kernel
theorem dX5_cellInside_11 : decode cX5_cellInside 11 = .ok (.iload_n 2, 1) := by decide +kernel
theorem dX5_cellInside_12 : decode cX5_cellInside 12 = .ok (.iload_n 3, 1) := by decide +kernel
theorem dX5_cellInside_13 : decode cX5_cellInside 13 = .ok (.idiv, 1) := by decide +kernel
theorem dX5_cellInside_14 : decode cX5_cellInside 14 = .ok (.bipush 7, 2) := by decide +kernel
theorem dX5_cellInside_16 : decode cX5_cellInside 16 = .ok (.imul, 1) := by decide +kernel
theorem dX5_cellInside_17 : decode cX5_cellInside 17 = .ok (.iadd, 1) := by decide +kernel
theorem dX5_cellInside_18 : decode cX5_cellInside 18 = .ok (.iload_n 2, 1) := by decide +kernel
theorem dX5_cellInside_19 : decode cX5_cellInside 19 = .ok (.iload_n 3, 1) := by decide +kernel
theorem dX5_cellInside_20 : decode cX5_cellInside 20 = .ok (.irem, 1) := by decide +kernel
theorem dX5_cellInside_21 : decode cX5_cellInside 21 = .ok (.iadd, 1) := by decide +kernel
theorem dX5_cellInside_22 : decode cX5_cellInside 22 = .ok (.goto 4, 3) := by decide +kernel
theorem dX5_cellInside_25 : decode cX5_cellInside 25 = .ok (.iload_n 0, 1) := by decide +kernel
theorem dX5_cellInside_26 : decode cX5_cellInside 26 = .ok (.ireturn, 1) := by decide +kernel
theorem dX6_init_0 : decode cX6_init 0 = .ok (.aload_n 0, 1) := by decide +kernel
theorem dX6_init_1 : decode cX6_init 1 = .ok (.invokespecial 3, 3) := by decide +kernel
theorem dX6_init_4 : decode cX6_init 4 = .ok (.aload_n 0, 1) := by decide +kernel
theorem dX6_init_5 : decode cX6_init 5 = .ok (.aload_n 1, 1) := by decide +kernel
theorem dX6_init_6 : decode cX6_init 6 = .ok (.putfield 9, 3) := by decide +kernel
theorem dX6_init_9 : decode cX6_init 9 = .ok (.aload_n 0, 1) := by decide +kernel
theorem dX6_init_10 : decode cX6_init 10 = .ok (.bipush 42, 2) := by decide +kernel
theorem dX6_init_12 : decode cX6_init 12 = .ok (.newarray .int, 2) := by decide +kernel
theorem dX6_init_14 : decode cX6_init 14 = .ok (.putfield 15, 3) := by decide +kernel
theorem dX6_init_17 : decode cX6_init 17 = .ok (.aload_n 0, 1) := by decide +kernel
theorem dX6_init_18 : decode cX6_init 18 = .ok (.lconst 0, 1) := by decide +kernel
theorem dX6_init_19 : decode cX6_init 19 = .ok (.putfield 19, 3) := by decide +kernel
theorem dX6_init_22 : decode cX6_init 22 = .ok (.aload_n 0, 1) := by decide +kernel
theorem dX6_init_23 : decode cX6_init 23 = .ok (.iconst 0, 1) := by decide +kernel
theorem dX6_init_24 : decode cX6_init 24 = .ok (.putfield 23, 3) := by decide +kernel
theorem dX6_init_27 : decode cX6_init 27 = .ok (.return_, 1) := by decide +kernel
set_option maxRecDepth 20000 in
theorem ggX6_countWays_X7_find : GoodIn wsX6_countWays wsX7_find := goodIn_r _ [8, 9, 10, 11, 12, 13, 14, 15, 16, 17, 18, 19, 20, 21, 22, 23, 24, 25, 26, 27, 28, 29, 30, 31, 32, 33, 34, 35, 36, 37, 38, 39, 40, 41, 42, 43, 7, 44, 45, 46, 47, 48, 49, 50, 113, 114, 115, 116, 117, 118, 119, 120, 121, 122, 123, 124] (by decide +kernel) (by decide +kernel)
set_option maxRecDepth 20000 in
theorem gX6_countWays_X7_find : GoodIn wsX6_countWays (wsV RX6 27 RX7 yX7_find wsX7_find) := goodIn_app (goodIn_of _ (by decide +kernel)) ggX6_countWays_X7_find
set_option maxRecDepth 20000 in
theorem ggX6_countWays_X0_openNumbers : GoodIn wsX6_countWays wsX0_openNumbers := goodIn_r _ [54, 55, 56, 21, 22, 14, 23, 24, 17, 18, 19, 57, 12, 13, 15, 16, 121, 122, 123, 124] (by decide +kernel) (by decide +kernel)
set_option maxRecDepth 20000 in
theorem gX6_countWays_X0_openNumbers : GoodIn wsX6_countWays (wsV RX6 33 RX0 yX0_openNumbers wsX0_openNumbers) := goodIn_app (goodIn_of _ (by decide +kernel)) ggX6_countWays_X0_openNumbers
set_option maxRecDepth 20000 in
theorem ggX6_countWays_X0_addsUp : GoodIn wsX6_countWays wsX0_addsUp := goodIn_r _ [61, 62, 55, 57, 12, 13, 14, 15, 16, 17, 18, 19, 63, 64, 65, 66, 24, 67, 68, 69, 70, 26, 27, 28, 29, 30, 31, 121, 122, 123, 124] (by decide +kernel) (by decide +kernel)
set_option maxRecDepth 20000 in
theorem gX6_countWays_X0_addsUp : GoodIn wsX6_countWays (wsV RX6 39 RX0 yX0_addsUp wsX0_addsUp) := goodIn_app (goodIn_of _ (by decide +kernel)) ggX6_countWays_X0_addsUp
set_option maxRecDepth 20000 in
theorem ggX6_countWays_X0_cellsInFields : GoodIn wsX6_countWays wsX0_cellsInFields := goodIn_r _ [15, 16, 17, 18, 19, 121, 122, 123, 124] (by decide +kernel) (by decide +kernel)
set_option maxRecDepth 20000 in
theorem gX6_countWays_X0_cellsInFields : GoodIn wsX6_countWays (wsV RX6 43 RX0 yX0_cellsInFields wsX0_cellsInFields) := goodIn_app (goodIn_of _ (by decide +kernel)) ggX6_countWays_X0_cellsInFields
set_option maxRecDepth 20000 in
theorem ggX6_countWays_X6_fill : GoodIn wsX6_countWays wsX6_fill := goodIn_r _ [76, 77, 3, 1, 78, 79, 80, 81, 7, 82, 9, 83, 84, 85, 86, 49, 87, 88, 89, 75, 90, 2, 91, 92, 93, 94, 95, 96, 97, 98, 99, 100, 101, 102, 103, 50, 39, 18, 40, 104, 67, 68, 69, 17, 19, 105, 106, 107, 108, 72, 73, 74, 109, 110, 111, 112, 113, 114, 115, 116, 117, 118, 119, 120] (by decide +kernel) (by decide +kernel)
set_option maxRecDepth 20000 in
theorem gX6_countWays_X6_fill : GoodIn wsX6_countWays (wsV RX6 46 RX6 yX6_fill wsX6_fill) := goodIn_app (goodIn_of _ (by decide +kernel)) ggX6_countWays_X6_fill
theorem dX6_countWays_0 : decode cX6_countWays 0 = .ok (.aload_n 0, 1) := by decide +kernel
theorem dX6_countWays_1 : decode cX6_countWays 1 = .ok (.getfield 9, 3) := by decide +kernel
theorem dX6_countWays_4 : decode cX6_countWays 4 = .ok (.aload_n 1, 1) := by decide +kernel
theorem dX6_countWays_5 : decode cX6_countWays 5 = .ok (.invokevirtual 27, 3) := by decide +kernel
theorem dX6_countWays_8 : decode cX6_countWays 8 = .ok (.aload_n 0, 1) := by decide +kernel
theorem dX6_countWays_9 : decode cX6_countWays 9 = .ok (.aload_n 1, 1) := by decide +kernel
theorem dX6_countWays_10 : decode cX6_countWays 10 = .ok (.invokevirtual 33, 3) := by decide +kernel
theorem dX6_countWays_13 : decode cX6_countWays 13 = .ok (.putfield 19, 3) := by decide +kernel
theorem dX6_countWays_16 : decode cX6_countWays 16 = .ok (.aload_n 0, 1) := by decide +kernel
theorem dX6_countWays_17 : decode cX6_countWays 17 = .ok (.iconst 0, 1) := by decide +kernel
theorem dX6_countWays_18 : decode cX6_countWays 18 = .ok (.putfield 23, 3) := by decide +kernel
theorem dX6_countWays_21 : decode cX6_countWays 21 = .ok (.aload_n 1, 1) := by decide +kernel
theorem dX6_countWays_22 : decode cX6_countWays 22 = .ok (.invokevirtual 39, 3) := by decide +kernel
theorem dX6_countWays_25 : decode cX6_countWays 25 = .ok (.ifCond .eq 12, 3) := by decide +kernel
theorem dX6_countWays_28 : decode cX6_countWays 28 = .ok (.aload_n 0, 1) := by decide +kernel
theorem dX6_countWays_29 : decode cX6_countWays 29 = .ok (.aload_n 1, 1) := by decide +kernel
theorem dX6_countWays_30 : decode cX6_countWays 30 = .ok (.invokevirtual 43, 3) := by decide +kernel
theorem dX6_countWays_33 : decode cX6_countWays 33 = .ok (.iconst 0, 1) := by decide +kernel
theorem dX6_countWays_34 : decode cX6_countWays 34 = .ok (.invokevirtual 46, 3) := by decide +kernel
theorem dX6_countWays_37 : decode cX6_countWays 37 = .ok (.aload_n 0, 1) := by decide +kernel
theorem dX6_countWays_38 : decode cX6_countWays 38 = .ok (.getfield 23, 3) := by decide +kernel
theorem dX6_countWays_41 : decode cX6_countWays 41 = .ok (.ireturn, 1) := by decide +kernel
set_option maxRecDepth 20000 in
theorem ggX6_fill_X7_cellsInReach : GoodIn wsX6_fill wsX7_cellsInReach := goodIn_r _ [9, 10, 11, 12, 13, 8, 14, 15, 56, 57, 58, 59, 60, 61, 62, 63] (by decide +kernel) (by decide +kernel)
set_option maxRecDepth 20000 in
theorem gX6_fill_X7_cellsInReach : GoodIn wsX6_fill (wsV RX6 52 RX7 yX7_cellsInReach wsX7_cellsInReach) := goodIn_app (goodIn_of _ (by decide +kernel)) ggX6_fill_X7_cellsInReach
set_option maxRecDepth 20000 in
theorem ggX6_fill_X6_scarcest : GoodIn wsX6_fill wsX6_scarcest := goodIn_r _ [20, 21, 4, 22, 23, 24, 25, 19, 26, 3, 27, 28, 29, 8, 30, 10, 31, 32, 33, 34, 35, 36, 37, 38, 39, 12, 13, 14, 15, 40, 41, 42, 43, 44, 52, 53, 54, 55, 56, 57, 58, 59, 60, 61, 62, 63] (by decide +kernel) (by decide +kernel)
set_option maxRecDepth 20000 in
theorem gX6_fill_X6_scarcest : GoodIn wsX6_fill (wsV RX6 58 RX6 yX6_scarcest wsX6_scarcest) := goodIn_app (goodIn_of _ (by decide +kernel)) ggX6_fill_X6_scarcest
set_option maxRecDepth 20000 in
theorem ggX6_fill_X6_fillFor : GoodIn wsX6_fill wsX6_fillFor := goodIn_r _ [48, 3, 2, 27, 28, 29, 8, 30, 10, 39, 12, 13, 14, 15, 31, 32, 33, 34, 35, 49, 50, 51, 19, 0, 1, 4, 5, 6, 7, 9, 11, 16, 17, 18, 20, 21, 22, 23, 24, 25, 26, 36, 37, 38, 40, 41, 42, 43, 44, 45, 46, 47, 52, 53, 54, 55, 56, 57, 58, 59, 60, 61, 62, 63] (by decide +kernel) (by decide +kernel)
set_option maxRecDepth 20000 in
theorem gX6_fill_X6_fillFor : GoodIn wsX6_fill (wsV RX6 62 RX6 yX6_fillFor wsX6_fillFor) := goodIn_app (goodIn_of _ (by decide +kernel)) ggX6_fill_X6_fillFor
theorem dX6_fill_0 : decode cX6_fill 0 = .ok (.lload_n 1, 1) := by decide +kernel
theorem dX6_fill_1 : decode cX6_fill 1 = .ok (.ldc2_w 50, 3) := by decide +kernel
theorem dX6_fill_4 : decode cX6_fill 4 = .ok (.lcmp, 1) := by decide +kernel
theorem dX6_fill_5 : decode cX6_fill 5 = .ok (.ifCond .ne 16, 3) := by decide +kernel
theorem dX6_fill_8 : decode cX6_fill 8 = .ok (.aload_n 0, 1) := by decide +kernel
theorem dX6_fill_9 : decode cX6_fill 9 = .ok (.dup, 1) := by decide +kernel
theorem dX6_fill_10 : decode cX6_fill 10 = .ok (.getfield 23, 3) := by decide +kernel
theorem dX6_fill_13 : decode cX6_fill 13 = .ok (.iconst 1, 1) := by decide +kernel
theorem dX6_fill_14 : decode cX6_fill 14 = .ok (.iadd, 1) := by decide +kernel
theorem dX6_fill_15 : decode cX6_fill 15 = .ok (.putfield 23, 3) := by decide +kernel
theorem dX6_fill_18 : decode cX6_fill 18 = .ok (.goto 41, 3) := by decide +kernel
theorem dX6_fill_21 : decode cX6_fill 21 = .ok (.iload_n 3, 1) := by decide +kernel
theorem dX6_fill_22 : decode cX6_fill 22 = .ok (.bipush 42, 2) := by decide +kernel
theorem dX6_fill_24 : decode cX6_fill 24 = .ok (.if_icmp .ge 35, 3) := by decide +kernel
theorem dX6_fill_27 : decode cX6_fill 27 = .ok (.aload_n 0, 1) := by decide +kernel
theorem dX6_fill_28 : decode cX6_fill 28 = .ok (.getfield 9, 3) := by decide +kernel
theorem dX6_fill_31 : decode cX6_fill 31 = .ok (.lload_n 1, 1) := by decide +kernel
theorem dX6_fill_32 : decode cX6_fill 32 = .ok (.invokevirtual 52, 3) := by decide +kernel
theorem dX6_fill_35 : decode cX6_fill 35 = .ok (.ldc2_w 50, 3) := by decide +kernel
theorem dX6_fill_38 : decode cX6_fill 38 = .ok (.lload_n 1, 1) := by decide +kernel
theorem dX6_fill_39 : decode cX6_fill 39 = .ok (.ldc2_w 56, 3) := by decide +kernel
theorem dX6_fill_42 : decode cX6_fill 42 = .ok (.lxor, 1) := by decide +kernel
theorem dX6_fill_43 : decode cX6_fill 43 = .ok (.land, 1) := by decide +kernel
theorem dX6_fill_44 : decode cX6_fill 44 = .ok (.lcmp, 1) := by decide +kernel
theorem dX6_fill_45 : decode cX6_fill 45 = .ok (.ifCond .ne 14, 3) := by decide +kernel
theorem dX6_fill_48 : decode cX6_fill 48 = .ok (.aload_n 0, 1) := by decide +kernel
theorem dX6_fill_49 : decode cX6_fill 49 = .ok (.aload_n 0, 1) := by decide +kernel
theorem dX6_fill_50 : decode cX6_fill 50 = .ok (.lload_n 1, 1) := by decide +kernel
theorem dX6_fill_51 : decode cX6_fill 51 = .ok (.invokevirtual 58, 3) := by decide +kernel
theorem dX6_fill_54 : decode cX6_fill 54 = .ok (.lload_n 1, 1) := by decide +kernel
theorem dX6_fill_55 : decode cX6_fill 55 = .ok (.iload_n 3, 1) := by decide +kernel
theorem dX6_fill_56 : decode cX6_fill 56 = .ok (.invokevirtual 62, 3) := by decide +kernel
theorem dX6_fill_59 : decode cX6_fill 59 = .ok (.return_, 1) := by decide +kernel
set_option maxRecDepth 20000 in
theorem ggX6_fillFor_X7_size : GoodIn wsX6_fillFor wsX7_size := goodIn_r _ [7, 8, 56, 57, 58, 59, 60, 61, 62, 63] (by decide +kernel) (by decide +kernel)
set_option maxRecDepth 20000 in
theorem gX6_fillFor_X7_size : GoodIn wsX6_fillFor (wsV RX6 66 RX7 yX7_size wsX7_size) := goodIn_app (goodIn_of _ (by decide +kernel)) ggX6_fillFor_X7_size
set_option maxRecDepth 20000 in
theorem ggX6_fillFor_X7_cellsAt : GoodIn wsX6_fillFor wsX7_cellsAt := goodIn_r _ [12, 8, 13, 56, 57, 58, 59, 60, 61, 62, 63] (by decide +kernel) (by decide +kernel)
set_option maxRecDepth 20000 in
theorem gX6_fillFor_X7_cellsAt : GoodIn wsX6_fillFor (wsV RX6 70 RX7 yX7_cellsAt wsX7_cellsAt) := goodIn_app (goodIn_of _ (by decide +kernel)) ggX6_fillFor_X7_cellsAt
set_option maxRecDepth 20000 in
theorem ggX6_fillFor_X7_ownerAt : GoodIn wsX6_fillFor wsX7_ownerAt := goodIn_r _ [17, 8, 18, 56, 57, 58, 59, 60, 61, 62, 63] (by decide +kernel) (by decide +kernel)
set_option maxRecDepth 20000 in
theorem gX6_fillFor_X7_ownerAt : GoodIn wsX6_fillFor (wsV RX6 74 RX7 yX7_ownerAt wsX7_ownerAt) := goodIn_app (goodIn_of _ (by decide +kernel)) ggX6_fillFor_X7_ownerAt
set_option maxRecDepth 20000 in
theorem ggX6_fillFor_X6_fill : GoodIn wsX6_fillFor wsX6_fill := goodIn_r _ [23, 24, 2, 1, 25, 26, 27, 28, 6, 29, 8, 30, 10, 11, 12, 13, 31, 32, 33, 22, 34, 35, 36, 37, 38, 39, 40, 3, 4, 5, 7, 14, 15, 16, 17, 18, 41, 42, 43, 9, 44, 45, 46, 47, 48, 49, 50, 51, 0, 19, 20, 21, 52, 53, 54, 55, 56, 57, 58, 59, 60, 61, 62, 63] (by decide +kernel) (by decide +kernel)
set_option maxRecDepth 20000 in
theorem gX6_fillFor_X6_fill : GoodIn wsX6_fillFor (wsV RX6 46 RX6 yX6_fill wsX6_fill) := goodIn_app (goodIn_of _ (by decide +kernel)) ggX6_fillFor_X6_fill
theorem dX6_fillFor_0 : decode cX6_fillFor 0 = .ok (.iconst 0, 1) := by decide +kernel
theorem dX6_fillFor_1 : decode cX6_fillFor 1 = .ok (.istore 5, 2) := by decide +kernel
theorem dX6_fillFor_3 : decode cX6_fillFor 3 = .ok (.iload 5, 2) := by decide +kernel
theorem dX6_fillFor_5 : decode cX6_fillFor 5 = .ok (.aload_n 0, 1) := by decide +kernel
theorem dX6_fillFor_6 : decode cX6_fillFor 6 = .ok (.getfield 9, 3) := by decide +kernel
theorem dX6_fillFor_9 : decode cX6_fillFor 9 = .ok (.invokevirtual 66, 3) := by decide +kernel
theorem dX6_fillFor_12 : decode cX6_fillFor 12 = .ok (.if_icmp .ge 63, 3) := by decide +kernel
theorem dX6_fillFor_15 : decode cX6_fillFor 15 = .ok (.aload_n 0, 1) := by decide +kernel
theorem dX6_fillFor_16 : decode cX6_fillFor 16 = .ok (.getfield 23, 3) := by decide +kernel
theorem dX6_fillFor_19 : decode cX6_fillFor 19 = .ok (.bipush 50, 2) := by decide +kernel
theorem dX6_fillFor_21 : decode cX6_fillFor 21 = .ok (.if_icmp .ge 54, 3) := by decide +kernel
theorem dX6_fillFor_24 : decode cX6_fillFor 24 = .ok (.aload_n 0, 1) := by decide +kernel
theorem dX6_fillFor_25 : decode cX6_fillFor 25 = .ok (.getfield 9, 3) := by decide +kernel
theorem dX6_fillFor_28 : decode cX6_fillFor 28 = .ok (.iload 5, 2) := by decide +kernel
theorem dX6_fillFor_30 : decode cX6_fillFor 30 = .ok (.invokevirtual 70, 3) := by decide +kernel
theorem dX6_fillFor_33 : decode cX6_fillFor 33 = .ok (.lstore 6, 2) := by decide +kernel
theorem dX6_fillFor_35 : decode cX6_fillFor 35 = .ok (.aload_n 0, 1) := by decide +kernel
theorem dX6_fillFor_36 : decode cX6_fillFor 36 = .ok (.getfield 9, 3) := by decide +kernel
theorem dX6_fillFor_39 : decode cX6_fillFor 39 = .ok (.iload 5, 2) := by decide +kernel
theorem dX6_fillFor_41 : decode cX6_fillFor 41 = .ok (.invokevirtual 74, 3) := by decide +kernel
theorem dX6_fillFor_44 : decode cX6_fillFor 44 = .ok (.iload_n 1, 1) := by decide +kernel
theorem dX6_fillFor_45 : decode cX6_fillFor 45 = .ok (.if_icmp .ne 24, 3) := by decide +kernel
theorem dX6_fillFor_48 : decode cX6_fillFor 48 = .ok (.lload 6, 2) := by decide +kernel
theorem dX6_fillFor_50 : decode cX6_fillFor 50 = .ok (.lload_n 2, 1) := by decide +kernel
theorem dX6_fillFor_51 : decode cX6_fillFor 51 = .ok (.land, 1) := by decide +kernel
theorem dX6_fillFor_52 : decode cX6_fillFor 52 = .ok (.lconst 0, 1) := by decide +kernel
theorem dX6_fillFor_53 : decode cX6_fillFor 53 = .ok (.lcmp, 1) := by decide +kernel
theorem dX6_fillFor_54 : decode cX6_fillFor 54 = .ok (.ifCond .ne 15, 3) := by decide +kernel
theorem dX6_fillFor_57 : decode cX6_fillFor 57 = .ok (.aload_n 0, 1) := by decide +kernel
theorem dX6_fillFor_58 : decode cX6_fillFor 58 = .ok (.lload_n 2, 1) := by decide +kernel
theorem dX6_fillFor_59 : decode cX6_fillFor 59 = .ok (.lload 6, 2) := by decide +kernel
theorem dX6_fillFor_61 : decode cX6_fillFor 61 = .ok (.lor, 1) := by decide +kernel
theorem dX6_fillFor_62 : decode cX6_fillFor 62 = .ok (.iload 4, 2) := by decide +kernel
theorem dX6_fillFor_64 : decode cX6_fillFor 64 = .ok (.iconst 1, 1) := by decide +kernel
theorem dX6_fillFor_65 : decode cX6_fillFor 65 = .ok (.iadd, 1) := by decide +kernel
theorem dX6_fillFor_66 : decode cX6_fillFor 66 = .ok (.invokevirtual 46, 3) := by decide +kernel
theorem dX6_fillFor_69 : decode cX6_fillFor 69 = .ok (.iinc 5 1, 3) := by decide +kernel
theorem dX6_fillFor_72 : decode cX6_fillFor 72 = .ok (.goto (-69), 3) := by decide +kernel
theorem dX6_fillFor_75 : decode cX6_fillFor 75 = .ok (.return_, 1) := by decide +kernel
set_option maxRecDepth 20000 in
theorem ggX6_scarcest_X6_countChoices : GoodIn wsX6_scarcest wsX6_countChoices := goodIn_r _ [8, 3, 9, 10, 11, 12, 13, 14, 15, 16, 17, 18, 19, 20, 21, 22, 23, 24, 25, 26, 27, 28, 34, 35, 36, 37, 38, 39, 40, 41, 42, 43, 44, 45] (by decide +kernel) (by decide +kernel)
set_option maxRecDepth 20000 in
theorem gX6_scarcest_X6_countChoices : GoodIn wsX6_scarcest (wsV RX6 78 RX6 yX6_countChoices wsX6_countChoices) := goodIn_app (goodIn_of _ (by decide +kernel)) ggX6_scarcest_X6_countChoices
set_option maxRecDepth 20000 in
theorem ggX6_scarcest_X9_has : GoodIn wsX6_scarcest wsX9_has := goodIn_r _ [30, 31, 32, 22, 33] (by decide +kernel) (by decide +kernel)
set_option maxRecDepth 20000 in
theorem gX6_scarcest_X9_has_n82 : GoodIn wsX6_scarcest (wsX9_has) := ggX6_scarcest_X9_has
theorem dX6_scarcest_0 : decode cX6_scarcest 0 = .ok (.aload_n 0, 1) := by decide +kernel
theorem dX6_scarcest_1 : decode cX6_scarcest 1 = .ok (.lload_n 1, 1) := by decide +kernel
theorem dX6_scarcest_2 : decode cX6_scarcest 2 = .ok (.invokevirtual 78, 3) := by decide +kernel
theorem dX6_scarcest_5 : decode cX6_scarcest 5 = .ok (.bipush 42, 2) := by decide +kernel
theorem dX6_scarcest_7 : decode cX6_scarcest 7 = .ok (.istore_n 3, 1) := by decide +kernel
theorem dX6_scarcest_8 : decode cX6_scarcest 8 = .ok (.sipush 589, 3) := by decide +kernel
theorem dX6_scarcest_11 : decode cX6_scarcest 11 = .ok (.istore 4, 2) := by decide +kernel
theorem dX6_scarcest_13 : decode cX6_scarcest 13 = .ok (.iconst 0, 1) := by decide +kernel
theorem dX6_scarcest_14 : decode cX6_scarcest 14 = .ok (.istore 5, 2) := by decide +kernel
theorem dX6_scarcest_16 : decode cX6_scarcest 16 = .ok (.iload 5, 2) := by decide +kernel
theorem dX6_scarcest_18 : decode cX6_scarcest 18 = .ok (.bipush 42, 2) := by decide +kernel
theorem dX6_scarcest_20 : decode cX6_scarcest 20 = .ok (.if_icmp .ge 51, 3) := by decide +kernel
theorem dX6_scarcest_23 : decode cX6_scarcest 23 = .ok (.aload_n 0, 1) := by decide +kernel
theorem dX6_scarcest_24 : decode cX6_scarcest 24 = .ok (.getfield 19, 3) := by decide +kernel
theorem dX6_scarcest_27 : decode cX6_scarcest 27 = .ok (.lload_n 1, 1) := by decide +kernel
theorem dX6_scarcest_28 : decode cX6_scarcest 28 = .ok (.ldc2_w 56, 3) := by decide +kernel
theorem dX6_scarcest_31 : decode cX6_scarcest 31 = .ok (.lxor, 1) := by decide +kernel
theorem dX6_scarcest_32 : decode cX6_scarcest 32 = .ok (.land, 1) := by decide +kernel
theorem dX6_scarcest_33 : decode cX6_scarcest 33 = .ok (.iload 5, 2) := by decide +kernel
theorem dX6_scarcest_35 : decode cX6_scarcest 35 = .ok (.invokestatic 82, 3) := by decide +kernel
theorem dX6_scarcest_38 : decode cX6_scarcest 38 = .ok (.ifCond .eq 27, 3) := by decide +kernel
theorem dX6_scarcest_41 : decode cX6_scarcest 41 = .ok (.aload_n 0, 1) := by decide +kernel
theorem dX6_scarcest_42 : decode cX6_scarcest 42 = .ok (.getfield 15, 3) := by decide +kernel
theorem dX6_scarcest_45 : decode cX6_scarcest 45 = .ok (.iload 5, 2) := by decide +kernel
theorem dX6_scarcest_47 : decode cX6_scarcest 47 = .ok (.iaload, 1) := by decide +kernel
theorem dX6_scarcest_48 : decode cX6_scarcest 48 = .ok (.iload 4, 2) := by decide +kernel
theorem dX6_scarcest_50 : decode cX6_scarcest 50 = .ok (.if_icmp .ge 15, 3) := by decide +kernel
theorem dX6_scarcest_53 : decode cX6_scarcest 53 = .ok (.iload 5, 2) := by decide +kernel
theorem dX6_scarcest_55 : decode cX6_scarcest 55 = .ok (.istore_n 3, 1) := by decide +kernel
theorem dX6_scarcest_56 : decode cX6_scarcest 56 = .ok (.aload_n 0, 1) := by decide +kernel
theorem dX6_scarcest_57 : decode cX6_scarcest 57 = .ok (.getfield 15, 3) := by decide +kernel
theorem dX6_scarcest_60 : decode cX6_scarcest 60 = .ok (.iload 5, 2) := by decide +kernel
theorem dX6_scarcest_62 : decode cX6_scarcest 62 = .ok (.iaload, 1) := by decide +kernel
theorem dX6_scarcest_63 : decode cX6_scarcest 63 = .ok (.istore 4, 2) := by decide +kernel
theorem dX6_scarcest_65 : decode cX6_scarcest 65 = .ok (.iinc 5 1, 3) := by decide +kernel
theorem dX6_scarcest_68 : decode cX6_scarcest 68 = .ok (.goto (-52), 3) := by decide +kernel
theorem dX6_scarcest_71 : decode cX6_scarcest 71 = .ok (.iload_n 3, 1) := by decide +kernel
theorem dX6_scarcest_72 : decode cX6_scarcest 72 = .ok (.ireturn, 1) := by decide +kernel
set_option maxRecDepth 20000 in
theorem ggX6_countChoices_X7_size : GoodIn wsX6_countChoices wsX7_size := goodIn_r _ [7, 8, 26, 27, 28, 29, 30, 31, 32, 33] (by decide +kernel) (by decide +kernel)
set_option maxRecDepth 20000 in
theorem gX6_countChoices_X7_size : GoodIn wsX6_countChoices (wsV RX6 66 RX7 yX7_size wsX7_size) := goodIn_app (goodIn_of _ (by decide +kernel)) ggX6_countChoices_X7_size
set_option maxRecDepth 20000 in
theorem ggX6_countChoices_X7_ownerAt : GoodIn wsX6_countChoices wsX7_ownerAt := goodIn_r _ [12, 8, 13, 26, 27, 28, 29, 30, 31, 32, 33] (by decide +kernel) (by decide +kernel)
set_option maxRecDepth 20000 in
theorem gX6_countChoices_X7_ownerAt : GoodIn wsX6_countChoices (wsV RX6 74 RX7 yX7_ownerAt wsX7_ownerAt) := goodIn_app (goodIn_of _ (by decide +kernel)) ggX6_countChoices_X7_ownerAt
set_option maxRecDepth 20000 in
theorem ggX6_countChoices_X9_isCell : GoodIn wsX6_countChoices wsX9_isCell := goodIn_r _ [16] (by decide +kernel) (by decide +kernel)
set_option maxRecDepth 20000 in
theorem gX6_countChoices_X9_isCell_n86 : GoodIn wsX6_countChoices (wsX9_isCell) := ggX6_countChoices_X9_isCell
set_option maxRecDepth 20000 in
theorem ggX6_countChoices_X7_cellsAt : GoodIn wsX6_countChoices wsX7_cellsAt := goodIn_r _ [20, 8, 21, 26, 27, 28, 29, 30, 31, 32, 33] (by decide +kernel) (by decide +kernel)
set_option maxRecDepth 20000 in
theorem gX6_countChoices_X7_cellsAt : GoodIn wsX6_countChoices (wsV RX6 70 RX7 yX7_cellsAt wsX7_cellsAt) := goodIn_app (goodIn_of _ (by decide +kernel)) ggX6_countChoices_X7_cellsAt
theorem dX6_countChoices_0 : decode cX6_countChoices 0 = .ok (.iconst 0, 1) := by decide +kernel
theorem dX6_countChoices_1 : decode cX6_countChoices 1 = .ok (.istore_n 3, 1) := by decide +kernel
theorem dX6_countChoices_2 : decode cX6_countChoices 2 = .ok (.iload_n 3, 1) := by decide +kernel
theorem dX6_countChoices_3 : decode cX6_countChoices 3 = .ok (.bipush 42, 2) := by decide +kernel
theorem dX6_countChoices_5 : decode cX6_countChoices 5 = .ok (.if_icmp .ge 16, 3) := by decide +kernel
theorem dX6_countChoices_8 : decode cX6_countChoices 8 = .ok (.aload_n 0, 1) := by decide +kernel
theorem dX6_countChoices_9 : decode cX6_countChoices 9 = .ok (.getfield 15, 3) := by decide +kernel
theorem dX6_countChoices_12 : decode cX6_countChoices 12 = .ok (.iload_n 3, 1) := by decide +kernel
theorem dX6_countChoices_13 : decode cX6_countChoices 13 = .ok (.iconst 0, 1) := by decide +kernel
theorem dX6_countChoices_14 : decode cX6_countChoices 14 = .ok (.iastore, 1) := by decide +kernel
theorem dX6_countChoices_15 : decode cX6_countChoices 15 = .ok (.iinc 3 1, 3) := by decide +kernel
theorem dX6_countChoices_18 : decode cX6_countChoices 18 = .ok (.goto (-16), 3) := by decide +kernel
theorem dX6_countChoices_21 : decode cX6_countChoices 21 = .ok (.iconst 0, 1) := by decide +kernel
theorem dX6_countChoices_22 : decode cX6_countChoices 22 = .ok (.istore_n 3, 1) := by decide +kernel
theorem dX6_countChoices_23 : decode cX6_countChoices 23 = .ok (.iload_n 3, 1) := by decide +kernel
theorem dX6_countChoices_24 : decode cX6_countChoices 24 = .ok (.aload_n 0, 1) := by decide +kernel
theorem dX6_countChoices_25 : decode cX6_countChoices 25 = .ok (.getfield 9, 3) := by decide +kernel
theorem dX6_countChoices_28 : decode cX6_countChoices 28 = .ok (.invokevirtual 66, 3) := by decide +kernel
theorem dX6_countChoices_31 : decode cX6_countChoices 31 = .ok (.if_icmp .ge 53, 3) := by decide +kernel
theorem dX6_countChoices_34 : decode cX6_countChoices 34 = .ok (.aload_n 0, 1) := by decide +kernel
theorem dX6_countChoices_35 : decode cX6_countChoices 35 = .ok (.getfield 9, 3) := by decide +kernel
theorem dX6_countChoices_38 : decode cX6_countChoices 38 = .ok (.iload_n 3, 1) := by decide +kernel
theorem dX6_countChoices_39 : decode cX6_countChoices 39 = .ok (.invokevirtual 74, 3) := by decide +kernel
theorem dX6_countChoices_42 : decode cX6_countChoices 42 = .ok (.istore 4, 2) := by decide +kernel
theorem dX6_countChoices_44 : decode cX6_countChoices 44 = .ok (.iload 4, 2) := by decide +kernel
theorem dX6_countChoices_46 : decode cX6_countChoices 46 = .ok (.invokestatic 86, 3) := by decide +kernel
theorem dX6_countChoices_49 : decode cX6_countChoices 49 = .ok (.ifCond .eq 29, 3) := by decide +kernel
theorem dX6_countChoices_52 : decode cX6_countChoices 52 = .ok (.aload_n 0, 1) := by decide +kernel
theorem dX6_countChoices_53 : decode cX6_countChoices 53 = .ok (.getfield 9, 3) := by decide +kernel
theorem dX6_countChoices_56 : decode cX6_countChoices 56 = .ok (.iload_n 3, 1) := by decide +kernel
theorem dX6_countChoices_57 : decode cX6_countChoices 57 = .ok (.invokevirtual 70, 3) := by decide +kernel
theorem dX6_countChoices_60 : decode cX6_countChoices 60 = .ok (.lload_n 1, 1) := by decide +kernel
theorem dX6_countChoices_61 : decode cX6_countChoices 61 = .ok (.land, 1) := by decide +kernel
theorem dX6_countChoices_62 : decode cX6_countChoices 62 = .ok (.lconst 0, 1) := by decide +kernel
theorem dX6_countChoices_63 : decode cX6_countChoices 63 = .ok (.lcmp, 1) := by decide +kernel
theorem dX6_countChoices_64 : decode cX6_countChoices 64 = .ok (.ifCond .ne 14, 3) := by decide +kernel
theorem dX6_countChoices_67 : decode cX6_countChoices 67 = .ok (.aload_n 0, 1) := by decide +kernel
theorem dX6_countChoices_68 : decode cX6_countChoices 68 = .ok (.getfield 15, 3) := by decide +kernel
theorem dX6_countChoices_71 : decode cX6_countChoices 71 = .ok (.iload 4, 2) := by decide +kernel
theorem dX6_countChoices_73 : decode cX6_countChoices 73 = .ok (.dup2, 1) := by decide +kernel
theorem dX6_countChoices_74 : decode cX6_countChoices 74 = .ok (.iaload, 1) := by decide +kernel
theorem dX6_countChoices_75 : decode cX6_countChoices 75 = .ok (.iconst 1, 1) := by decide +kernel
theorem dX6_countChoices_76 : decode cX6_countChoices 76 = .ok (.iadd, 1) := by decide +kernel
theorem dX6_countChoices_77 : decode cX6_countChoices 77 = .ok (.iastore, 1) := by decide +kernel
theorem dX6_countChoices_78 : decode cX6_countChoices 78 = .ok (.iinc 3 1, 3) := by decide +kernel
theorem dX6_countChoices_81 : decode cX6_countChoices 81 = .ok (.goto (-58), 3) := by decide +kernel
theorem dX6_countChoices_84 : decode cX6_countChoices 84 = .ok (.return_, 1) := by decide +kernel
set_option maxRecDepth 20000 in
theorem ggX7_init_X9_cellsOf : GoodIn wsX7_init wsX9_cellsOf := goodIn_r _ [16, 17, 18, 15, 19, 20, 21, 22] (by decide +kernel) (by decide +kernel)
set_option maxRecDepth 20000 in
theorem gX7_init_X9_cellsOf_n38 : GoodIn wsX7_init (wsX9_cellsOf) := ggX7_init_X9_cellsOf
theorem dX7_init_0 : decode cX7_init 0 = .ok (.aload_n 0, 1) := by decide +kernel
theorem dX7_init_1 : decode cX7_init 1 = .ok (.invokespecial 3, 3) := by decide +kernel
theorem dX7_init_4 : decode cX7_init 4 = .ok (.aload_n 0, 1) := by decide +kernel
theorem dX7_init_5 : decode cX7_init 5 = .ok (.sipush 588, 3) := by decide +kernel
theorem dX7_init_8 : decode cX7_init 8 = .ok (.newarray .int, 2) := by decide +kernel
theorem dX7_init_10 : decode cX7_init 10 = .ok (.putfield 9, 3) := by decide +kernel
theorem dX7_init_13 : decode cX7_init 13 = .ok (.aload_n 0, 1) := by decide +kernel
theorem dX7_init_14 : decode cX7_init 14 = .ok (.sipush 588, 3) := by decide +kernel
theorem dX7_init_17 : decode cX7_init 17 = .ok (.newarray .int, 2) := by decide +kernel
theorem dX7_init_19 : decode cX7_init 19 = .ok (.putfield 15, 3) := by decide +kernel
theorem dX7_init_22 : decode cX7_init 22 = .ok (.aload_n 0, 1) := by decide +kernel
theorem dX7_init_23 : decode cX7_init 23 = .ok (.sipush 588, 3) := by decide +kernel
theorem dX7_init_26 : decode cX7_init 26 = .ok (.newarray .long, 2) := by decide +kernel
theorem dX7_init_28 : decode cX7_init 28 = .ok (.putfield 18, 3) := by decide +kernel
theorem dX7_init_31 : decode cX7_init 31 = .ok (.aload_n 0, 1) := by decide +kernel
theorem dX7_init_32 : decode cX7_init 32 = .ok (.sipush 588, 3) := by decide +kernel
theorem dX7_init_35 : decode cX7_init 35 = .ok (.newarray .int, 2) := by decide +kernel
theorem dX7_init_37 : decode cX7_init 37 = .ok (.putfield 22, 3) := by decide +kernel
theorem dX7_init_40 : decode cX7_init 40 = .ok (.aload_n 0, 1) := by decide +kernel
theorem dX7_init_41 : decode cX7_init 41 = .ok (.sipush 588, 3) := by decide +kernel
theorem dX7_init_44 : decode cX7_init 44 = .ok (.newarray .int, 2) := by decide +kernel
theorem dX7_init_46 : decode cX7_init 46 = .ok (.putfield 25, 3) := by decide +kernel
theorem dX7_init_49 : decode cX7_init 49 = .ok (.aload_n 0, 1) := by decide +kernel
theorem dX7_init_50 : decode cX7_init 50 = .ok (.sipush 588, 3) := by decide +kernel
theorem dX7_init_53 : decode cX7_init 53 = .ok (.newarray .long, 2) := by decide +kernel
theorem dX7_init_55 : decode cX7_init 55 = .ok (.putfield 28, 3) := by decide +kernel
theorem dX7_init_58 : decode cX7_init 58 = .ok (.aload_n 0, 1) := by decide +kernel
theorem dX7_init_59 : decode cX7_init 59 = .ok (.sipush 588, 3) := by decide +kernel
theorem dX7_init_62 : decode cX7_init 62 = .ok (.newarray .int, 2) := by decide +kernel
theorem dX7_init_64 : decode cX7_init 64 = .ok (.putfield 31, 3) := by decide +kernel
theorem dX7_init_67 : decode cX7_init 67 = .ok (.aload_n 0, 1) := by decide +kernel
theorem dX7_init_68 : decode cX7_init 68 = .ok (.iconst 0, 1) := by decide +kernel
theorem dX7_init_69 : decode cX7_init 69 = .ok (.putfield 34, 3) := by decide +kernel
theorem dX7_init_72 : decode cX7_init 72 = .ok (.iconst 0, 1) := by decide +kernel
theorem dX7_init_73 : decode cX7_init 73 = .ok (.istore_n 1, 1) := by decide +kernel
theorem dX7_init_74 : decode cX7_init 74 = .ok (.iconst 0, 1) := by decide +kernel
theorem dX7_init_75 : decode cX7_init 75 = .ok (.istore_n 2, 1) := by decide +kernel
theorem dX7_init_76 : decode cX7_init 76 = .ok (.iload_n 2, 1) := by decide +kernel
theorem dX7_init_77 : decode cX7_init 77 = .ok (.bipush 42, 2) := by decide +kernel
theorem dX7_init_79 : decode cX7_init 79 = .ok (.if_icmp .ge 69, 3) := by decide +kernel
theorem dX7_init_82 : decode cX7_init 82 = .ok (.iload_n 2, 1) := by decide +kernel
theorem dX7_init_83 : decode cX7_init 83 = .ok (.istore_n 3, 1) := by decide +kernel
theorem dX7_init_84 : decode cX7_init 84 = .ok (.iload_n 3, 1) := by decide +kernel
theorem dX7_init_85 : decode cX7_init 85 = .ok (.bipush 42, 2) := by decide +kernel
theorem dX7_init_87 : decode cX7_init 87 = .ok (.if_icmp .ge 55, 3) := by decide +kernel
theorem dX7_init_90 : decode cX7_init 90 = .ok (.iload_n 1, 1) := by decide +kernel
theorem dX7_init_91 : decode cX7_init 91 = .ok (.sipush 588, 3) := by decide +kernel
theorem dX7_init_94 : decode cX7_init 94 = .ok (.if_icmp .ge 48, 3) := by decide +kernel
theorem dX7_init_97 : decode cX7_init 97 = .ok (.iload_n 3, 1) := by decide +kernel
theorem dX7_init_98 : decode cX7_init 98 = .ok (.bipush 7, 2) := by decide +kernel
theorem dX7_init_100 : decode cX7_init 100 = .ok (.irem, 1) := by decide +kernel
theorem dX7_init_101 : decode cX7_init 101 = .ok (.iload_n 2, 1) := by decide +kernel
theorem dX7_init_102 : decode cX7_init 102 = .ok (.bipush 7, 2) := by decide +kernel
theorem dX7_init_104 : decode cX7_init 104 = .ok (.irem, 1) := by decide +kernel
theorem dX7_init_105 : decode cX7_init 105 = .ok (.if_icmp .lt 31, 3) := by decide +kernel
theorem dX7_init_108 : decode cX7_init 108 = .ok (.aload_n 0, 1) := by decide +kernel
theorem dX7_init_109 : decode cX7_init 109 = .ok (.getfield 9, 3) := by decide +kernel
theorem dX7_init_112 : decode cX7_init 112 = .ok (.iload_n 1, 1) := by decide +kernel
theorem dX7_init_113 : decode cX7_init 113 = .ok (.iload_n 2, 1) := by decide +kernel
theorem dX7_init_114 : decode cX7_init 114 = .ok (.iastore, 1) := by decide +kernel
theorem dX7_init_115 : decode cX7_init 115 = .ok (.aload_n 0, 1) := by decide +kernel
theorem dX7_init_116 : decode cX7_init 116 = .ok (.getfield 15, 3) := by decide +kernel
theorem dX7_init_119 : decode cX7_init 119 = .ok (.iload_n 1, 1) := by decide +kernel
theorem dX7_init_120 : decode cX7_init 120 = .ok (.iload_n 3, 1) := by decide +kernel
theorem dX7_init_121 : decode cX7_init 121 = .ok (.iastore, 1) := by decide +kernel
theorem dX7_init_122 : decode cX7_init 122 = .ok (.aload_n 0, 1) := by decide +kernel
theorem dX7_init_123 : decode cX7_init 123 = .ok (.getfield 18, 3) := by decide +kernel
theorem dX7_init_126 : decode cX7_init 126 = .ok (.iload_n 1, 1) := by decide +kernel
theorem dX7_init_127 : decode cX7_init 127 = .ok (.iload_n 2, 1) := by decide +kernel
theorem dX7_init_128 : decode cX7_init 128 = .ok (.iload_n 3, 1) := by decide +kernel
theorem dX7_init_129 : decode cX7_init 129 = .ok (.invokestatic 38, 3) := by decide +kernel
theorem dX7_init_132 : decode cX7_init 132 = .ok (.lastore, 1) := by decide +kernel
theorem dX7_init_133 : decode cX7_init 133 = .ok (.iinc 1 1, 3) := by decide +kernel
theorem dX7_init_136 : decode cX7_init 136 = .ok (.iinc 3 1, 3) := by decide +kernel
theorem dX7_init_139 : decode cX7_init 139 = .ok (.goto (-55), 3) := by decide +kernel
theorem dX7_init_142 : decode cX7_init 142 = .ok (.iinc 2 1, 3) := by decide +kernel
theorem dX7_init_145 : decode cX7_init 145 = .ok (.goto (-69), 3) := by decide +kernel
theorem dX7_init_148 : decode cX7_init 148 = .ok (.return_, 1) := by decide +kernel
set_option maxRecDepth 20000 in
theorem ggX7_find_X0_cellsInFields : GoodIn wsX7_find wsX0_cellsInFields := goodIn_r _ [7, 8, 9, 10, 11, 52, 53, 54, 55] (by decide +kernel) (by decide +kernel)
set_option maxRecDepth 20000 in
theorem gX7_find_X0_cellsInFields : GoodIn wsX7_find (wsV RX7 42 RX0 yX0_cellsInFields wsX0_cellsInFields) := goodIn_app (goodIn_of _ (by decide +kernel)) ggX7_find_X0_cellsInFields
set_option maxRecDepth 20000 in
theorem ggX7_find_X0_cellsWithNumber : GoodIn wsX7_find wsX0_cellsWithNumber := goodIn_r _ [15, 16, 9, 10, 11, 52, 53, 54, 55] (by decide +kernel) (by decide +kernel)
set_option maxRecDepth 20000 in
theorem gX7_find_X0_cellsWithNumber : GoodIn wsX7_find (wsV RX7 48 RX0 yX0_cellsWithNumber wsX0_cellsWithNumber) := goodIn_app (goodIn_of _ (by decide +kernel)) ggX7_find_X0_cellsWithNumber
set_option maxRecDepth 20000 in
theorem ggX7_find_J13_bitCount_95d88 : GoodIn wsX7_find wsJ13_bitCount_95d88 := goodIn_r _ [20, 21, 22, 23] (by decide +kernel) (by decide +kernel)
set_option maxRecDepth 20000 in
theorem gX7_find_J13_bitCount_95d88 : GoodIn wsX7_find (va_wsS RX7 51 yJ13_bitCount_95d88 wsJ13_bitCount_95d88) := goodIn_app (goodIn_of _ (by decide +kernel)) ggX7_find_J13_bitCount_95d88
set_option maxRecDepth 20000 in
theorem ggX7_find_X9_lowestCell : GoodIn wsX7_find wsX9_lowestCell := goodIn_r _ [25, 26, 18, 19, 20, 21, 22, 23] (by decide +kernel) (by decide +kernel)
set_option maxRecDepth 20000 in
theorem gX7_find_X9_lowestCell_n57 : GoodIn wsX7_find (wsX9_lowestCell) := ggX7_find_X9_lowestCell
set_option maxRecDepth 20000 in
theorem ggX7_find_X0_numberIn : GoodIn wsX7_find wsX0_numberIn := goodIn_r _ [30, 16, 31, 10, 32, 52, 53, 54, 55] (by decide +kernel) (by decide +kernel)
set_option maxRecDepth 20000 in
theorem gX7_find_X0_numberIn : GoodIn wsX7_find (wsV RX7 60 RX0 yX0_numberIn wsX0_numberIn) := goodIn_app (goodIn_of _ (by decide +kernel)) ggX7_find_X0_numberIn
set_option maxRecDepth 20000 in
theorem ggX7_find_X7_put : GoodIn wsX7_find wsX7_put := goodIn_r _ [37, 1, 38, 39, 40, 41, 42, 2, 43, 44, 45, 46, 47, 48, 49, 50, 51] (by decide +kernel) (by decide +kernel)
set_option maxRecDepth 20000 in
theorem gX7_find_X7_put : GoodIn wsX7_find (wsV RX7 64 RX7 yX7_put wsX7_put) := goodIn_app (goodIn_of _ (by decide +kernel)) ggX7_find_X7_put
theorem dX7_find_0 : decode cX7_find 0 = .ok (.aload_n 1, 1) := by decide +kernel
theorem dX7_find_1 : decode cX7_find 1 = .ok (.invokevirtual 42, 3) := by decide +kernel
theorem dX7_find_4 : decode cX7_find 4 = .ok (.lstore_n 2, 1) := by decide +kernel
theorem dX7_find_5 : decode cX7_find 5 = .ok (.aload_n 1, 1) := by decide +kernel
theorem dX7_find_6 : decode cX7_find 6 = .ok (.invokevirtual 48, 3) := by decide +kernel
theorem dX7_find_9 : decode cX7_find 9 = .ok (.lstore 4, 2) := by decide +kernel
theorem dX7_find_11 : decode cX7_find 11 = .ok (.aload_n 0, 1) := by decide +kernel
theorem dX7_find_12 : decode cX7_find 12 = .ok (.iconst 0, 1) := by decide +kernel
theorem dX7_find_13 : decode cX7_find 13 = .ok (.putfield 34, 3) := by decide +kernel
theorem dX7_find_16 : decode cX7_find 16 = .ok (.iconst 0, 1) := by decide +kernel
theorem dX7_find_17 : decode cX7_find 17 = .ok (.istore 6, 2) := by decide +kernel
theorem dX7_find_19 : decode cX7_find 19 = .ok (.iload 6, 2) := by decide +kernel
theorem dX7_find_21 : decode cX7_find 21 = .ok (.sipush 588, 3) := by decide +kernel
theorem dX7_find_24 : decode cX7_find 24 = .ok (.if_icmp .ge 78, 3) := by decide +kernel
theorem dX7_find_27 : decode cX7_find 27 = .ok (.aload_n 0, 1) := by decide +kernel
theorem dX7_find_28 : decode cX7_find 28 = .ok (.getfield 18, 3) := by decide +kernel
theorem dX7_find_31 : decode cX7_find 31 = .ok (.iload 6, 2) := by decide +kernel
theorem dX7_find_33 : decode cX7_find 33 = .ok (.laload, 1) := by decide +kernel
theorem dX7_find_34 : decode cX7_find 34 = .ok (.lload 4, 2) := by decide +kernel
theorem dX7_find_36 : decode cX7_find 36 = .ok (.land, 1) := by decide +kernel
theorem dX7_find_37 : decode cX7_find 37 = .ok (.lstore 7, 2) := by decide +kernel
theorem dX7_find_39 : decode cX7_find 39 = .ok (.aload_n 0, 1) := by decide +kernel
theorem dX7_find_40 : decode cX7_find 40 = .ok (.getfield 18, 3) := by decide +kernel
theorem dX7_find_43 : decode cX7_find 43 = .ok (.iload 6, 2) := by decide +kernel
theorem dX7_find_45 : decode cX7_find 45 = .ok (.laload, 1) := by decide +kernel
theorem dX7_find_46 : decode cX7_find 46 = .ok (.lload_n 2, 1) := by decide +kernel
theorem dX7_find_47 : decode cX7_find 47 = .ok (.land, 1) := by decide +kernel
theorem dX7_find_48 : decode cX7_find 48 = .ok (.lconst 0, 1) := by decide +kernel
theorem dX7_find_49 : decode cX7_find 49 = .ok (.lcmp, 1) := by decide +kernel
theorem dX7_find_50 : decode cX7_find 50 = .ok (.ifCond .ne 46, 3) := by decide +kernel
theorem dX7_find_53 : decode cX7_find 53 = .ok (.lload 7, 2) := by decide +kernel
theorem dX7_find_55 : decode cX7_find 55 = .ok (.invokestatic 51, 3) := by decide +kernel
theorem dX7_find_58 : decode cX7_find 58 = .ok (.iconst 1, 1) := by decide +kernel
theorem dX7_find_59 : decode cX7_find 59 = .ok (.if_icmp .ne 37, 3) := by decide +kernel
theorem dX7_find_62 : decode cX7_find 62 = .ok (.lload 7, 2) := by decide +kernel
theorem dX7_find_64 : decode cX7_find 64 = .ok (.invokestatic 57, 3) := by decide +kernel
theorem dX7_find_67 : decode cX7_find 67 = .ok (.istore 9, 2) := by decide +kernel
theorem dX7_find_69 : decode cX7_find 69 = .ok (.aload_n 1, 1) := by decide +kernel
theorem dX7_find_70 : decode cX7_find 70 = .ok (.iload 9, 2) := by decide +kernel
theorem dX7_find_72 : decode cX7_find 72 = .ok (.invokevirtual 60, 3) := by decide +kernel
theorem dX7_find_75 : decode cX7_find 75 = .ok (.aload_n 0, 1) := by decide +kernel
theorem dX7_find_76 : decode cX7_find 76 = .ok (.getfield 18, 3) := by decide +kernel
theorem dX7_find_79 : decode cX7_find 79 = .ok (.iload 6, 2) := by decide +kernel
theorem dX7_find_81 : decode cX7_find 81 = .ok (.laload, 1) := by decide +kernel
theorem dX7_find_82 : decode cX7_find 82 = .ok (.invokestatic 51, 3) := by decide +kernel
theorem dX7_find_85 : decode cX7_find 85 = .ok (.if_icmp .ne 11, 3) := by decide +kernel
theorem dX7_find_88 : decode cX7_find 88 = .ok (.aload_n 0, 1) := by decide +kernel
theorem dX7_find_89 : decode cX7_find 89 = .ok (.iload 6, 2) := by decide +kernel
theorem dX7_find_91 : decode cX7_find 91 = .ok (.iload 9, 2) := by decide +kernel
theorem dX7_find_93 : decode cX7_find 93 = .ok (.invokevirtual 64, 3) := by decide +kernel
theorem dX7_find_96 : decode cX7_find 96 = .ok (.iinc 6 1, 3) := by decide +kernel
theorem dX7_find_99 : decode cX7_find 99 = .ok (.goto (-80), 3) := by decide +kernel
theorem dX7_find_102 : decode cX7_find 102 = .ok (.return_, 1) := by decide +kernel
theorem dX7_put_0 : decode cX7_put 0 = .ok (.iload_n 1, 1) := by decide +kernel
theorem dX7_put_1 : decode cX7_put 1 = .ok (.ifCond .lt 92, 3) := by decide +kernel
theorem dX7_put_4 : decode cX7_put 4 = .ok (.iload_n 1, 1) := by decide +kernel
theorem dX7_put_5 : decode cX7_put 5 = .ok (.sipush 588, 3) := by decide +kernel
theorem dX7_put_8 : decode cX7_put 8 = .ok (.if_icmp .ge 85, 3) := by decide +kernel
theorem dX7_put_11 : decode cX7_put 11 = .ok (.aload_n 0, 1) := by decide +kernel
theorem dX7_put_12 : decode cX7_put 12 = .ok (.getfield 34, 3) := by decide +kernel
theorem dX7_put_15 : decode cX7_put 15 = .ok (.ifCond .lt 78, 3) := by decide +kernel
theorem dX7_put_18 : decode cX7_put 18 = .ok (.aload_n 0, 1) := by decide +kernel
theorem dX7_put_19 : decode cX7_put 19 = .ok (.getfield 34, 3) := by decide +kernel
theorem dX7_put_22 : decode cX7_put 22 = .ok (.sipush 588, 3) := by decide +kernel
theorem dX7_put_25 : decode cX7_put 25 = .ok (.if_icmp .ge 68, 3) := by decide +kernel
theorem dX7_put_28 : decode cX7_put 28 = .ok (.aload_n 0, 1) := by decide +kernel
theorem dX7_put_29 : decode cX7_put 29 = .ok (.getfield 22, 3) := by decide +kernel
theorem dX7_put_32 : decode cX7_put 32 = .ok (.aload_n 0, 1) := by decide +kernel
theorem dX7_put_33 : decode cX7_put 33 = .ok (.getfield 34, 3) := by decide +kernel
theorem dX7_put_36 : decode cX7_put 36 = .ok (.aload_n 0, 1) := by decide +kernel
theorem dX7_put_37 : decode cX7_put 37 = .ok (.getfield 9, 3) := by decide +kernel
theorem dX7_put_40 : decode cX7_put 40 = .ok (.iload_n 1, 1) := by decide +kernel
theorem dX7_put_41 : decode cX7_put 41 = .ok (.iaload, 1) := by decide +kernel
theorem dX7_put_42 : decode cX7_put 42 = .ok (.iastore, 1) := by decide +kernel
theorem dX7_put_43 : decode cX7_put 43 = .ok (.aload_n 0, 1) := by decide +kernel
theorem dX7_put_44 : decode cX7_put 44 = .ok (.getfield 25, 3) := by decide +kernel
theorem dX7_put_47 : decode cX7_put 47 = .ok (.aload_n 0, 1) := by decide +kernel
theorem dX7_put_48 : decode cX7_put 48 = .ok (.getfield 34, 3) := by decide +kernel
theorem dX7_put_51 : decode cX7_put 51 = .ok (.aload_n 0, 1) := by decide +kernel
theorem dX7_put_52 : decode cX7_put 52 = .ok (.getfield 15, 3) := by decide +kernel
theorem dX7_put_55 : decode cX7_put 55 = .ok (.iload_n 1, 1) := by decide +kernel
theorem dX7_put_56 : decode cX7_put 56 = .ok (.iaload, 1) := by decide +kernel
theorem dX7_put_57 : decode cX7_put 57 = .ok (.iastore, 1) := by decide +kernel
theorem dX7_put_58 : decode cX7_put 58 = .ok (.aload_n 0, 1) := by decide +kernel
theorem dX7_put_59 : decode cX7_put 59 = .ok (.getfield 28, 3) := by decide +kernel
theorem dX7_put_62 : decode cX7_put 62 = .ok (.aload_n 0, 1) := by decide +kernel
theorem dX7_put_63 : decode cX7_put 63 = .ok (.getfield 34, 3) := by decide +kernel
theorem dX7_put_66 : decode cX7_put 66 = .ok (.aload_n 0, 1) := by decide +kernel
theorem dX7_put_67 : decode cX7_put 67 = .ok (.getfield 18, 3) := by decide +kernel
theorem dX7_put_70 : decode cX7_put 70 = .ok (.iload_n 1, 1) := by decide +kernel
theorem dX7_put_71 : decode cX7_put 71 = .ok (.laload, 1) := by decide +kernel
theorem dX7_put_72 : decode cX7_put 72 = .ok (.lastore, 1) := by decide +kernel
theorem dX7_put_73 : decode cX7_put 73 = .ok (.aload_n 0, 1) := by decide +kernel
theorem dX7_put_74 : decode cX7_put 74 = .ok (.getfield 31, 3) := by decide +kernel
theorem dX7_put_77 : decode cX7_put 77 = .ok (.aload_n 0, 1) := by decide +kernel
theorem dX7_put_78 : decode cX7_put 78 = .ok (.getfield 34, 3) := by decide +kernel
theorem dX7_put_81 : decode cX7_put 81 = .ok (.iload_n 2, 1) := by decide +kernel
theorem dX7_put_82 : decode cX7_put 82 = .ok (.iastore, 1) := by decide +kernel
theorem dX7_put_83 : decode cX7_put 83 = .ok (.aload_n 0, 1) := by decide +kernel
theorem dX7_put_84 : decode cX7_put 84 = .ok (.dup, 1) := by decide +kernel
theorem dX7_put_85 : decode cX7_put 85 = .ok (.getfield 34, 3) := by decide +kernel
theorem dX7_put_88 : decode cX7_put 88 = .ok (.iconst 1, 1) := by decide +kernel
theorem dX7_put_89 : decode cX7_put 89 = .ok (.iadd, 1) := by decide +kernel
theorem dX7_put_90 : decode cX7_put 90 = .ok (.putfield 34, 3) := by decide +kernel
theorem dX7_put_93 : decode cX7_put 93 = .ok (.return_, 1) := by decide +kernel
theorem dX7_size_0 : decode cX7_size 0 = .ok (.aload_n 0, 1) := by decide +kernel
theorem dX7_size_1 : decode cX7_size 1 = .ok (.getfield 34, 3) := by decide +kernel
theorem dX7_size_4 : decode cX7_size 4 = .ok (.ireturn, 1) := by decide +kernel
theorem dX7_firstAt_0 : decode cX7_firstAt 0 = .ok (.iload_n 1, 1) := by decide +kernel
theorem dX7_firstAt_1 : decode cX7_firstAt 1 = .ok (.ifCond .lt 27, 3) := by decide +kernel
theorem dX7_firstAt_4 : decode cX7_firstAt 4 = .ok (.iload_n 1, 1) := by decide +kernel
theorem dX7_firstAt_5 : decode cX7_firstAt 5 = .ok (.aload_n 0, 1) := by decide +kernel
theorem dX7_firstAt_6 : decode cX7_firstAt 6 = .ok (.getfield 34, 3) := by decide +kernel
theorem dX7_firstAt_9 : decode cX7_firstAt 9 = .ok (.if_icmp .ge 19, 3) := by decide +kernel
theorem dX7_firstAt_12 : decode cX7_firstAt 12 = .ok (.iload_n 1, 1) := by decide +kernel
theorem dX7_firstAt_13 : decode cX7_firstAt 13 = .ok (.sipush 588, 3) := by decide +kernel
theorem dX7_firstAt_16 : decode cX7_firstAt 16 = .ok (.if_icmp .ge 12, 3) := by decide +kernel
theorem dX7_firstAt_19 : decode cX7_firstAt 19 = .ok (.aload_n 0, 1) := by decide +kernel
theorem dX7_firstAt_20 : decode cX7_firstAt 20 = .ok (.getfield 22, 3) := by decide +kernel
theorem dX7_firstAt_23 : decode cX7_firstAt 23 = .ok (.iload_n 1, 1) := by decide +kernel
theorem dX7_firstAt_24 : decode cX7_firstAt 24 = .ok (.iaload, 1) := by decide +kernel
theorem dX7_firstAt_25 : decode cX7_firstAt 25 = .ok (.goto 5, 3) := by decide +kernel
theorem dX7_firstAt_28 : decode cX7_firstAt 28 = .ok (.bipush 42, 2) := by decide +kernel
theorem dX7_firstAt_30 : decode cX7_firstAt 30 = .ok (.ireturn, 1) := by decide +kernel
theorem dX7_lastAt_0 : decode cX7_lastAt 0 = .ok (.iload_n 1, 1) := by decide +kernel
theorem dX7_lastAt_1 : decode cX7_lastAt 1 = .ok (.ifCond .lt 27, 3) := by decide +kernel
theorem dX7_lastAt_4 : decode cX7_lastAt 4 = .ok (.iload_n 1, 1) := by decide +kernel
theorem dX7_lastAt_5 : decode cX7_lastAt 5 = .ok (.aload_n 0, 1) := by decide +kernel
theorem dX7_lastAt_6 : decode cX7_lastAt 6 = .ok (.getfield 34, 3) := by decide +kernel
theorem dX7_lastAt_9 : decode cX7_lastAt 9 = .ok (.if_icmp .ge 19, 3) := by decide +kernel
theorem dX7_lastAt_12 : decode cX7_lastAt 12 = .ok (.iload_n 1, 1) := by decide +kernel
theorem dX7_lastAt_13 : decode cX7_lastAt 13 = .ok (.sipush 588, 3) := by decide +kernel
theorem dX7_lastAt_16 : decode cX7_lastAt 16 = .ok (.if_icmp .ge 12, 3) := by decide +kernel
theorem dX7_lastAt_19 : decode cX7_lastAt 19 = .ok (.aload_n 0, 1) := by decide +kernel
theorem dX7_lastAt_20 : decode cX7_lastAt 20 = .ok (.getfield 25, 3) := by decide +kernel
theorem dX7_lastAt_23 : decode cX7_lastAt 23 = .ok (.iload_n 1, 1) := by decide +kernel
theorem dX7_lastAt_24 : decode cX7_lastAt 24 = .ok (.iaload, 1) := by decide +kernel
theorem dX7_lastAt_25 : decode cX7_lastAt 25 = .ok (.goto 5, 3) := by decide +kernel
theorem dX7_lastAt_28 : decode cX7_lastAt 28 = .ok (.bipush 42, 2) := by decide +kernel
theorem dX7_lastAt_30 : decode cX7_lastAt 30 = .ok (.ireturn, 1) := by decide +kernel
theorem dX7_cellsAt_0 : decode cX7_cellsAt 0 = .ok (.iload_n 1, 1) := by decide +kernel
theorem dX7_cellsAt_1 : decode cX7_cellsAt 1 = .ok (.ifCond .lt 27, 3) := by decide +kernel
theorem dX7_cellsAt_4 : decode cX7_cellsAt 4 = .ok (.iload_n 1, 1) := by decide +kernel
theorem dX7_cellsAt_5 : decode cX7_cellsAt 5 = .ok (.aload_n 0, 1) := by decide +kernel
theorem dX7_cellsAt_6 : decode cX7_cellsAt 6 = .ok (.getfield 34, 3) := by decide +kernel
theorem dX7_cellsAt_9 : decode cX7_cellsAt 9 = .ok (.if_icmp .ge 19, 3) := by decide +kernel
theorem dX7_cellsAt_12 : decode cX7_cellsAt 12 = .ok (.iload_n 1, 1) := by decide +kernel
theorem dX7_cellsAt_13 : decode cX7_cellsAt 13 = .ok (.sipush 588, 3) := by decide +kernel
theorem dX7_cellsAt_16 : decode cX7_cellsAt 16 = .ok (.if_icmp .ge 12, 3) := by decide +kernel
theorem dX7_cellsAt_19 : decode cX7_cellsAt 19 = .ok (.aload_n 0, 1) := by decide +kernel
theorem dX7_cellsAt_20 : decode cX7_cellsAt 20 = .ok (.getfield 28, 3) := by decide +kernel
theorem dX7_cellsAt_23 : decode cX7_cellsAt 23 = .ok (.iload_n 1, 1) := by decide +kernel
theorem dX7_cellsAt_24 : decode cX7_cellsAt 24 = .ok (.laload, 1) := by decide +kernel
theorem dX7_cellsAt_25 : decode cX7_cellsAt 25 = .ok (.goto 4, 3) := by decide +kernel
theorem dX7_cellsAt_28 : decode cX7_cellsAt 28 = .ok (.lconst 0, 1) := by decide +kernel
theorem dX7_cellsAt_29 : decode cX7_cellsAt 29 = .ok (.lreturn, 1) := by decide +kernel
theorem dX7_ownerAt_0 : decode cX7_ownerAt 0 = .ok (.iload_n 1, 1) := by decide +kernel
theorem dX7_ownerAt_1 : decode cX7_ownerAt 1 = .ok (.ifCond .lt 27, 3) := by decide +kernel
theorem dX7_ownerAt_4 : decode cX7_ownerAt 4 = .ok (.iload_n 1, 1) := by decide +kernel
theorem dX7_ownerAt_5 : decode cX7_ownerAt 5 = .ok (.aload_n 0, 1) := by decide +kernel
theorem dX7_ownerAt_6 : decode cX7_ownerAt 6 = .ok (.getfield 34, 3) := by decide +kernel
theorem dX7_ownerAt_9 : decode cX7_ownerAt 9 = .ok (.if_icmp .ge 19, 3) := by decide +kernel
theorem dX7_ownerAt_12 : decode cX7_ownerAt 12 = .ok (.iload_n 1, 1) := by decide +kernel
theorem dX7_ownerAt_13 : decode cX7_ownerAt 13 = .ok (.sipush 588, 3) := by decide +kernel
theorem dX7_ownerAt_16 : decode cX7_ownerAt 16 = .ok (.if_icmp .ge 12, 3) := by decide +kernel
theorem dX7_ownerAt_19 : decode cX7_ownerAt 19 = .ok (.aload_n 0, 1) := by decide +kernel
theorem dX7_ownerAt_20 : decode cX7_ownerAt 20 = .ok (.getfield 31, 3) := by decide +kernel
theorem dX7_ownerAt_23 : decode cX7_ownerAt 23 = .ok (.iload_n 1, 1) := by decide +kernel
theorem dX7_ownerAt_24 : decode cX7_ownerAt 24 = .ok (.iaload, 1) := by decide +kernel
theorem dX7_ownerAt_25 : decode cX7_ownerAt 25 = .ok (.goto 5, 3) := by decide +kernel
theorem dX7_ownerAt_28 : decode cX7_ownerAt 28 = .ok (.bipush 42, 2) := by decide +kernel
theorem dX7_ownerAt_30 : decode cX7_ownerAt 30 = .ok (.ireturn, 1) := by decide +kernel
set_option maxRecDepth 20000 in
theorem ggX7_cellsInReach_X7_cellsAt : GoodIn wsX7_cellsInReach wsX7_cellsAt := goodIn_r _ [6, 1, 7, 8, 9, 10, 11, 12, 13, 14, 15] (by decide +kernel) (by decide +kernel)
set_option maxRecDepth 20000 in
theorem gX7_cellsInReach_X7_cellsAt : GoodIn wsX7_cellsInReach (wsV RX7 68 RX7 yX7_cellsAt wsX7_cellsAt) := goodIn_app (goodIn_of _ (by decide +kernel)) ggX7_cellsInReach_X7_cellsAt
theorem dX7_cellsInReach_0 : decode cX7_cellsInReach 0 = .ok (.lconst 0, 1) := by decide +kernel
theorem dX7_cellsInReach_1 : decode cX7_cellsInReach 1 = .ok (.lstore_n 3, 1) := by decide +kernel
theorem dX7_cellsInReach_2 : decode cX7_cellsInReach 2 = .ok (.iconst 0, 1) := by decide +kernel
theorem dX7_cellsInReach_3 : decode cX7_cellsInReach 3 = .ok (.istore 5, 2) := by decide +kernel
theorem dX7_cellsInReach_5 : decode cX7_cellsInReach 5 = .ok (.iload 5, 2) := by decide +kernel
theorem dX7_cellsInReach_7 : decode cX7_cellsInReach 7 = .ok (.aload_n 0, 1) := by decide +kernel
theorem dX7_cellsInReach_8 : decode cX7_cellsInReach 8 = .ok (.getfield 34, 3) := by decide +kernel
theorem dX7_cellsInReach_11 : decode cX7_cellsInReach 11 = .ok (.if_icmp .ge 35, 3) := by decide +kernel
theorem dX7_cellsInReach_14 : decode cX7_cellsInReach 14 = .ok (.aload_n 0, 1) := by decide +kernel
theorem dX7_cellsInReach_15 : decode cX7_cellsInReach 15 = .ok (.iload 5, 2) := by decide +kernel
theorem dX7_cellsInReach_17 : decode cX7_cellsInReach 17 = .ok (.invokevirtual 68, 3) := by decide +kernel
theorem dX7_cellsInReach_20 : decode cX7_cellsInReach 20 = .ok (.lstore 6, 2) := by decide +kernel
theorem dX7_cellsInReach_22 : decode cX7_cellsInReach 22 = .ok (.lload_n 3, 1) := by decide +kernel
theorem dX7_cellsInReach_23 : decode cX7_cellsInReach 23 = .ok (.lload 6, 2) := by decide +kernel
theorem dX7_cellsInReach_25 : decode cX7_cellsInReach 25 = .ok (.lload_n 1, 1) := by decide +kernel
theorem dX7_cellsInReach_26 : decode cX7_cellsInReach 26 = .ok (.land, 1) := by decide +kernel
theorem dX7_cellsInReach_27 : decode cX7_cellsInReach 27 = .ok (.lconst 0, 1) := by decide +kernel
theorem dX7_cellsInReach_28 : decode cX7_cellsInReach 28 = .ok (.lcmp, 1) := by decide +kernel
theorem dX7_cellsInReach_29 : decode cX7_cellsInReach 29 = .ok (.ifCond .ne 8, 3) := by decide +kernel
theorem dX7_cellsInReach_32 : decode cX7_cellsInReach 32 = .ok (.lload 6, 2) := by decide +kernel
theorem dX7_cellsInReach_34 : decode cX7_cellsInReach 34 = .ok (.goto 4, 3) := by decide +kernel
theorem dX7_cellsInReach_37 : decode cX7_cellsInReach 37 = .ok (.lconst 0, 1) := by decide +kernel
theorem dX7_cellsInReach_38 : decode cX7_cellsInReach 38 = .ok (.lor, 1) := by decide +kernel
theorem dX7_cellsInReach_39 : decode cX7_cellsInReach 39 = .ok (.lstore_n 3, 1) := by decide +kernel
theorem dX7_cellsInReach_40 : decode cX7_cellsInReach 40 = .ok (.iinc 5 1, 3) := by decide +kernel
theorem dX7_cellsInReach_43 : decode cX7_cellsInReach 43 = .ok (.goto (-38), 3) := by decide +kernel
theorem dX7_cellsInReach_46 : decode cX7_cellsInReach 46 = .ok (.lload_n 3, 1) := by decide +kernel
theorem dX7_cellsInReach_47 : decode cX7_cellsInReach 47 = .ok (.lreturn, 1) := by decide +kernel
set_option maxRecDepth 20000 in
theorem ggX7_bothEnds_X7_firstAt : GoodIn wsX7_bothEnds wsX7_firstAt := goodIn_r _ [5, 6, 7, 13, 14, 15, 16, 17, 18, 19, 20] (by decide +kernel) (by decide +kernel)
set_option maxRecDepth 20000 in
theorem gX7_bothEnds_X7_firstAt : GoodIn wsX7_bothEnds (wsV RX7 72 RX7 yX7_firstAt wsX7_firstAt) := goodIn_app (goodIn_of _ (by decide +kernel)) ggX7_bothEnds_X7_firstAt
set_option maxRecDepth 20000 in
theorem ggX7_bothEnds_X7_lastAt : GoodIn wsX7_bothEnds wsX7_lastAt := goodIn_r _ [11, 6, 12, 13, 14, 15, 16, 17, 18, 19, 20] (by decide +kernel) (by decide +kernel)
set_option maxRecDepth 20000 in
theorem gX7_bothEnds_X7_lastAt : GoodIn wsX7_bothEnds (wsV RX7 75 RX7 yX7_lastAt wsX7_lastAt) := goodIn_app (goodIn_of _ (by decide +kernel)) ggX7_bothEnds_X7_lastAt
theorem dX7_bothEnds_0 : decode cX7_bothEnds 0 = .ok (.aload_n 0, 1) := by decide +kernel
theorem dX7_bothEnds_1 : decode cX7_bothEnds 1 = .ok (.iload_n 1, 1) := by decide +kernel
theorem dX7_bothEnds_2 : decode cX7_bothEnds 2 = .ok (.invokevirtual 72, 3) := by decide +kernel
theorem dX7_bothEnds_5 : decode cX7_bothEnds 5 = .ok (.bipush 42, 2) := by decide +kernel
theorem dX7_bothEnds_7 : decode cX7_bothEnds 7 = .ok (.imul, 1) := by decide +kernel
theorem dX7_bothEnds_8 : decode cX7_bothEnds 8 = .ok (.aload_n 0, 1) := by decide +kernel
theorem dX7_bothEnds_9 : decode cX7_bothEnds 9 = .ok (.iload_n 1, 1) := by decide +kernel
theorem dX7_bothEnds_10 : decode cX7_bothEnds 10 = .ok (.invokevirtual 75, 3) := by decide +kernel
theorem dX7_bothEnds_13 : decode cX7_bothEnds 13 = .ok (.iadd, 1) := by decide +kernel
theorem dX7_bothEnds_14 : decode cX7_bothEnds 14 = .ok (.ireturn, 1) := by decide +kernel
set_option maxRecDepth 20000 in
theorem ggX7_countOf_X7_ownerAt : GoodIn wsX7_countOf wsX7_ownerAt := goodIn_r _ [6, 1, 7, 8, 9, 10, 11, 12, 13, 14, 15] (by decide +kernel) (by decide +kernel)
set_option maxRecDepth 20000 in
theorem gX7_countOf_X7_ownerAt : GoodIn wsX7_countOf (wsV RX7 78 RX7 yX7_ownerAt wsX7_ownerAt) := goodIn_app (goodIn_of _ (by decide +kernel)) ggX7_countOf_X7_ownerAt
theorem dX7_countOf_0 : decode cX7_countOf 0 = .ok (.iconst 0, 1) := by decide +kernel
theorem dX7_countOf_1 : decode cX7_countOf 1 = .ok (.istore_n 2, 1) := by decide +kernel
theorem dX7_countOf_2 : decode cX7_countOf 2 = .ok (.iconst 0, 1) := by decide +kernel
theorem dX7_countOf_3 : decode cX7_countOf 3 = .ok (.istore_n 3, 1) := by decide +kernel
theorem dX7_countOf_4 : decode cX7_countOf 4 = .ok (.iload_n 3, 1) := by decide +kernel
theorem dX7_countOf_5 : decode cX7_countOf 5 = .ok (.aload_n 0, 1) := by decide +kernel
theorem dX7_countOf_6 : decode cX7_countOf 6 = .ok (.getfield 34, 3) := by decide +kernel
theorem dX7_countOf_9 : decode cX7_countOf 9 = .ok (.if_icmp .ge 26, 3) := by decide +kernel
theorem dX7_countOf_12 : decode cX7_countOf 12 = .ok (.iload_n 2, 1) := by decide +kernel
theorem dX7_countOf_13 : decode cX7_countOf 13 = .ok (.aload_n 0, 1) := by decide +kernel
theorem dX7_countOf_14 : decode cX7_countOf 14 = .ok (.iload_n 3, 1) := by decide +kernel
theorem dX7_countOf_15 : decode cX7_countOf 15 = .ok (.invokevirtual 78, 3) := by decide +kernel
theorem dX7_countOf_18 : decode cX7_countOf 18 = .ok (.iload_n 1, 1) := by decide +kernel
theorem dX7_countOf_19 : decode cX7_countOf 19 = .ok (.if_icmp .ne 7, 3) := by decide +kernel
theorem dX7_countOf_22 : decode cX7_countOf 22 = .ok (.iconst 1, 1) := by decide +kernel
theorem dX7_countOf_23 : decode cX7_countOf 23 = .ok (.goto 4, 3) := by decide +kernel
theorem dX7_countOf_26 : decode cX7_countOf 26 = .ok (.iconst 0, 1) := by decide +kernel
theorem dX7_countOf_27 : decode cX7_countOf 27 = .ok (.iadd, 1) := by decide +kernel
theorem dX7_countOf_28 : decode cX7_countOf 28 = .ok (.istore_n 2, 1) := by decide +kernel
theorem dX7_countOf_29 : decode cX7_countOf 29 = .ok (.iinc 3 1, 3) := by decide +kernel
theorem dX7_countOf_32 : decode cX7_countOf 32 = .ok (.goto (-28), 3) := by decide +kernel
theorem dX7_countOf_35 : decode cX7_countOf 35 = .ok (.iload_n 2, 1) := by decide +kernel
theorem dX7_countOf_36 : decode cX7_countOf 36 = .ok (.ireturn, 1) := by decide +kernel
set_option maxRecDepth 20000 in
theorem ggX7_indexOf_X7_ownerAt : GoodIn wsX7_indexOf wsX7_ownerAt := goodIn_r _ [6, 1, 7, 8, 9, 10, 11, 12, 13, 14, 15] (by decide +kernel) (by decide +kernel)
set_option maxRecDepth 20000 in
theorem gX7_indexOf_X7_ownerAt : GoodIn wsX7_indexOf (wsV RX7 78 RX7 yX7_ownerAt wsX7_ownerAt) := goodIn_app (goodIn_of _ (by decide +kernel)) ggX7_indexOf_X7_ownerAt
theorem dX7_indexOf_0 : decode cX7_indexOf 0 = .ok (.iconst 0, 1) := by decide +kernel
theorem dX7_indexOf_1 : decode cX7_indexOf 1 = .ok (.istore_n 3, 1) := by decide +kernel
theorem dX7_indexOf_2 : decode cX7_indexOf 2 = .ok (.iconst 0, 1) := by decide +kernel
theorem dX7_indexOf_3 : decode cX7_indexOf 3 = .ok (.istore 4, 2) := by decide +kernel
theorem dX7_indexOf_5 : decode cX7_indexOf 5 = .ok (.iload 4, 2) := by decide +kernel
theorem dX7_indexOf_7 : decode cX7_indexOf 7 = .ok (.aload_n 0, 1) := by decide +kernel
theorem dX7_indexOf_8 : decode cX7_indexOf 8 = .ok (.getfield 34, 3) := by decide +kernel
theorem dX7_indexOf_11 : decode cX7_indexOf 11 = .ok (.if_icmp .ge 30, 3) := by decide +kernel
theorem dX7_indexOf_14 : decode cX7_indexOf 14 = .ok (.aload_n 0, 1) := by decide +kernel
theorem dX7_indexOf_15 : decode cX7_indexOf 15 = .ok (.iload 4, 2) := by decide +kernel
theorem dX7_indexOf_17 : decode cX7_indexOf 17 = .ok (.invokevirtual 78, 3) := by decide +kernel
theorem dX7_indexOf_20 : decode cX7_indexOf 20 = .ok (.iload_n 1, 1) := by decide +kernel
theorem dX7_indexOf_21 : decode cX7_indexOf 21 = .ok (.if_icmp .ne 14, 3) := by decide +kernel
theorem dX7_indexOf_24 : decode cX7_indexOf 24 = .ok (.iload_n 3, 1) := by decide +kernel
theorem dX7_indexOf_25 : decode cX7_indexOf 25 = .ok (.iload_n 2, 1) := by decide +kernel
theorem dX7_indexOf_26 : decode cX7_indexOf 26 = .ok (.if_icmp .ne 6, 3) := by decide +kernel
theorem dX7_indexOf_29 : decode cX7_indexOf 29 = .ok (.iload 4, 2) := by decide +kernel
theorem dX7_indexOf_31 : decode cX7_indexOf 31 = .ok (.ireturn, 1) := by decide +kernel
theorem dX7_indexOf_32 : decode cX7_indexOf 32 = .ok (.iinc 3 1, 3) := by decide +kernel
theorem dX7_indexOf_35 : decode cX7_indexOf 35 = .ok (.iinc 4 1, 3) := by decide +kernel
theorem dX7_indexOf_38 : decode cX7_indexOf 38 = .ok (.goto (-33), 3) := by decide +kernel
theorem dX7_indexOf_41 : decode cX7_indexOf 41 = .ok (.iconst (-1), 1) := by decide +kernel
theorem dX7_indexOf_42 : decode cX7_indexOf 42 = .ok (.ireturn, 1) := by decide +kernel
set_option maxRecDepth 20000 in
theorem ggX7_countOver_X7_cellsAt : GoodIn wsX7_countOver wsX7_cellsAt := goodIn_r _ [6, 1, 7, 14, 15, 16, 17, 18, 19, 20, 21] (by decide +kernel) (by decide +kernel)
set_option maxRecDepth 20000 in
theorem gX7_countOver_X7_cellsAt : GoodIn wsX7_countOver (wsV RX7 68 RX7 yX7_cellsAt wsX7_cellsAt) := goodIn_app (goodIn_of _ (by decide +kernel)) ggX7_countOver_X7_cellsAt
set_option maxRecDepth 20000 in
theorem ggX7_countOver_X9_has : GoodIn wsX7_countOver wsX9_has := goodIn_r _ [10, 11, 12, 9, 13] (by decide +kernel) (by decide +kernel)
set_option maxRecDepth 20000 in
theorem gX7_countOver_X9_has_n81 : GoodIn wsX7_countOver (wsX9_has) := ggX7_countOver_X9_has
theorem dX7_countOver_0 : decode cX7_countOver 0 = .ok (.iconst 0, 1) := by decide +kernel
theorem dX7_countOver_1 : decode cX7_countOver 1 = .ok (.istore_n 2, 1) := by decide +kernel
theorem dX7_countOver_2 : decode cX7_countOver 2 = .ok (.iconst 0, 1) := by decide +kernel
theorem dX7_countOver_3 : decode cX7_countOver 3 = .ok (.istore_n 3, 1) := by decide +kernel
theorem dX7_countOver_4 : decode cX7_countOver 4 = .ok (.iload_n 3, 1) := by decide +kernel
theorem dX7_countOver_5 : decode cX7_countOver 5 = .ok (.aload_n 0, 1) := by decide +kernel
theorem dX7_countOver_6 : decode cX7_countOver 6 = .ok (.getfield 34, 3) := by decide +kernel
theorem dX7_countOver_9 : decode cX7_countOver 9 = .ok (.if_icmp .ge 29, 3) := by decide +kernel
theorem dX7_countOver_12 : decode cX7_countOver 12 = .ok (.iload_n 2, 1) := by decide +kernel
theorem dX7_countOver_13 : decode cX7_countOver 13 = .ok (.aload_n 0, 1) := by decide +kernel
theorem dX7_countOver_14 : decode cX7_countOver 14 = .ok (.iload_n 3, 1) := by decide +kernel
theorem dX7_countOver_15 : decode cX7_countOver 15 = .ok (.invokevirtual 68, 3) := by decide +kernel
theorem dX7_countOver_18 : decode cX7_countOver 18 = .ok (.iload_n 1, 1) := by decide +kernel
theorem dX7_countOver_19 : decode cX7_countOver 19 = .ok (.invokestatic 81, 3) := by decide +kernel
theorem dX7_countOver_22 : decode cX7_countOver 22 = .ok (.ifCond .eq 7, 3) := by decide +kernel
theorem dX7_countOver_25 : decode cX7_countOver 25 = .ok (.iconst 1, 1) := by decide +kernel
theorem dX7_countOver_26 : decode cX7_countOver 26 = .ok (.goto 4, 3) := by decide +kernel
theorem dX7_countOver_29 : decode cX7_countOver 29 = .ok (.iconst 0, 1) := by decide +kernel
theorem dX7_countOver_30 : decode cX7_countOver 30 = .ok (.iadd, 1) := by decide +kernel
theorem dX7_countOver_31 : decode cX7_countOver 31 = .ok (.istore_n 2, 1) := by decide +kernel
theorem dX7_countOver_32 : decode cX7_countOver 32 = .ok (.iinc 3 1, 3) := by decide +kernel
theorem dX7_countOver_35 : decode cX7_countOver 35 = .ok (.goto (-31), 3) := by decide +kernel
theorem dX7_countOver_38 : decode cX7_countOver 38 = .ok (.iload_n 2, 1) := by decide +kernel
theorem dX7_countOver_39 : decode cX7_countOver 39 = .ok (.ireturn, 1) := by decide +kernel
set_option maxRecDepth 20000 in
theorem ggX7_countOwnersOver_X7_cellsAt : GoodIn wsX7_countOwnersOver wsX7_cellsAt := goodIn_r _ [6, 1, 7, 26, 27, 28, 29, 30, 31, 32, 33] (by decide +kernel) (by decide +kernel)
set_option maxRecDepth 20000 in
theorem gX7_countOwnersOver_X7_cellsAt : GoodIn wsX7_countOwnersOver (wsV RX7 68 RX7 yX7_cellsAt wsX7_cellsAt) := goodIn_app (goodIn_of _ (by decide +kernel)) ggX7_countOwnersOver_X7_cellsAt
set_option maxRecDepth 20000 in
theorem ggX7_countOwnersOver_X9_has : GoodIn wsX7_countOwnersOver wsX9_has := goodIn_r _ [10, 11, 12, 9, 13] (by decide +kernel) (by decide +kernel)
set_option maxRecDepth 20000 in
theorem gX7_countOwnersOver_X9_has_n81 : GoodIn wsX7_countOwnersOver (wsX9_has) := ggX7_countOwnersOver_X9_has
set_option maxRecDepth 20000 in
theorem ggX7_countOwnersOver_X7_ownerAt : GoodIn wsX7_countOwnersOver wsX7_ownerAt := goodIn_r _ [17, 1, 18, 26, 27, 28, 29, 30, 31, 32, 33] (by decide +kernel) (by decide +kernel)
set_option maxRecDepth 20000 in
theorem gX7_countOwnersOver_X7_ownerAt : GoodIn wsX7_countOwnersOver (wsV RX7 78 RX7 yX7_ownerAt wsX7_ownerAt) := goodIn_app (goodIn_of _ (by decide +kernel)) ggX7_countOwnersOver_X7_ownerAt
set_option maxRecDepth 20000 in
theorem ggX7_countOwnersOver_X9_bit : GoodIn wsX7_countOwnersOver wsX9_bit := goodIn_r _ [13] (by decide +kernel) (by decide +kernel)
set_option maxRecDepth 20000 in
theorem gX7_countOwnersOver_X9_bit_n85 : GoodIn wsX7_countOwnersOver (wsX9_bit) := ggX7_countOwnersOver_X9_bit
set_option maxRecDepth 20000 in
theorem ggX7_countOwnersOver_J13_bitCount_95d88 : GoodIn wsX7_countOwnersOver wsJ13_bitCount_95d88 := goodIn_r _ [22, 23, 24, 25] (by decide +kernel) (by decide +kernel)
set_option maxRecDepth 20000 in
theorem gX7_countOwnersOver_J13_bitCount_95d88 : GoodIn wsX7_countOwnersOver (va_wsS RX7 51 yJ13_bitCount_95d88 wsJ13_bitCount_95d88) := goodIn_app (goodIn_of _ (by decide +kernel)) ggX7_countOwnersOver_J13_bitCount_95d88
theorem dX7_countOwnersOver_0 : decode cX7_countOwnersOver 0 = .ok (.lconst 0, 1) := by decide +kernel
theorem dX7_countOwnersOver_1 : decode cX7_countOwnersOver 1 = .ok (.lstore_n 2, 1) := by decide +kernel
theorem dX7_countOwnersOver_2 : decode cX7_countOwnersOver 2 = .ok (.iconst 0, 1) := by decide +kernel
theorem dX7_countOwnersOver_3 : decode cX7_countOwnersOver 3 = .ok (.istore 4, 2) := by decide +kernel
theorem dX7_countOwnersOver_5 : decode cX7_countOwnersOver 5 = .ok (.iload 4, 2) := by decide +kernel
theorem dX7_countOwnersOver_7 : decode cX7_countOwnersOver 7 = .ok (.aload_n 0, 1) := by decide +kernel
theorem dX7_countOwnersOver_8 : decode cX7_countOwnersOver 8 = .ok (.getfield 34, 3) := by decide +kernel
theorem dX7_countOwnersOver_11 : decode cX7_countOwnersOver 11 = .ok (.if_icmp .ge 38, 3) := by decide +kernel
theorem dX7_countOwnersOver_14 : decode cX7_countOwnersOver 14 = .ok (.lload_n 2, 1) := by decide +kernel
theorem dX7_countOwnersOver_15 : decode cX7_countOwnersOver 15 = .ok (.aload_n 0, 1) := by decide +kernel
theorem dX7_countOwnersOver_16 : decode cX7_countOwnersOver 16 = .ok (.iload 4, 2) := by decide +kernel
theorem dX7_countOwnersOver_18 : decode cX7_countOwnersOver 18 = .ok (.invokevirtual 68, 3) := by decide +kernel
theorem dX7_countOwnersOver_21 : decode cX7_countOwnersOver 21 = .ok (.iload_n 1, 1) := by decide +kernel
theorem dX7_countOwnersOver_22 : decode cX7_countOwnersOver 22 = .ok (.invokestatic 81, 3) := by decide +kernel
theorem dX7_countOwnersOver_25 : decode cX7_countOwnersOver 25 = .ok (.ifCond .eq 15, 3) := by decide +kernel
theorem dX7_countOwnersOver_28 : decode cX7_countOwnersOver 28 = .ok (.aload_n 0, 1) := by decide +kernel
theorem dX7_countOwnersOver_29 : decode cX7_countOwnersOver 29 = .ok (.iload 4, 2) := by decide +kernel
theorem dX7_countOwnersOver_31 : decode cX7_countOwnersOver 31 = .ok (.invokevirtual 78, 3) := by decide +kernel
theorem dX7_countOwnersOver_34 : decode cX7_countOwnersOver 34 = .ok (.invokestatic 85, 3) := by decide +kernel
theorem dX7_countOwnersOver_37 : decode cX7_countOwnersOver 37 = .ok (.goto 4, 3) := by decide +kernel
theorem dX7_countOwnersOver_40 : decode cX7_countOwnersOver 40 = .ok (.lconst 0, 1) := by decide +kernel
theorem dX7_countOwnersOver_41 : decode cX7_countOwnersOver 41 = .ok (.lor, 1) := by decide +kernel
theorem dX7_countOwnersOver_42 : decode cX7_countOwnersOver 42 = .ok (.lstore_n 2, 1) := by decide +kernel
theorem dX7_countOwnersOver_43 : decode cX7_countOwnersOver 43 = .ok (.iinc 4 1, 3) := by decide +kernel
theorem dX7_countOwnersOver_46 : decode cX7_countOwnersOver 46 = .ok (.goto (-41), 3) := by decide +kernel
theorem dX7_countOwnersOver_49 : decode cX7_countOwnersOver 49 = .ok (.lload_n 2, 1) := by decide +kernel
theorem dX7_countOwnersOver_50 : decode cX7_countOwnersOver 50 = .ok (.invokestatic 51, 3) := by decide +kernel
theorem dX7_countOwnersOver_53 : decode cX7_countOwnersOver 53 = .ok (.ireturn, 1) := by decide +kernel
theorem dX8_init_0 : decode cX8_init 0 = .ok (.aload_n 0, 1) := by decide +kernel
theorem dX8_init_1 : decode cX8_init 1 = .ok (.invokespecial 3, 3) := by decide +kernel
theorem dX8_init_4 : decode cX8_init 4 = .ok (.aload_n 0, 1) := by decide +kernel
theorem dX8_init_5 : decode cX8_init 5 = .ok (.aload_n 1, 1) := by decide +kernel
theorem dX8_init_6 : decode cX8_init 6 = .ok (.putfield 9, 3) := by decide +kernel
theorem dX8_init_9 : decode cX8_init 9 = .ok (.aload_n 0, 1) := by decide +kernel
theorem dX8_init_10 : decode cX8_init 10 = .ok (.sipush 588, 3) := by decide +kernel
theorem dX8_init_13 : decode cX8_init 13 = .ok (.newarray .boolean, 2) := by decide +kernel
theorem dX8_init_15 : decode cX8_init 15 = .ok (.putfield 15, 3) := by decide +kernel
theorem dX8_init_18 : decode cX8_init 18 = .ok (.aload_n 0, 1) := by decide +kernel
theorem dX8_init_19 : decode cX8_init 19 = .ok (.bipush 42, 2) := by decide +kernel
theorem dX8_init_21 : decode cX8_init 21 = .ok (.newarray .long, 2) := by decide +kernel
theorem dX8_init_23 : decode cX8_init 23 = .ok (.putfield 19, 3) := by decide +kernel
theorem dX8_init_26 : decode cX8_init 26 = .ok (.aload_n 0, 1) := by decide +kernel
theorem dX8_init_27 : decode cX8_init 27 = .ok (.bipush 42, 2) := by decide +kernel
theorem dX8_init_29 : decode cX8_init 29 = .ok (.newarray .long, 2) := by decide +kernel
theorem dX8_init_31 : decode cX8_init 31 = .ok (.putfield 23, 3) := by decide +kernel
theorem dX8_init_34 : decode cX8_init 34 = .ok (.aload_n 0, 1) := by decide +kernel
theorem dX8_init_35 : decode cX8_init 35 = .ok (.lconst 0, 1) := by decide +kernel
theorem dX8_init_36 : decode cX8_init 36 = .ok (.putfield 26, 3) := by decide +kernel
theorem dX8_init_39 : decode cX8_init 39 = .ok (.aload_n 0, 1) := by decide +kernel
theorem dX8_init_40 : decode cX8_init 40 = .ok (.lconst 0, 1) := by decide +kernel
theorem dX8_init_41 : decode cX8_init 41 = .ok (.putfield 30, 3) := by decide +kernel
theorem dX8_init_44 : decode cX8_init 44 = .ok (.aload_n 0, 1) := by decide +kernel
theorem dX8_init_45 : decode cX8_init 45 = .ok (.iconst 0, 1) := by decide +kernel
theorem dX8_init_46 : decode cX8_init 46 = .ok (.putfield 33, 3) := by decide +kernel
theorem dX8_init_49 : decode cX8_init 49 = .ok (.return_, 1) := by decide +kernel
set_option maxRecDepth 20000 in
theorem ggX8_run_X7_find : GoodIn wsX8_run wsX7_find := goodIn_r _ [12, 13, 14, 15, 16, 17, 18, 19, 20, 21, 22, 23, 24, 25, 26, 27, 28, 29, 30, 31, 32, 33, 34, 35, 36, 37, 38, 39, 40, 41, 42, 43, 44, 45, 46, 47, 11, 48, 49, 50, 51, 52, 53, 54, 99, 100, 101, 102, 103, 104, 105, 106, 107, 108, 109, 110] (by decide +kernel) (by decide +kernel)
set_option maxRecDepth 20000 in
theorem gX8_run_X7_find : GoodIn wsX8_run (wsV RX8 37 RX7 yX7_find wsX7_find) := goodIn_app (goodIn_of _ (by decide +kernel)) ggX8_run_X7_find
set_option maxRecDepth 20000 in
theorem ggX8_run_X0_cellsInFields : GoodIn wsX8_run wsX0_cellsInFields := goodIn_r _ [19, 20, 21, 22, 23, 107, 108, 109, 110] (by decide +kernel) (by decide +kernel)
set_option maxRecDepth 20000 in
theorem gX8_run_X0_cellsInFields : GoodIn wsX8_run (wsV RX8 45 RX0 yX0_cellsInFields wsX0_cellsInFields) := goodIn_app (goodIn_of _ (by decide +kernel)) ggX8_run_X0_cellsInFields
set_option maxRecDepth 20000 in
theorem ggX8_run_X0_openNumbers : GoodIn wsX8_run wsX0_openNumbers := goodIn_r _ [59, 60, 61, 25, 26, 18, 27, 28, 21, 22, 23, 62, 16, 17, 19, 20, 107, 108, 109, 110] (by decide +kernel) (by decide +kernel)
set_option maxRecDepth 20000 in
theorem gX8_run_X0_openNumbers : GoodIn wsX8_run (wsV RX8 53 RX0 yX0_openNumbers wsX0_openNumbers) := goodIn_app (goodIn_of _ (by decide +kernel)) ggX8_run_X0_openNumbers
set_option maxRecDepth 20000 in
theorem ggX8_run_X7_size : GoodIn wsX8_run wsX7_size := goodIn_r _ [66, 13, 99, 100, 101, 102, 103, 104, 105, 106] (by decide +kernel) (by decide +kernel)
set_option maxRecDepth 20000 in
theorem gX8_run_X7_size : GoodIn wsX8_run (wsV RX8 56 RX7 yX7_size wsX7_size) := goodIn_app (goodIn_of _ (by decide +kernel)) ggX8_run_X7_size
set_option maxRecDepth 20000 in
theorem ggX8_run_X8_ruleOut : GoodIn wsX8_run wsX8_ruleOut := goodIn_r _ [71, 72, 73, 1, 6, 3, 74, 75, 76, 70, 77, 2, 78, 79, 80, 11, 81, 13, 54, 43, 22, 44, 82, 83, 84, 85, 53, 86, 87, 88, 89, 90, 91, 92, 93, 94, 95, 96, 97, 98, 99, 100, 101, 102, 103, 104, 105, 106] (by decide +kernel) (by decide +kernel)
set_option maxRecDepth 20000 in
theorem gX8_run_X8_ruleOut : GoodIn wsX8_run (wsV RX8 60 RX8 yX8_ruleOut wsX8_ruleOut) := goodIn_app (goodIn_of _ (by decide +kernel)) ggX8_run_X8_ruleOut
theorem dX8_run_0 : decode cX8_run 0 = .ok (.aload_n 0, 1) := by decide +kernel
theorem dX8_run_1 : decode cX8_run 1 = .ok (.getfield 9, 3) := by decide +kernel
theorem dX8_run_4 : decode cX8_run 4 = .ok (.aload_n 1, 1) := by decide +kernel
theorem dX8_run_5 : decode cX8_run 5 = .ok (.invokevirtual 37, 3) := by decide +kernel
theorem dX8_run_8 : decode cX8_run 8 = .ok (.aload_n 0, 1) := by decide +kernel
theorem dX8_run_9 : decode cX8_run 9 = .ok (.ldc2_w 43, 3) := by decide +kernel
theorem dX8_run_12 : decode cX8_run 12 = .ok (.aload_n 1, 1) := by decide +kernel
theorem dX8_run_13 : decode cX8_run 13 = .ok (.invokevirtual 45, 3) := by decide +kernel
theorem dX8_run_16 : decode cX8_run 16 = .ok (.ldc2_w 51, 3) := by decide +kernel
theorem dX8_run_19 : decode cX8_run 19 = .ok (.lxor, 1) := by decide +kernel
theorem dX8_run_20 : decode cX8_run 20 = .ok (.land, 1) := by decide +kernel
theorem dX8_run_21 : decode cX8_run 21 = .ok (.putfield 30, 3) := by decide +kernel
theorem dX8_run_24 : decode cX8_run 24 = .ok (.aload_n 0, 1) := by decide +kernel
theorem dX8_run_25 : decode cX8_run 25 = .ok (.aload_n 1, 1) := by decide +kernel
theorem dX8_run_26 : decode cX8_run 26 = .ok (.invokevirtual 53, 3) := by decide +kernel
theorem dX8_run_29 : decode cX8_run 29 = .ok (.putfield 26, 3) := by decide +kernel
theorem dX8_run_32 : decode cX8_run 32 = .ok (.iconst 0, 1) := by decide +kernel
theorem dX8_run_33 : decode cX8_run 33 = .ok (.istore_n 2, 1) := by decide +kernel
theorem dX8_run_34 : decode cX8_run 34 = .ok (.iload_n 2, 1) := by decide +kernel
theorem dX8_run_35 : decode cX8_run 35 = .ok (.sipush 588, 3) := by decide +kernel
theorem dX8_run_38 : decode cX8_run 38 = .ok (.if_icmp .ge 31, 3) := by decide +kernel
theorem dX8_run_41 : decode cX8_run 41 = .ok (.aload_n 0, 1) := by decide +kernel
theorem dX8_run_42 : decode cX8_run 42 = .ok (.getfield 15, 3) := by decide +kernel
theorem dX8_run_45 : decode cX8_run 45 = .ok (.iload_n 2, 1) := by decide +kernel
theorem dX8_run_46 : decode cX8_run 46 = .ok (.iload_n 2, 1) := by decide +kernel
theorem dX8_run_47 : decode cX8_run 47 = .ok (.aload_n 0, 1) := by decide +kernel
theorem dX8_run_48 : decode cX8_run 48 = .ok (.getfield 9, 3) := by decide +kernel
theorem dX8_run_51 : decode cX8_run 51 = .ok (.invokevirtual 56, 3) := by decide +kernel
theorem dX8_run_54 : decode cX8_run 54 = .ok (.if_icmp .ge 7, 3) := by decide +kernel
theorem dX8_run_57 : decode cX8_run 57 = .ok (.iconst 1, 1) := by decide +kernel
theorem dX8_run_58 : decode cX8_run 58 = .ok (.goto 4, 3) := by decide +kernel
theorem dX8_run_61 : decode cX8_run 61 = .ok (.iconst 0, 1) := by decide +kernel
theorem dX8_run_62 : decode cX8_run 62 = .ok (.bastore, 1) := by decide +kernel
theorem dX8_run_63 : decode cX8_run 63 = .ok (.iinc 2 1, 3) := by decide +kernel
theorem dX8_run_66 : decode cX8_run 66 = .ok (.goto (-32), 3) := by decide +kernel
theorem dX8_run_69 : decode cX8_run 69 = .ok (.aload_n 0, 1) := by decide +kernel
theorem dX8_run_70 : decode cX8_run 70 = .ok (.iconst 0, 1) := by decide +kernel
theorem dX8_run_71 : decode cX8_run 71 = .ok (.putfield 33, 3) := by decide +kernel
theorem dX8_run_74 : decode cX8_run 74 = .ok (.aload_n 0, 1) := by decide +kernel
theorem dX8_run_75 : decode cX8_run 75 = .ok (.getfield 33, 3) := by decide +kernel
theorem dX8_run_78 : decode cX8_run 78 = .ok (.sipush 588, 3) := by decide +kernel
theorem dX8_run_81 : decode cX8_run 81 = .ok (.if_icmp .gt 23, 3) := by decide +kernel
theorem dX8_run_84 : decode cX8_run 84 = .ok (.aload_n 0, 1) := by decide +kernel
theorem dX8_run_85 : decode cX8_run 85 = .ok (.invokevirtual 60, 3) := by decide +kernel
theorem dX8_run_88 : decode cX8_run 88 = .ok (.ifCond .eq 16, 3) := by decide +kernel
theorem dX8_run_91 : decode cX8_run 91 = .ok (.aload_n 0, 1) := by decide +kernel
theorem dX8_run_92 : decode cX8_run 92 = .ok (.dup, 1) := by decide +kernel
theorem dX8_run_93 : decode cX8_run 93 = .ok (.getfield 33, 3) := by decide +kernel
theorem dX8_run_96 : decode cX8_run 96 = .ok (.iconst 1, 1) := by decide +kernel
theorem dX8_run_97 : decode cX8_run 97 = .ok (.iadd, 1) := by decide +kernel
theorem dX8_run_98 : decode cX8_run 98 = .ok (.putfield 33, 3) := by decide +kernel
theorem dX8_run_101 : decode cX8_run 101 = .ok (.goto (-27), 3) := by decide +kernel
theorem dX8_run_104 : decode cX8_run 104 = .ok (.return_, 1) := by decide +kernel
set_option maxRecDepth 20000 in
theorem ggX8_ruleOut_X8_look : GoodIn wsX8_ruleOut wsX8_look := goodIn_r _ [10, 1, 2, 11, 3, 4, 12, 13, 14, 15, 16, 17, 18, 19, 20, 21, 22, 23, 24, 25, 26, 33, 34, 35, 36, 37, 38, 39, 40, 41, 42, 43, 44, 45, 46, 47] (by decide +kernel) (by decide +kernel)
set_option maxRecDepth 20000 in
theorem gX8_ruleOut_X8_look : GoodIn wsX8_ruleOut (wsV RX8 64 RX8 yX8_look wsX8_look) := goodIn_app (goodIn_of _ (by decide +kernel)) ggX8_ruleOut_X8_look
set_option maxRecDepth 20000 in
theorem ggX8_ruleOut_X8_inJustOne : GoodIn wsX8_ruleOut wsX8_inJustOne := goodIn_r _ [29, 5] (by decide +kernel) (by decide +kernel)
set_option maxRecDepth 20000 in
theorem gX8_ruleOut_X8_inJustOne : GoodIn wsX8_ruleOut (va_wsS RX8 67 yX8_inJustOne wsX8_inJustOne) := goodIn_app (goodIn_of _ (by decide +kernel)) ggX8_ruleOut_X8_inJustOne
set_option maxRecDepth 20000 in
theorem ggX8_ruleOut_X8_inAny : GoodIn wsX8_ruleOut wsX8_inAny := goodIn_r _ [32] (by decide +kernel) (by decide +kernel)
set_option maxRecDepth 20000 in
theorem gX8_ruleOut_X8_inAny : GoodIn wsX8_ruleOut (va_wsS RX8 71 yX8_inAny wsX8_inAny) := goodIn_app (goodIn_of _ (by decide +kernel)) ggX8_ruleOut_X8_inAny
set_option maxRecDepth 20000 in
theorem ggX8_ruleOut_X7_ownerAt : GoodIn wsX8_ruleOut wsX7_ownerAt := goodIn_r _ [16, 17, 18, 40, 41, 42, 43, 44, 45, 46, 47] (by decide +kernel) (by decide +kernel)
set_option maxRecDepth 20000 in
theorem gX8_ruleOut_X7_ownerAt : GoodIn wsX8_ruleOut (wsV RX8 74 RX7 yX7_ownerAt wsX7_ownerAt) := goodIn_app (goodIn_of _ (by decide +kernel)) ggX8_ruleOut_X7_ownerAt
set_option maxRecDepth 20000 in
theorem ggX8_ruleOut_X9_isCell : GoodIn wsX8_ruleOut wsX9_isCell := goodIn_r _ [21] (by decide +kernel) (by decide +kernel)
set_option maxRecDepth 20000 in
theorem gX8_ruleOut_X9_isCell_n78 : GoodIn wsX8_ruleOut (wsX9_isCell) := ggX8_ruleOut_X9_isCell
set_option maxRecDepth 20000 in
theorem ggX8_ruleOut_X7_cellsAt : GoodIn wsX8_ruleOut wsX7_cellsAt := goodIn_r _ [25, 17, 26, 40, 41, 42, 43, 44, 45, 46, 47] (by decide +kernel) (by decide +kernel)
set_option maxRecDepth 20000 in
theorem gX8_ruleOut_X7_cellsAt : GoodIn wsX8_ruleOut (wsV RX8 82 RX7 yX7_cellsAt wsX7_cellsAt) := goodIn_app (goodIn_of _ (by decide +kernel)) ggX8_ruleOut_X7_cellsAt
theorem dX8_ruleOut_0 : decode cX8_ruleOut 0 = .ok (.aload_n 0, 1) := by decide +kernel
theorem dX8_ruleOut_1 : decode cX8_ruleOut 1 = .ok (.invokevirtual 64, 3) := by decide +kernel
theorem dX8_ruleOut_4 : decode cX8_ruleOut 4 = .ok (.aload_n 0, 1) := by decide +kernel
theorem dX8_ruleOut_5 : decode cX8_ruleOut 5 = .ok (.getfield 19, 3) := by decide +kernel
theorem dX8_ruleOut_8 : decode cX8_ruleOut 8 = .ok (.invokestatic 67, 3) := by decide +kernel
theorem dX8_ruleOut_11 : decode cX8_ruleOut 11 = .ok (.lstore_n 1, 1) := by decide +kernel
theorem dX8_ruleOut_12 : decode cX8_ruleOut 12 = .ok (.aload_n 0, 1) := by decide +kernel
theorem dX8_ruleOut_13 : decode cX8_ruleOut 13 = .ok (.getfield 23, 3) := by decide +kernel
theorem dX8_ruleOut_16 : decode cX8_ruleOut 16 = .ok (.invokestatic 67, 3) := by decide +kernel
theorem dX8_ruleOut_19 : decode cX8_ruleOut 19 = .ok (.lstore_n 3, 1) := by decide +kernel
theorem dX8_ruleOut_20 : decode cX8_ruleOut 20 = .ok (.aload_n 0, 1) := by decide +kernel
theorem dX8_ruleOut_21 : decode cX8_ruleOut 21 = .ok (.getfield 23, 3) := by decide +kernel
theorem dX8_ruleOut_24 : decode cX8_ruleOut 24 = .ok (.invokestatic 71, 3) := by decide +kernel
theorem dX8_ruleOut_27 : decode cX8_ruleOut 27 = .ok (.lstore 5, 2) := by decide +kernel
theorem dX8_ruleOut_29 : decode cX8_ruleOut 29 = .ok (.iconst 0, 1) := by decide +kernel
theorem dX8_ruleOut_30 : decode cX8_ruleOut 30 = .ok (.istore 7, 2) := by decide +kernel
theorem dX8_ruleOut_32 : decode cX8_ruleOut 32 = .ok (.iconst 0, 1) := by decide +kernel
theorem dX8_ruleOut_33 : decode cX8_ruleOut 33 = .ok (.istore 8, 2) := by decide +kernel
theorem dX8_ruleOut_35 : decode cX8_ruleOut 35 = .ok (.iload 8, 2) := by decide +kernel
theorem dX8_ruleOut_37 : decode cX8_ruleOut 37 = .ok (.sipush 588, 3) := by decide +kernel
theorem dX8_ruleOut_40 : decode cX8_ruleOut 40 = .ok (.if_icmp .ge 116, 3) := by decide +kernel
theorem dX8_ruleOut_43 : decode cX8_ruleOut 43 = .ok (.aload_n 0, 1) := by decide +kernel
theorem dX8_ruleOut_44 : decode cX8_ruleOut 44 = .ok (.getfield 9, 3) := by decide +kernel
theorem dX8_ruleOut_47 : decode cX8_ruleOut 47 = .ok (.iload 8, 2) := by decide +kernel
theorem dX8_ruleOut_49 : decode cX8_ruleOut 49 = .ok (.invokevirtual 74, 3) := by decide +kernel
theorem dX8_ruleOut_52 : decode cX8_ruleOut 52 = .ok (.istore 9, 2) := by decide +kernel
theorem dX8_ruleOut_54 : decode cX8_ruleOut 54 = .ok (.aload_n 0, 1) := by decide +kernel
theorem dX8_ruleOut_55 : decode cX8_ruleOut 55 = .ok (.getfield 15, 3) := by decide +kernel
theorem dX8_ruleOut_58 : decode cX8_ruleOut 58 = .ok (.iload 8, 2) := by decide +kernel
theorem dX8_ruleOut_60 : decode cX8_ruleOut 60 = .ok (.baload, 1) := by decide +kernel
theorem dX8_ruleOut_61 : decode cX8_ruleOut 61 = .ok (.ifCond .eq 89, 3) := by decide +kernel
theorem dX8_ruleOut_64 : decode cX8_ruleOut 64 = .ok (.iload 9, 2) := by decide +kernel
theorem dX8_ruleOut_66 : decode cX8_ruleOut 66 = .ok (.invokestatic 78, 3) := by decide +kernel
theorem dX8_ruleOut_69 : decode cX8_ruleOut 69 = .ok (.ifCond .eq 81, 3) := by decide +kernel
theorem dX8_ruleOut_72 : decode cX8_ruleOut 72 = .ok (.lload_n 1, 1) := by decide +kernel
theorem dX8_ruleOut_73 : decode cX8_ruleOut 73 = .ok (.aload_n 0, 1) := by decide +kernel
theorem dX8_ruleOut_74 : decode cX8_ruleOut 74 = .ok (.getfield 19, 3) := by decide +kernel
theorem dX8_ruleOut_77 : decode cX8_ruleOut 77 = .ok (.iload 9, 2) := by decide +kernel
theorem dX8_ruleOut_79 : decode cX8_ruleOut 79 = .ok (.laload, 1) := by decide +kernel
theorem dX8_ruleOut_80 : decode cX8_ruleOut 80 = .ok (.land, 1) := by decide +kernel
theorem dX8_ruleOut_81 : decode cX8_ruleOut 81 = .ok (.aload_n 0, 1) := by decide +kernel
theorem dX8_ruleOut_82 : decode cX8_ruleOut 82 = .ok (.getfield 9, 3) := by decide +kernel
theorem dX8_ruleOut_85 : decode cX8_ruleOut 85 = .ok (.iload 8, 2) := by decide +kernel
theorem dX8_ruleOut_87 : decode cX8_ruleOut 87 = .ok (.invokevirtual 82, 3) := by decide +kernel
theorem dX8_ruleOut_90 : decode cX8_ruleOut 90 = .ok (.ldc2_w 51, 3) := by decide +kernel
theorem dX8_ruleOut_93 : decode cX8_ruleOut 93 = .ok (.lxor, 1) := by decide +kernel
theorem dX8_ruleOut_94 : decode cX8_ruleOut 94 = .ok (.land, 1) := by decide +kernel
theorem dX8_ruleOut_95 : decode cX8_ruleOut 95 = .ok (.lstore 10, 2) := by decide +kernel
theorem dX8_ruleOut_97 : decode cX8_ruleOut 97 = .ok (.lload 5, 2) := by decide +kernel
theorem dX8_ruleOut_99 : decode cX8_ruleOut 99 = .ok (.lload_n 3, 1) := by decide +kernel
theorem dX8_ruleOut_100 : decode cX8_ruleOut 100 = .ok (.aload_n 0, 1) := by decide +kernel
theorem dX8_ruleOut_101 : decode cX8_ruleOut 101 = .ok (.getfield 23, 3) := by decide +kernel
theorem dX8_ruleOut_104 : decode cX8_ruleOut 104 = .ok (.iload 9, 2) := by decide +kernel
theorem dX8_ruleOut_106 : decode cX8_ruleOut 106 = .ok (.laload, 1) := by decide +kernel
theorem dX8_ruleOut_107 : decode cX8_ruleOut 107 = .ok (.land, 1) := by decide +kernel
theorem dX8_ruleOut_108 : decode cX8_ruleOut 108 = .ok (.ldc2_w 51, 3) := by decide +kernel
theorem dX8_ruleOut_111 : decode cX8_ruleOut 111 = .ok (.lxor, 1) := by decide +kernel
theorem dX8_ruleOut_112 : decode cX8_ruleOut 112 = .ok (.land, 1) := by decide +kernel
theorem dX8_ruleOut_113 : decode cX8_ruleOut 113 = .ok (.lstore 12, 2) := by decide +kernel
theorem dX8_ruleOut_115 : decode cX8_ruleOut 115 = .ok (.lload 10, 2) := by decide +kernel
theorem dX8_ruleOut_117 : decode cX8_ruleOut 117 = .ok (.lconst 0, 1) := by decide +kernel
theorem dX8_ruleOut_118 : decode cX8_ruleOut 118 = .ok (.lcmp, 1) := by decide +kernel
theorem dX8_ruleOut_119 : decode cX8_ruleOut 119 = .ok (.ifCond .ne 20, 3) := by decide +kernel
theorem dX8_ruleOut_122 : decode cX8_ruleOut 122 = .ok (.lload 12, 2) := by decide +kernel
theorem dX8_ruleOut_124 : decode cX8_ruleOut 124 = .ok (.aload_n 0, 1) := by decide +kernel
theorem dX8_ruleOut_125 : decode cX8_ruleOut 125 = .ok (.getfield 9, 3) := by decide +kernel
theorem dX8_ruleOut_128 : decode cX8_ruleOut 128 = .ok (.iload 8, 2) := by decide +kernel
theorem dX8_ruleOut_130 : decode cX8_ruleOut 130 = .ok (.invokevirtual 82, 3) := by decide +kernel
theorem dX8_ruleOut_133 : decode cX8_ruleOut 133 = .ok (.land, 1) := by decide +kernel
theorem dX8_ruleOut_134 : decode cX8_ruleOut 134 = .ok (.lconst 0, 1) := by decide +kernel
theorem dX8_ruleOut_135 : decode cX8_ruleOut 135 = .ok (.lcmp, 1) := by decide +kernel
theorem dX8_ruleOut_136 : decode cX8_ruleOut 136 = .ok (.ifCond .eq 14, 3) := by decide +kernel
theorem dX8_ruleOut_139 : decode cX8_ruleOut 139 = .ok (.aload_n 0, 1) := by decide +kernel
theorem dX8_ruleOut_140 : decode cX8_ruleOut 140 = .ok (.getfield 15, 3) := by decide +kernel
theorem dX8_ruleOut_143 : decode cX8_ruleOut 143 = .ok (.iload 8, 2) := by decide +kernel
theorem dX8_ruleOut_145 : decode cX8_ruleOut 145 = .ok (.iconst 0, 1) := by decide +kernel
theorem dX8_ruleOut_146 : decode cX8_ruleOut 146 = .ok (.bastore, 1) := by decide +kernel
theorem dX8_ruleOut_147 : decode cX8_ruleOut 147 = .ok (.iconst 1, 1) := by decide +kernel
theorem dX8_ruleOut_148 : decode cX8_ruleOut 148 = .ok (.istore 7, 2) := by decide +kernel
theorem dX8_ruleOut_150 : decode cX8_ruleOut 150 = .ok (.iinc 8 1, 3) := by decide +kernel
theorem dX8_ruleOut_153 : decode cX8_ruleOut 153 = .ok (.goto (-118), 3) := by decide +kernel
theorem dX8_ruleOut_156 : decode cX8_ruleOut 156 = .ok (.iload 7, 2) := by decide +kernel
theorem dX8_ruleOut_158 : decode cX8_ruleOut 158 = .ok (.ireturn, 1) := by decide +kernel
set_option maxRecDepth 20000 in
theorem ggX8_look_X7_ownerAt : GoodIn wsX8_look wsX7_ownerAt := goodIn_r _ [10, 11, 12, 28, 29, 30, 31, 32, 33, 34, 35] (by decide +kernel) (by decide +kernel)
set_option maxRecDepth 20000 in
theorem gX8_look_X7_ownerAt : GoodIn wsX8_look (wsV RX8 74 RX7 yX7_ownerAt wsX7_ownerAt) := goodIn_app (goodIn_of _ (by decide +kernel)) ggX8_look_X7_ownerAt
set_option maxRecDepth 20000 in
theorem ggX8_look_X9_isCell : GoodIn wsX8_look wsX9_isCell := goodIn_r _ [15] (by decide +kernel) (by decide +kernel)
set_option maxRecDepth 20000 in
theorem gX8_look_X9_isCell_n78 : GoodIn wsX8_look (wsX9_isCell) := ggX8_look_X9_isCell
set_option maxRecDepth 20000 in
theorem ggX8_look_X7_cellsAt : GoodIn wsX8_look wsX7_cellsAt := goodIn_r _ [19, 11, 20, 28, 29, 30, 31, 32, 33, 34, 35] (by decide +kernel) (by decide +kernel)
set_option maxRecDepth 20000 in
theorem gX8_look_X7_cellsAt : GoodIn wsX8_look (wsV RX8 82 RX7 yX7_cellsAt wsX7_cellsAt) := goodIn_app (goodIn_of _ (by decide +kernel)) ggX8_look_X7_cellsAt
theorem dX8_look_0 : decode cX8_look 0 = .ok (.iconst 0, 1) := by decide +kernel
theorem dX8_look_1 : decode cX8_look 1 = .ok (.istore_n 1, 1) := by decide +kernel
theorem dX8_look_2 : decode cX8_look 2 = .ok (.iload_n 1, 1) := by decide +kernel
theorem dX8_look_3 : decode cX8_look 3 = .ok (.bipush 42, 2) := by decide +kernel
theorem dX8_look_5 : decode cX8_look 5 = .ok (.if_icmp .ge 25, 3) := by decide +kernel
theorem dX8_look_8 : decode cX8_look 8 = .ok (.aload_n 0, 1) := by decide +kernel
theorem dX8_look_9 : decode cX8_look 9 = .ok (.getfield 19, 3) := by decide +kernel
theorem dX8_look_12 : decode cX8_look 12 = .ok (.iload_n 1, 1) := by decide +kernel
theorem dX8_look_13 : decode cX8_look 13 = .ok (.lconst 0, 1) := by decide +kernel
theorem dX8_look_14 : decode cX8_look 14 = .ok (.lastore, 1) := by decide +kernel
theorem dX8_look_15 : decode cX8_look 15 = .ok (.aload_n 0, 1) := by decide +kernel
theorem dX8_look_16 : decode cX8_look 16 = .ok (.getfield 23, 3) := by decide +kernel
theorem dX8_look_19 : decode cX8_look 19 = .ok (.iload_n 1, 1) := by decide +kernel
theorem dX8_look_20 : decode cX8_look 20 = .ok (.ldc2_w 43, 3) := by decide +kernel
theorem dX8_look_23 : decode cX8_look 23 = .ok (.lastore, 1) := by decide +kernel
theorem dX8_look_24 : decode cX8_look 24 = .ok (.iinc 1 1, 3) := by decide +kernel
theorem dX8_look_27 : decode cX8_look 27 = .ok (.goto (-25), 3) := by decide +kernel
theorem dX8_look_30 : decode cX8_look 30 = .ok (.iconst 0, 1) := by decide +kernel
theorem dX8_look_31 : decode cX8_look 31 = .ok (.istore_n 1, 1) := by decide +kernel
theorem dX8_look_32 : decode cX8_look 32 = .ok (.iload_n 1, 1) := by decide +kernel
theorem dX8_look_33 : decode cX8_look 33 = .ok (.sipush 588, 3) := by decide +kernel
theorem dX8_look_36 : decode cX8_look 36 = .ok (.if_icmp .ge 68, 3) := by decide +kernel
theorem dX8_look_39 : decode cX8_look 39 = .ok (.aload_n 0, 1) := by decide +kernel
theorem dX8_look_40 : decode cX8_look 40 = .ok (.getfield 9, 3) := by decide +kernel
theorem dX8_look_43 : decode cX8_look 43 = .ok (.iload_n 1, 1) := by decide +kernel
theorem dX8_look_44 : decode cX8_look 44 = .ok (.invokevirtual 74, 3) := by decide +kernel
theorem dX8_look_47 : decode cX8_look 47 = .ok (.istore_n 2, 1) := by decide +kernel
theorem dX8_look_48 : decode cX8_look 48 = .ok (.aload_n 0, 1) := by decide +kernel
theorem dX8_look_49 : decode cX8_look 49 = .ok (.getfield 15, 3) := by decide +kernel
theorem dX8_look_52 : decode cX8_look 52 = .ok (.iload_n 1, 1) := by decide +kernel
theorem dX8_look_53 : decode cX8_look 53 = .ok (.baload, 1) := by decide +kernel
theorem dX8_look_54 : decode cX8_look 54 = .ok (.ifCond .eq 44, 3) := by decide +kernel
theorem dX8_look_57 : decode cX8_look 57 = .ok (.iload_n 2, 1) := by decide +kernel
theorem dX8_look_58 : decode cX8_look 58 = .ok (.invokestatic 78, 3) := by decide +kernel
theorem dX8_look_61 : decode cX8_look 61 = .ok (.ifCond .eq 37, 3) := by decide +kernel
theorem dX8_look_64 : decode cX8_look 64 = .ok (.aload_n 0, 1) := by decide +kernel
theorem dX8_look_65 : decode cX8_look 65 = .ok (.getfield 19, 3) := by decide +kernel
theorem dX8_look_68 : decode cX8_look 68 = .ok (.iload_n 2, 1) := by decide +kernel
theorem dX8_look_69 : decode cX8_look 69 = .ok (.dup2, 1) := by decide +kernel
theorem dX8_look_70 : decode cX8_look 70 = .ok (.laload, 1) := by decide +kernel
theorem dX8_look_71 : decode cX8_look 71 = .ok (.aload_n 0, 1) := by decide +kernel
theorem dX8_look_72 : decode cX8_look 72 = .ok (.getfield 9, 3) := by decide +kernel
theorem dX8_look_75 : decode cX8_look 75 = .ok (.iload_n 1, 1) := by decide +kernel
theorem dX8_look_76 : decode cX8_look 76 = .ok (.invokevirtual 82, 3) := by decide +kernel
theorem dX8_look_79 : decode cX8_look 79 = .ok (.lor, 1) := by decide +kernel
theorem dX8_look_80 : decode cX8_look 80 = .ok (.lastore, 1) := by decide +kernel
theorem dX8_look_81 : decode cX8_look 81 = .ok (.aload_n 0, 1) := by decide +kernel
theorem dX8_look_82 : decode cX8_look 82 = .ok (.getfield 23, 3) := by decide +kernel
theorem dX8_look_85 : decode cX8_look 85 = .ok (.iload_n 2, 1) := by decide +kernel
theorem dX8_look_86 : decode cX8_look 86 = .ok (.dup2, 1) := by decide +kernel
theorem dX8_look_87 : decode cX8_look 87 = .ok (.laload, 1) := by decide +kernel
theorem dX8_look_88 : decode cX8_look 88 = .ok (.aload_n 0, 1) := by decide +kernel
theorem dX8_look_89 : decode cX8_look 89 = .ok (.getfield 9, 3) := by decide +kernel
theorem dX8_look_92 : decode cX8_look 92 = .ok (.iload_n 1, 1) := by decide +kernel
theorem dX8_look_93 : decode cX8_look 93 = .ok (.invokevirtual 82, 3) := by decide +kernel
theorem dX8_look_96 : decode cX8_look 96 = .ok (.land, 1) := by decide +kernel
theorem dX8_look_97 : decode cX8_look 97 = .ok (.lastore, 1) := by decide +kernel
theorem dX8_look_98 : decode cX8_look 98 = .ok (.iinc 1 1, 3) := by decide +kernel
theorem dX8_look_101 : decode cX8_look 101 = .ok (.goto (-69), 3) := by decide +kernel
theorem dX8_look_104 : decode cX8_look 104 = .ok (.iconst 0, 1) := by decide +kernel
theorem dX8_look_105 : decode cX8_look 105 = .ok (.istore_n 1, 1) := by decide +kernel
theorem dX8_look_106 : decode cX8_look 106 = .ok (.iload_n 1, 1) := by decide +kernel
theorem dX8_look_107 : decode cX8_look 107 = .ok (.bipush 42, 2) := by decide +kernel
theorem dX8_look_109 : decode cX8_look 109 = .ok (.if_icmp .ge 24, 3) := by decide +kernel
theorem dX8_look_112 : decode cX8_look 112 = .ok (.aload_n 0, 1) := by decide +kernel
theorem dX8_look_113 : decode cX8_look 113 = .ok (.getfield 23, 3) := by decide +kernel
theorem dX8_look_116 : decode cX8_look 116 = .ok (.iload_n 1, 1) := by decide +kernel
theorem dX8_look_117 : decode cX8_look 117 = .ok (.dup2, 1) := by decide +kernel
theorem dX8_look_118 : decode cX8_look 118 = .ok (.laload, 1) := by decide +kernel
theorem dX8_look_119 : decode cX8_look 119 = .ok (.aload_n 0, 1) := by decide +kernel
theorem dX8_look_120 : decode cX8_look 120 = .ok (.getfield 19, 3) := by decide +kernel
theorem dX8_look_123 : decode cX8_look 123 = .ok (.iload_n 1, 1) := by decide +kernel
theorem dX8_look_124 : decode cX8_look 124 = .ok (.laload, 1) := by decide +kernel
theorem dX8_look_125 : decode cX8_look 125 = .ok (.land, 1) := by decide +kernel
theorem dX8_look_126 : decode cX8_look 126 = .ok (.lastore, 1) := by decide +kernel
theorem dX8_look_127 : decode cX8_look 127 = .ok (.iinc 1 1, 3) := by decide +kernel
theorem dX8_look_130 : decode cX8_look 130 = .ok (.goto (-24), 3) := by decide +kernel
theorem dX8_look_133 : decode cX8_look 133 = .ok (.return_, 1) := by decide +kernel
theorem dX8_inAny_0 : decode cX8_inAny 0 = .ok (.lconst 0, 1) := by decide +kernel
theorem dX8_inAny_1 : decode cX8_inAny 1 = .ok (.lstore_n 1, 1) := by decide +kernel
theorem dX8_inAny_2 : decode cX8_inAny 2 = .ok (.iconst 0, 1) := by decide +kernel
theorem dX8_inAny_3 : decode cX8_inAny 3 = .ok (.istore_n 3, 1) := by decide +kernel
theorem dX8_inAny_4 : decode cX8_inAny 4 = .ok (.iload_n 3, 1) := by decide +kernel
theorem dX8_inAny_5 : decode cX8_inAny 5 = .ok (.aload_n 0, 1) := by decide +kernel
theorem dX8_inAny_6 : decode cX8_inAny 6 = .ok (.arraylength, 1) := by decide +kernel
theorem dX8_inAny_7 : decode cX8_inAny 7 = .ok (.if_icmp .ge 15, 3) := by decide +kernel
theorem dX8_inAny_10 : decode cX8_inAny 10 = .ok (.lload_n 1, 1) := by decide +kernel
theorem dX8_inAny_11 : decode cX8_inAny 11 = .ok (.aload_n 0, 1) := by decide +kernel
theorem dX8_inAny_12 : decode cX8_inAny 12 = .ok (.iload_n 3, 1) := by decide +kernel
theorem dX8_inAny_13 : decode cX8_inAny 13 = .ok (.laload, 1) := by decide +kernel
theorem dX8_inAny_14 : decode cX8_inAny 14 = .ok (.lor, 1) := by decide +kernel
theorem dX8_inAny_15 : decode cX8_inAny 15 = .ok (.lstore_n 1, 1) := by decide +kernel
theorem dX8_inAny_16 : decode cX8_inAny 16 = .ok (.iinc 3 1, 3) := by decide +kernel
theorem dX8_inAny_19 : decode cX8_inAny 19 = .ok (.goto (-15), 3) := by decide +kernel
theorem dX8_inAny_22 : decode cX8_inAny 22 = .ok (.lload_n 1, 1) := by decide +kernel
theorem dX8_inAny_23 : decode cX8_inAny 23 = .ok (.lreturn, 1) := by decide +kernel
theorem dX8_inJustOne_0 : decode cX8_inJustOne 0 = .ok (.lconst 0, 1) := by decide +kernel
theorem dX8_inJustOne_1 : decode cX8_inJustOne 1 = .ok (.lstore_n 1, 1) := by decide +kernel
theorem dX8_inJustOne_2 : decode cX8_inJustOne 2 = .ok (.lconst 0, 1) := by decide +kernel
theorem dX8_inJustOne_3 : decode cX8_inJustOne 3 = .ok (.lstore_n 3, 1) := by decide +kernel
theorem dX8_inJustOne_4 : decode cX8_inJustOne 4 = .ok (.iconst 0, 1) := by decide +kernel
theorem dX8_inJustOne_5 : decode cX8_inJustOne 5 = .ok (.istore 5, 2) := by decide +kernel
theorem dX8_inJustOne_7 : decode cX8_inJustOne 7 = .ok (.iload 5, 2) := by decide +kernel
theorem dX8_inJustOne_9 : decode cX8_inJustOne 9 = .ok (.aload_n 0, 1) := by decide +kernel
theorem dX8_inJustOne_10 : decode cX8_inJustOne 10 = .ok (.arraylength, 1) := by decide +kernel
theorem dX8_inJustOne_11 : decode cX8_inJustOne 11 = .ok (.if_icmp .ge 25, 3) := by decide +kernel
theorem dX8_inJustOne_14 : decode cX8_inJustOne 14 = .ok (.lload_n 3, 1) := by decide +kernel
theorem dX8_inJustOne_15 : decode cX8_inJustOne 15 = .ok (.lload_n 1, 1) := by decide +kernel
theorem dX8_inJustOne_16 : decode cX8_inJustOne 16 = .ok (.aload_n 0, 1) := by decide +kernel
theorem dX8_inJustOne_17 : decode cX8_inJustOne 17 = .ok (.iload 5, 2) := by decide +kernel
theorem dX8_inJustOne_19 : decode cX8_inJustOne 19 = .ok (.laload, 1) := by decide +kernel
theorem dX8_inJustOne_20 : decode cX8_inJustOne 20 = .ok (.land, 1) := by decide +kernel
theorem dX8_inJustOne_21 : decode cX8_inJustOne 21 = .ok (.lor, 1) := by decide +kernel
theorem dX8_inJustOne_22 : decode cX8_inJustOne 22 = .ok (.lstore_n 3, 1) := by decide +kernel
theorem dX8_inJustOne_23 : decode cX8_inJustOne 23 = .ok (.lload_n 1, 1) := by decide +kernel
theorem dX8_inJustOne_24 : decode cX8_inJustOne 24 = .ok (.aload_n 0, 1) := by decide +kernel
theorem dX8_inJustOne_25 : decode cX8_inJustOne 25 = .ok (.iload 5, 2) := by decide +kernel
theorem dX8_inJustOne_27 : decode cX8_inJustOne 27 = .ok (.laload, 1) := by decide +kernel
theorem dX8_inJustOne_28 : decode cX8_inJustOne 28 = .ok (.lor, 1) := by decide +kernel
theorem dX8_inJustOne_29 : decode cX8_inJustOne 29 = .ok (.lstore_n 1, 1) := by decide +kernel
theorem dX8_inJustOne_30 : decode cX8_inJustOne 30 = .ok (.iinc 5 1, 3) := by decide +kernel
theorem dX8_inJustOne_33 : decode cX8_inJustOne 33 = .ok (.goto (-26), 3) := by decide +kernel
theorem dX8_inJustOne_36 : decode cX8_inJustOne 36 = .ok (.lload_n 1, 1) := by decide +kernel
theorem dX8_inJustOne_37 : decode cX8_inJustOne 37 = .ok (.lload_n 3, 1) := by decide +kernel
theorem dX8_inJustOne_38 : decode cX8_inJustOne 38 = .ok (.ldc2_w 51, 3) := by decide +kernel
theorem dX8_inJustOne_41 : decode cX8_inJustOne 41 = .ok (.lxor, 1) := by decide +kernel
theorem dX8_inJustOne_42 : decode cX8_inJustOne 42 = .ok (.land, 1) := by decide +kernel
theorem dX8_inJustOne_43 : decode cX8_inJustOne 43 = .ok (.lreturn, 1) := by decide +kernel
theorem dX8_countRounds_0 : decode cX8_countRounds 0 = .ok (.aload_n 0, 1) := by decide +kernel
theorem dX8_countRounds_1 : decode cX8_countRounds 1 = .ok (.getfield 33, 3) := by decide +kernel
theorem dX8_countRounds_4 : decode cX8_countRounds 4 = .ok (.ireturn, 1) := by decide +kernel
theorem dX8_countLeft_0 : decode cX8_countLeft 0 = .ok (.iconst 0, 1) := by decide +kernel
theorem dX8_countLeft_1 : decode cX8_countLeft 1 = .ok (.istore_n 1, 1) := by decide +kernel
theorem dX8_countLeft_2 : decode cX8_countLeft 2 = .ok (.iconst 0, 1) := by decide +kernel
theorem dX8_countLeft_3 : decode cX8_countLeft 3 = .ok (.istore_n 2, 1) := by decide +kernel
theorem dX8_countLeft_4 : decode cX8_countLeft 4 = .ok (.iload_n 2, 1) := by decide +kernel
theorem dX8_countLeft_5 : decode cX8_countLeft 5 = .ok (.sipush 588, 3) := by decide +kernel
theorem dX8_countLeft_8 : decode cX8_countLeft 8 = .ok (.if_icmp .ge 26, 3) := by decide +kernel
theorem dX8_countLeft_11 : decode cX8_countLeft 11 = .ok (.iload_n 1, 1) := by decide +kernel
theorem dX8_countLeft_12 : decode cX8_countLeft 12 = .ok (.aload_n 0, 1) := by decide +kernel
theorem dX8_countLeft_13 : decode cX8_countLeft 13 = .ok (.getfield 15, 3) := by decide +kernel
theorem dX8_countLeft_16 : decode cX8_countLeft 16 = .ok (.iload_n 2, 1) := by decide +kernel
theorem dX8_countLeft_17 : decode cX8_countLeft 17 = .ok (.baload, 1) := by decide +kernel
theorem dX8_countLeft_18 : decode cX8_countLeft 18 = .ok (.ifCond .eq 7, 3) := by decide +kernel
theorem dX8_countLeft_21 : decode cX8_countLeft 21 = .ok (.iconst 1, 1) := by decide +kernel
theorem dX8_countLeft_22 : decode cX8_countLeft 22 = .ok (.goto 4, 3) := by decide +kernel
theorem dX8_countLeft_25 : decode cX8_countLeft 25 = .ok (.iconst 0, 1) := by decide +kernel
theorem dX8_countLeft_26 : decode cX8_countLeft 26 = .ok (.iadd, 1) := by decide +kernel
theorem dX8_countLeft_27 : decode cX8_countLeft 27 = .ok (.istore_n 1, 1) := by decide +kernel
theorem dX8_countLeft_28 : decode cX8_countLeft 28 = .ok (.iinc 2 1, 3) := by decide +kernel
theorem dX8_countLeft_31 : decode cX8_countLeft 31 = .ok (.goto (-27), 3) := by decide +kernel
theorem dX8_countLeft_34 : decode cX8_countLeft 34 = .ok (.iload_n 1, 1) := by decide +kernel
theorem dX8_countLeft_35 : decode cX8_countLeft 35 = .ok (.ireturn, 1) := by decide +kernel
set_option maxRecDepth 20000 in
theorem ggX8_countLeftOf_X7_ownerAt : GoodIn wsX8_countLeftOf wsX7_ownerAt := goodIn_r _ [7, 8, 9, 17, 18, 19, 20, 21, 22, 23, 24] (by decide +kernel) (by decide +kernel)
set_option maxRecDepth 20000 in
theorem gX8_countLeftOf_X7_ownerAt : GoodIn wsX8_countLeftOf (wsV RX8 74 RX7 yX7_ownerAt wsX7_ownerAt) := goodIn_app (goodIn_of _ (by decide +kernel)) ggX8_countLeftOf_X7_ownerAt
theorem dX8_countLeftOf_0 : decode cX8_countLeftOf 0 = .ok (.iconst 0, 1) := by decide +kernel
theorem dX8_countLeftOf_1 : decode cX8_countLeftOf 1 = .ok (.istore_n 2, 1) := by decide +kernel
theorem dX8_countLeftOf_2 : decode cX8_countLeftOf 2 = .ok (.iconst 0, 1) := by decide +kernel
theorem dX8_countLeftOf_3 : decode cX8_countLeftOf 3 = .ok (.istore_n 3, 1) := by decide +kernel
theorem dX8_countLeftOf_4 : decode cX8_countLeftOf 4 = .ok (.iload_n 3, 1) := by decide +kernel
theorem dX8_countLeftOf_5 : decode cX8_countLeftOf 5 = .ok (.sipush 588, 3) := by decide +kernel
theorem dX8_countLeftOf_8 : decode cX8_countLeftOf 8 = .ok (.if_icmp .ge 38, 3) := by decide +kernel
theorem dX8_countLeftOf_11 : decode cX8_countLeftOf 11 = .ok (.iload_n 2, 1) := by decide +kernel
theorem dX8_countLeftOf_12 : decode cX8_countLeftOf 12 = .ok (.aload_n 0, 1) := by decide +kernel
theorem dX8_countLeftOf_13 : decode cX8_countLeftOf 13 = .ok (.getfield 15, 3) := by decide +kernel
theorem dX8_countLeftOf_16 : decode cX8_countLeftOf 16 = .ok (.iload_n 3, 1) := by decide +kernel
theorem dX8_countLeftOf_17 : decode cX8_countLeftOf 17 = .ok (.baload, 1) := by decide +kernel
theorem dX8_countLeftOf_18 : decode cX8_countLeftOf 18 = .ok (.ifCond .eq 19, 3) := by decide +kernel
theorem dX8_countLeftOf_21 : decode cX8_countLeftOf 21 = .ok (.aload_n 0, 1) := by decide +kernel
theorem dX8_countLeftOf_22 : decode cX8_countLeftOf 22 = .ok (.getfield 9, 3) := by decide +kernel
theorem dX8_countLeftOf_25 : decode cX8_countLeftOf 25 = .ok (.iload_n 3, 1) := by decide +kernel
theorem dX8_countLeftOf_26 : decode cX8_countLeftOf 26 = .ok (.invokevirtual 74, 3) := by decide +kernel
theorem dX8_countLeftOf_29 : decode cX8_countLeftOf 29 = .ok (.iload_n 1, 1) := by decide +kernel
theorem dX8_countLeftOf_30 : decode cX8_countLeftOf 30 = .ok (.if_icmp .ne 7, 3) := by decide +kernel
theorem dX8_countLeftOf_33 : decode cX8_countLeftOf 33 = .ok (.iconst 1, 1) := by decide +kernel
theorem dX8_countLeftOf_34 : decode cX8_countLeftOf 34 = .ok (.goto 4, 3) := by decide +kernel
theorem dX8_countLeftOf_37 : decode cX8_countLeftOf 37 = .ok (.iconst 0, 1) := by decide +kernel
theorem dX8_countLeftOf_38 : decode cX8_countLeftOf 38 = .ok (.iadd, 1) := by decide +kernel
theorem dX8_countLeftOf_39 : decode cX8_countLeftOf 39 = .ok (.istore_n 2, 1) := by decide +kernel
theorem dX8_countLeftOf_40 : decode cX8_countLeftOf 40 = .ok (.iinc 3 1, 3) := by decide +kernel
theorem dX8_countLeftOf_43 : decode cX8_countLeftOf 43 = .ok (.goto (-39), 3) := by decide +kernel
theorem dX8_countLeftOf_46 : decode cX8_countLeftOf 46 = .ok (.iload_n 2, 1) := by decide +kernel
theorem dX8_countLeftOf_47 : decode cX8_countLeftOf 47 = .ok (.ireturn, 1) := by decide +kernel
set_option maxRecDepth 20000 in
theorem ggX8_endsInContradiction_X9_has : GoodIn wsX8_endsInContradiction wsX9_has := goodIn_r _ [6, 7, 8, 5, 9] (by decide +kernel) (by decide +kernel)
set_option maxRecDepth 20000 in
theorem gX8_endsInContradiction_X9_has_n86 : GoodIn wsX8_endsInContradiction (wsX9_has) := ggX8_endsInContradiction_X9_has
set_option maxRecDepth 20000 in
theorem ggX8_endsInContradiction_X8_inAny : GoodIn wsX8_endsInContradiction wsX8_inAny := goodIn_r _ [13] (by decide +kernel) (by decide +kernel)
set_option maxRecDepth 20000 in
theorem gX8_endsInContradiction_X8_inAny : GoodIn wsX8_endsInContradiction (va_wsS RX8 71 yX8_inAny wsX8_inAny) := goodIn_app (goodIn_of _ (by decide +kernel)) ggX8_endsInContradiction_X8_inAny
theorem dX8_endsInContradiction_0 : decode cX8_endsInContradiction 0 = .ok (.iconst 0, 1) := by decide +kernel
theorem dX8_endsInContradiction_1 : decode cX8_endsInContradiction 1 = .ok (.istore_n 1, 1) := by decide +kernel
theorem dX8_endsInContradiction_2 : decode cX8_endsInContradiction 2 = .ok (.iload_n 1, 1) := by decide +kernel
theorem dX8_endsInContradiction_3 : decode cX8_endsInContradiction 3 = .ok (.bipush 42, 2) := by decide +kernel
theorem dX8_endsInContradiction_5 : decode cX8_endsInContradiction 5 = .ok (.if_icmp .ge 33, 3) := by decide +kernel
theorem dX8_endsInContradiction_8 : decode cX8_endsInContradiction 8 = .ok (.aload_n 0, 1) := by decide +kernel
theorem dX8_endsInContradiction_9 : decode cX8_endsInContradiction 9 = .ok (.getfield 26, 3) := by decide +kernel
theorem dX8_endsInContradiction_12 : decode cX8_endsInContradiction 12 = .ok (.iload_n 1, 1) := by decide +kernel
theorem dX8_endsInContradiction_13 : decode cX8_endsInContradiction 13 = .ok (.invokestatic 86, 3) := by decide +kernel
theorem dX8_endsInContradiction_16 : decode cX8_endsInContradiction 16 = .ok (.ifCond .eq 16, 3) := by decide +kernel
theorem dX8_endsInContradiction_19 : decode cX8_endsInContradiction 19 = .ok (.aload_n 0, 1) := by decide +kernel
theorem dX8_endsInContradiction_20 : decode cX8_endsInContradiction 20 = .ok (.getfield 19, 3) := by decide +kernel
theorem dX8_endsInContradiction_23 : decode cX8_endsInContradiction 23 = .ok (.iload_n 1, 1) := by decide +kernel
theorem dX8_endsInContradiction_24 : decode cX8_endsInContradiction 24 = .ok (.laload, 1) := by decide +kernel
theorem dX8_endsInContradiction_25 : decode cX8_endsInContradiction 25 = .ok (.lconst 0, 1) := by decide +kernel
theorem dX8_endsInContradiction_26 : decode cX8_endsInContradiction 26 = .ok (.lcmp, 1) := by decide +kernel
theorem dX8_endsInContradiction_27 : decode cX8_endsInContradiction 27 = .ok (.ifCond .ne 5, 3) := by decide +kernel
theorem dX8_endsInContradiction_30 : decode cX8_endsInContradiction 30 = .ok (.iconst 1, 1) := by decide +kernel
theorem dX8_endsInContradiction_31 : decode cX8_endsInContradiction 31 = .ok (.ireturn, 1) := by decide +kernel
theorem dX8_endsInContradiction_32 : decode cX8_endsInContradiction 32 = .ok (.iinc 1 1, 3) := by decide +kernel
theorem dX8_endsInContradiction_35 : decode cX8_endsInContradiction 35 = .ok (.goto (-33), 3) := by decide +kernel
theorem dX8_endsInContradiction_38 : decode cX8_endsInContradiction 38 = .ok (.aload_n 0, 1) := by decide +kernel
theorem dX8_endsInContradiction_39 : decode cX8_endsInContradiction 39 = .ok (.getfield 19, 3) := by decide +kernel
theorem dX8_endsInContradiction_42 : decode cX8_endsInContradiction 42 = .ok (.invokestatic 71, 3) := by decide +kernel
theorem dX8_endsInContradiction_45 : decode cX8_endsInContradiction 45 = .ok (.aload_n 0, 1) := by decide +kernel
theorem dX8_endsInContradiction_46 : decode cX8_endsInContradiction 46 = .ok (.getfield 30, 3) := by decide +kernel
theorem dX8_endsInContradiction_49 : decode cX8_endsInContradiction 49 = .ok (.lcmp, 1) := by decide +kernel
theorem dX8_endsInContradiction_50 : decode cX8_endsInContradiction 50 = .ok (.ifCond .eq 7, 3) := by decide +kernel
theorem dX8_endsInContradiction_53 : decode cX8_endsInContradiction 53 = .ok (.iconst 1, 1) := by decide +kernel
theorem dX8_endsInContradiction_54 : decode cX8_endsInContradiction 54 = .ok (.goto 4, 3) := by decide +kernel
theorem dX8_endsInContradiction_57 : decode cX8_endsInContradiction 57 = .ok (.iconst 0, 1) := by decide +kernel
theorem dX8_endsInContradiction_58 : decode cX8_endsInContradiction 58 = .ok (.ireturn, 1) := by decide +kernel
set_option maxRecDepth 20000 in
theorem ggX8_countCertain_X8_countLeftOf : GoodIn wsX8_countCertain wsX8_countLeftOf := goodIn_r _ [5, 6, 7, 8, 9, 10, 11, 12, 13, 14, 15, 16, 17, 18, 19, 20, 21, 22, 23, 24, 25, 26, 27, 28, 29] (by decide +kernel) (by decide +kernel)
set_option maxRecDepth 20000 in
theorem gX8_countCertain_X8_countLeftOf : GoodIn wsX8_countCertain (wsV RX8 90 RX8 yX8_countLeftOf wsX8_countLeftOf) := goodIn_app (goodIn_of _ (by decide +kernel)) ggX8_countCertain_X8_countLeftOf
theorem dX8_countCertain_0 : decode cX8_countCertain 0 = .ok (.iconst 0, 1) := by decide +kernel
theorem dX8_countCertain_1 : decode cX8_countCertain 1 = .ok (.istore_n 1, 1) := by decide +kernel
theorem dX8_countCertain_2 : decode cX8_countCertain 2 = .ok (.iconst 0, 1) := by decide +kernel
theorem dX8_countCertain_3 : decode cX8_countCertain 3 = .ok (.istore_n 2, 1) := by decide +kernel
theorem dX8_countCertain_4 : decode cX8_countCertain 4 = .ok (.iload_n 2, 1) := by decide +kernel
theorem dX8_countCertain_5 : decode cX8_countCertain 5 = .ok (.bipush 42, 2) := by decide +kernel
theorem dX8_countCertain_7 : decode cX8_countCertain 7 = .ok (.if_icmp .ge 26, 3) := by decide +kernel
theorem dX8_countCertain_10 : decode cX8_countCertain 10 = .ok (.iload_n 1, 1) := by decide +kernel
theorem dX8_countCertain_11 : decode cX8_countCertain 11 = .ok (.aload_n 0, 1) := by decide +kernel
theorem dX8_countCertain_12 : decode cX8_countCertain 12 = .ok (.iload_n 2, 1) := by decide +kernel
theorem dX8_countCertain_13 : decode cX8_countCertain 13 = .ok (.invokevirtual 90, 3) := by decide +kernel
theorem dX8_countCertain_16 : decode cX8_countCertain 16 = .ok (.iconst 1, 1) := by decide +kernel
theorem dX8_countCertain_17 : decode cX8_countCertain 17 = .ok (.if_icmp .ne 7, 3) := by decide +kernel
theorem dX8_countCertain_20 : decode cX8_countCertain 20 = .ok (.iconst 1, 1) := by decide +kernel
theorem dX8_countCertain_21 : decode cX8_countCertain 21 = .ok (.goto 4, 3) := by decide +kernel
theorem dX8_countCertain_24 : decode cX8_countCertain 24 = .ok (.iconst 0, 1) := by decide +kernel
theorem dX8_countCertain_25 : decode cX8_countCertain 25 = .ok (.iadd, 1) := by decide +kernel
theorem dX8_countCertain_26 : decode cX8_countCertain 26 = .ok (.istore_n 1, 1) := by decide +kernel
theorem dX8_countCertain_27 : decode cX8_countCertain 27 = .ok (.iinc 2 1, 3) := by decide +kernel
theorem dX8_countCertain_30 : decode cX8_countCertain 30 = .ok (.goto (-26), 3) := by decide +kernel
theorem dX8_countCertain_33 : decode cX8_countCertain 33 = .ok (.iload_n 1, 1) := by decide +kernel
theorem dX8_countCertain_34 : decode cX8_countCertain 34 = .ok (.ireturn, 1) := by decide +kernel
set_option maxRecDepth 20000 in
theorem ggX8_firstCertain_X8_countLeftOf : GoodIn wsX8_firstCertain wsX8_countLeftOf := goodIn_r _ [5, 6, 7, 8, 9, 10, 11, 12, 13, 14, 15, 16, 17, 18, 19, 20, 21, 22, 23, 24, 25, 26, 27, 28, 29] (by decide +kernel) (by decide +kernel)
set_option maxRecDepth 20000 in
theorem gX8_firstCertain_X8_countLeftOf : GoodIn wsX8_firstCertain (wsV RX8 90 RX8 yX8_countLeftOf wsX8_countLeftOf) := goodIn_app (goodIn_of _ (by decide +kernel)) ggX8_firstCertain_X8_countLeftOf
theorem dX8_firstCertain_0 : decode cX8_firstCertain 0 = .ok (.iconst 0, 1) := by decide +kernel
theorem dX8_firstCertain_1 : decode cX8_firstCertain 1 = .ok (.istore_n 1, 1) := by decide +kernel
theorem dX8_firstCertain_2 : decode cX8_firstCertain 2 = .ok (.iload_n 1, 1) := by decide +kernel
theorem dX8_firstCertain_3 : decode cX8_firstCertain 3 = .ok (.bipush 42, 2) := by decide +kernel
theorem dX8_firstCertain_5 : decode cX8_firstCertain 5 = .ok (.if_icmp .ge 20, 3) := by decide +kernel
theorem dX8_firstCertain_8 : decode cX8_firstCertain 8 = .ok (.aload_n 0, 1) := by decide +kernel
theorem dX8_firstCertain_9 : decode cX8_firstCertain 9 = .ok (.iload_n 1, 1) := by decide +kernel
theorem dX8_firstCertain_10 : decode cX8_firstCertain 10 = .ok (.invokevirtual 90, 3) := by decide +kernel
theorem dX8_firstCertain_13 : decode cX8_firstCertain 13 = .ok (.iconst 1, 1) := by decide +kernel
theorem dX8_firstCertain_14 : decode cX8_firstCertain 14 = .ok (.if_icmp .ne 5, 3) := by decide +kernel
theorem dX8_firstCertain_17 : decode cX8_firstCertain 17 = .ok (.iload_n 1, 1) := by decide +kernel
theorem dX8_firstCertain_18 : decode cX8_firstCertain 18 = .ok (.ireturn, 1) := by decide +kernel
theorem dX8_firstCertain_19 : decode cX8_firstCertain 19 = .ok (.iinc 1 1, 3) := by decide +kernel
theorem dX8_firstCertain_22 : decode cX8_firstCertain 22 = .ok (.goto (-20), 3) := by decide +kernel
theorem dX8_firstCertain_25 : decode cX8_firstCertain 25 = .ok (.bipush 42, 2) := by decide +kernel
theorem dX8_firstCertain_27 : decode cX8_firstCertain 27 = .ok (.ireturn, 1) := by decide +kernel
set_option maxRecDepth 20000 in
theorem ggX8_placeCertain_X7_ownerAt : GoodIn wsX8_placeCertain wsX7_ownerAt := goodIn_r _ [7, 8, 9, 43, 44, 45, 46, 47, 48, 49, 50] (by decide +kernel) (by decide +kernel)
set_option maxRecDepth 20000 in
theorem gX8_placeCertain_X7_ownerAt : GoodIn wsX8_placeCertain (wsV RX8 74 RX7 yX7_ownerAt wsX7_ownerAt) := goodIn_app (goodIn_of _ (by decide +kernel)) ggX8_placeCertain_X7_ownerAt
set_option maxRecDepth 20000 in
theorem ggX8_placeCertain_X8_countLeftOf : GoodIn wsX8_placeCertain wsX8_countLeftOf := goodIn_r _ [14, 1, 2, 3, 4, 5, 6, 7, 8, 9, 36, 37, 38, 39, 40, 41, 42, 43, 44, 45, 46, 47, 48, 49, 50] (by decide +kernel) (by decide +kernel)
set_option maxRecDepth 20000 in
theorem gX8_placeCertain_X8_countLeftOf : GoodIn wsX8_placeCertain (wsV RX8 90 RX8 yX8_countLeftOf wsX8_countLeftOf) := goodIn_app (goodIn_of _ (by decide +kernel)) ggX8_placeCertain_X8_countLeftOf
set_option maxRecDepth 20000 in
theorem ggX8_placeCertain_X7_firstAt : GoodIn wsX8_placeCertain wsX7_firstAt := goodIn_r _ [18, 8, 19, 43, 44, 45, 46, 47, 48, 49, 50] (by decide +kernel) (by decide +kernel)
set_option maxRecDepth 20000 in
theorem gX8_placeCertain_X7_firstAt : GoodIn wsX8_placeCertain (wsV RX8 93 RX7 yX7_firstAt wsX7_firstAt) := goodIn_app (goodIn_of _ (by decide +kernel)) ggX8_placeCertain_X7_firstAt
set_option maxRecDepth 20000 in
theorem ggX8_placeCertain_X7_lastAt : GoodIn wsX8_placeCertain wsX7_lastAt := goodIn_r _ [23, 8, 24, 43, 44, 45, 46, 47, 48, 49, 50] (by decide +kernel) (by decide +kernel)
set_option maxRecDepth 20000 in
theorem gX8_placeCertain_X7_lastAt : GoodIn wsX8_placeCertain (wsV RX8 96 RX7 yX7_lastAt wsX7_lastAt) := goodIn_app (goodIn_of _ (by decide +kernel)) ggX8_placeCertain_X7_lastAt
set_option maxRecDepth 20000 in
theorem ggX8_placeCertain_X0_place : GoodIn wsX8_placeCertain wsX0_place := goodIn_r _ [29, 30, 31, 32, 33, 34, 35, 51, 52, 53, 54] (by decide +kernel) (by decide +kernel)
set_option maxRecDepth 20000 in
theorem gX8_placeCertain_X0_place : GoodIn wsX8_placeCertain (wsV RX8 99 RX0 yX0_place wsX0_place) := goodIn_app (goodIn_of _ (by decide +kernel)) ggX8_placeCertain_X0_place
theorem dX8_placeCertain_0 : decode cX8_placeCertain 0 = .ok (.iconst 0, 1) := by decide +kernel
theorem dX8_placeCertain_1 : decode cX8_placeCertain 1 = .ok (.istore_n 2, 1) := by decide +kernel
theorem dX8_placeCertain_2 : decode cX8_placeCertain 2 = .ok (.iconst 0, 1) := by decide +kernel
theorem dX8_placeCertain_3 : decode cX8_placeCertain 3 = .ok (.istore_n 3, 1) := by decide +kernel
theorem dX8_placeCertain_4 : decode cX8_placeCertain 4 = .ok (.iload_n 3, 1) := by decide +kernel
theorem dX8_placeCertain_5 : decode cX8_placeCertain 5 = .ok (.sipush 588, 3) := by decide +kernel
theorem dX8_placeCertain_8 : decode cX8_placeCertain 8 = .ok (.if_icmp .ge 57, 3) := by decide +kernel
theorem dX8_placeCertain_11 : decode cX8_placeCertain 11 = .ok (.aload_n 0, 1) := by decide +kernel
theorem dX8_placeCertain_12 : decode cX8_placeCertain 12 = .ok (.getfield 15, 3) := by decide +kernel
theorem dX8_placeCertain_15 : decode cX8_placeCertain 15 = .ok (.iload_n 3, 1) := by decide +kernel
theorem dX8_placeCertain_16 : decode cX8_placeCertain 16 = .ok (.baload, 1) := by decide +kernel
theorem dX8_placeCertain_17 : decode cX8_placeCertain 17 = .ok (.ifCond .eq 42, 3) := by decide +kernel
theorem dX8_placeCertain_20 : decode cX8_placeCertain 20 = .ok (.aload_n 0, 1) := by decide +kernel
theorem dX8_placeCertain_21 : decode cX8_placeCertain 21 = .ok (.aload_n 0, 1) := by decide +kernel
theorem dX8_placeCertain_22 : decode cX8_placeCertain 22 = .ok (.getfield 9, 3) := by decide +kernel
theorem dX8_placeCertain_25 : decode cX8_placeCertain 25 = .ok (.iload_n 3, 1) := by decide +kernel
theorem dX8_placeCertain_26 : decode cX8_placeCertain 26 = .ok (.invokevirtual 74, 3) := by decide +kernel
theorem dX8_placeCertain_29 : decode cX8_placeCertain 29 = .ok (.invokevirtual 90, 3) := by decide +kernel
theorem dX8_placeCertain_32 : decode cX8_placeCertain 32 = .ok (.iconst 1, 1) := by decide +kernel
theorem dX8_placeCertain_33 : decode cX8_placeCertain 33 = .ok (.if_icmp .ne 26, 3) := by decide +kernel
theorem dX8_placeCertain_36 : decode cX8_placeCertain 36 = .ok (.aload_n 1, 1) := by decide +kernel
theorem dX8_placeCertain_37 : decode cX8_placeCertain 37 = .ok (.aload_n 0, 1) := by decide +kernel
theorem dX8_placeCertain_38 : decode cX8_placeCertain 38 = .ok (.getfield 9, 3) := by decide +kernel
theorem dX8_placeCertain_41 : decode cX8_placeCertain 41 = .ok (.iload_n 3, 1) := by decide +kernel
theorem dX8_placeCertain_42 : decode cX8_placeCertain 42 = .ok (.invokevirtual 93, 3) := by decide +kernel
theorem dX8_placeCertain_45 : decode cX8_placeCertain 45 = .ok (.aload_n 0, 1) := by decide +kernel
theorem dX8_placeCertain_46 : decode cX8_placeCertain 46 = .ok (.getfield 9, 3) := by decide +kernel
theorem dX8_placeCertain_49 : decode cX8_placeCertain 49 = .ok (.iload_n 3, 1) := by decide +kernel
theorem dX8_placeCertain_50 : decode cX8_placeCertain 50 = .ok (.invokevirtual 96, 3) := by decide +kernel
theorem dX8_placeCertain_53 : decode cX8_placeCertain 53 = .ok (.invokevirtual 99, 3) := by decide +kernel
theorem dX8_placeCertain_56 : decode cX8_placeCertain 56 = .ok (.iinc 2 1, 3) := by decide +kernel
theorem dX8_placeCertain_59 : decode cX8_placeCertain 59 = .ok (.iinc 3 1, 3) := by decide +kernel
theorem dX8_placeCertain_62 : decode cX8_placeCertain 62 = .ok (.goto (-58), 3) := by decide +kernel
theorem dX8_placeCertain_65 : decode cX8_placeCertain 65 = .ok (.iload_n 2, 1) := by decide +kernel
theorem dX8_placeCertain_66 : decode cX8_placeCertain 66 = .ok (.ireturn, 1) := by decide +kernel
theorem dJ13_bitCount_95d88_0 : decode cJ13_bitCount_95d88 0 = .ok (.lload_n 0, 1) := by decide +kernel
theorem dJ13_bitCount_95d88_1 : decode cJ13_bitCount_95d88 1 = .ok (.lload_n 0, 1) := by decide +kernel
theorem dJ13_bitCount_95d88_2 : decode cJ13_bitCount_95d88 2 = .ok (.iconst 1, 1) := by decide +kernel
theorem dJ13_bitCount_95d88_3 : decode cJ13_bitCount_95d88 3 = .ok (.lushr, 1) := by decide +kernel
theorem dJ13_bitCount_95d88_4 : decode cJ13_bitCount_95d88 4 = .ok (.ldc2_w 314, 3) := by decide +kernel
theorem dJ13_bitCount_95d88_7 : decode cJ13_bitCount_95d88 7 = .ok (.land, 1) := by decide +kernel
theorem dJ13_bitCount_95d88_8 : decode cJ13_bitCount_95d88 8 = .ok (.lsub, 1) := by decide +kernel
theorem dJ13_bitCount_95d88_9 : decode cJ13_bitCount_95d88 9 = .ok (.lstore_n 0, 1) := by decide +kernel
theorem dJ13_bitCount_95d88_10 : decode cJ13_bitCount_95d88 10 = .ok (.lload_n 0, 1) := by decide +kernel
theorem dJ13_bitCount_95d88_11 : decode cJ13_bitCount_95d88 11 = .ok (.ldc2_w 316, 3) := by decide +kernel
theorem dJ13_bitCount_95d88_14 : decode cJ13_bitCount_95d88 14 = .ok (.land, 1) := by decide +kernel
theorem dJ13_bitCount_95d88_15 : decode cJ13_bitCount_95d88 15 = .ok (.lload_n 0, 1) := by decide +kernel
theorem dJ13_bitCount_95d88_16 : decode cJ13_bitCount_95d88 16 = .ok (.iconst 2, 1) := by decide +kernel
theorem dJ13_bitCount_95d88_17 : decode cJ13_bitCount_95d88 17 = .ok (.lushr, 1) := by decide +kernel
theorem dJ13_bitCount_95d88_18 : decode cJ13_bitCount_95d88 18 = .ok (.ldc2_w 316, 3) := by decide +kernel
theorem dJ13_bitCount_95d88_21 : decode cJ13_bitCount_95d88 21 = .ok (.land, 1) := by decide +kernel
theorem dJ13_bitCount_95d88_22 : decode cJ13_bitCount_95d88 22 = .ok (.ladd, 1) := by decide +kernel
theorem dJ13_bitCount_95d88_23 : decode cJ13_bitCount_95d88 23 = .ok (.lstore_n 0, 1) := by decide +kernel
theorem dJ13_bitCount_95d88_24 : decode cJ13_bitCount_95d88 24 = .ok (.lload_n 0, 1) := by decide +kernel
theorem dJ13_bitCount_95d88_25 : decode cJ13_bitCount_95d88 25 = .ok (.lload_n 0, 1) := by decide +kernel
theorem dJ13_bitCount_95d88_26 : decode cJ13_bitCount_95d88 26 = .ok (.iconst 4, 1) := by decide +kernel
theorem dJ13_bitCount_95d88_27 : decode cJ13_bitCount_95d88 27 = .ok (.lushr, 1) := by decide +kernel
theorem dJ13_bitCount_95d88_28 : decode cJ13_bitCount_95d88 28 = .ok (.ladd, 1) := by decide +kernel
theorem dJ13_bitCount_95d88_29 : decode cJ13_bitCount_95d88 29 = .ok (.ldc2_w 318, 3) := by decide +kernel
theorem dJ13_bitCount_95d88_32 : decode cJ13_bitCount_95d88 32 = .ok (.land, 1) := by decide +kernel
theorem dJ13_bitCount_95d88_33 : decode cJ13_bitCount_95d88 33 = .ok (.lstore_n 0, 1) := by decide +kernel
theorem dJ13_bitCount_95d88_34 : decode cJ13_bitCount_95d88 34 = .ok (.lload_n 0, 1) := by decide +kernel
theorem dJ13_bitCount_95d88_35 : decode cJ13_bitCount_95d88 35 = .ok (.lload_n 0, 1) := by decide +kernel
theorem dJ13_bitCount_95d88_36 : decode cJ13_bitCount_95d88 36 = .ok (.bipush 8, 2) := by decide +kernel
theorem dJ13_bitCount_95d88_38 : decode cJ13_bitCount_95d88 38 = .ok (.lushr, 1) := by decide +kernel
theorem dJ13_bitCount_95d88_39 : decode cJ13_bitCount_95d88 39 = .ok (.ladd, 1) := by decide +kernel
theorem dJ13_bitCount_95d88_40 : decode cJ13_bitCount_95d88 40 = .ok (.lstore_n 0, 1) := by decide +kernel
theorem dJ13_bitCount_95d88_41 : decode cJ13_bitCount_95d88 41 = .ok (.lload_n 0, 1) := by decide +kernel
theorem dJ13_bitCount_95d88_42 : decode cJ13_bitCount_95d88 42 = .ok (.lload_n 0, 1) := by decide +kernel
theorem dJ13_bitCount_95d88_43 : decode cJ13_bitCount_95d88 43 = .ok (.bipush 16, 2) := by decide +kernel
theorem dJ13_bitCount_95d88_45 : decode cJ13_bitCount_95d88 45 = .ok (.lushr, 1) := by decide +kernel
theorem dJ13_bitCount_95d88_46 : decode cJ13_bitCount_95d88 46 = .ok (.ladd, 1) := by decide +kernel
theorem dJ13_bitCount_95d88_47 : decode cJ13_bitCount_95d88 47 = .ok (.lstore_n 0, 1) := by decide +kernel
theorem dJ13_bitCount_95d88_48 : decode cJ13_bitCount_95d88 48 = .ok (.lload_n 0, 1) := by decide +kernel
theorem dJ13_bitCount_95d88_49 : decode cJ13_bitCount_95d88 49 = .ok (.lload_n 0, 1) := by decide +kernel
theorem dJ13_bitCount_95d88_50 : decode cJ13_bitCount_95d88 50 = .ok (.bipush 32, 2) := by decide +kernel
theorem dJ13_bitCount_95d88_52 : decode cJ13_bitCount_95d88 52 = .ok (.lushr, 1) := by decide +kernel
theorem dJ13_bitCount_95d88_53 : decode cJ13_bitCount_95d88 53 = .ok (.ladd, 1) := by decide +kernel
theorem dJ13_bitCount_95d88_54 : decode cJ13_bitCount_95d88 54 = .ok (.lstore_n 0, 1) := by decide +kernel
theorem dJ13_bitCount_95d88_55 : decode cJ13_bitCount_95d88 55 = .ok (.lload_n 0, 1) := by decide +kernel
theorem dJ13_bitCount_95d88_56 : decode cJ13_bitCount_95d88 56 = .ok (.l2i, 1) := by decide +kernel
theorem dJ13_bitCount_95d88_57 : decode cJ13_bitCount_95d88 57 = .ok (.bipush 127, 2) := by decide +kernel
theorem dJ13_bitCount_95d88_59 : decode cJ13_bitCount_95d88 59 = .ok (.iand, 1) := by decide +kernel
theorem dJ13_bitCount_95d88_60 : decode cJ13_bitCount_95d88 60 = .ok (.ireturn, 1) := by decide +kernel
