theorem dX10_settle_2 : decode cX10_settle 2 = .ok (.putfield 69, 3) := by decide +kernel
theorem dX10_settle_5 : decode cX10_settle 5 = .ok (.aload_n 0, 1) := by decide +kernel
theorem dX10_settle_6 : decode cX10_settle 6 = .ok (.invokevirtual 192, 3) := by decide +kernel
theorem dX10_settle_9 : decode cX10_settle 9 = .ok (.aload_n 0, 1) := by decide +kernel
theorem dX10_settle_10 : decode cX10_settle 10 = .ok (.invokevirtual 195, 3) := by decide +kernel
theorem dX10_settle_13 : decode cX10_settle 13 = .ok (.ifCond .eq 9, 3) := by decide +kernel
theorem dX10_settle_16 : decode cX10_settle 16 = .ok (.aload_n 0, 1) := by decide +kernel
theorem dX10_settle_17 : decode cX10_settle 17 = .ok (.iconst 1, 1) := by decide +kernel
theorem dX10_settle_18 : decode cX10_settle 18 = .ok (.invokevirtual 161, 3) := by decide +kernel
theorem dX10_settle_21 : decode cX10_settle 21 = .ok (.ireturn, 1) := by decide +kernel
theorem dX10_settle_22 : decode cX10_settle 22 = .ok (.aload_n 0, 1) := by decide +kernel
theorem dX10_settle_23 : decode cX10_settle 23 = .ok (.invokevirtual 145, 3) := by decide +kernel
theorem dX10_settle_26 : decode cX10_settle 26 = .ok (.aload_n 0, 1) := by decide +kernel
theorem dX10_settle_27 : decode cX10_settle 27 = .ok (.invokevirtual 199, 3) := by decide +kernel
theorem dX10_settle_30 : decode cX10_settle 30 = .ok (.istore_n 1, 1) := by decide +kernel
theorem dX10_settle_31 : decode cX10_settle 31 = .ok (.iconst 0, 1) := by decide +kernel
theorem dX10_settle_32 : decode cX10_settle 32 = .ok (.istore_n 2, 1) := by decide +kernel
theorem dX10_settle_33 : decode cX10_settle 33 = .ok (.iload_n 2, 1) := by decide +kernel
theorem dX10_settle_34 : decode cX10_settle 34 = .ok (.aload_n 0, 1) := by decide +kernel
theorem dX10_settle_35 : decode cX10_settle 35 = .ok (.getfield 102, 3) := by decide +kernel
theorem dX10_settle_38 : decode cX10_settle 38 = .ok (.if_icmp .ge 43, 3) := by decide +kernel
theorem dX10_settle_41 : decode cX10_settle 41 = .ok (.aload_n 0, 1) := by decide +kernel
theorem dX10_settle_42 : decode cX10_settle 42 = .ok (.getfield 42, 3) := by decide +kernel
theorem dX10_settle_45 : decode cX10_settle 45 = .ok (.iload_n 2, 1) := by decide +kernel
theorem dX10_settle_46 : decode cX10_settle 46 = .ok (.aload_n 0, 1) := by decide +kernel
theorem dX10_settle_47 : decode cX10_settle 47 = .ok (.getfield 39, 3) := by decide +kernel
theorem dX10_settle_50 : decode cX10_settle 50 = .ok (.iload_n 2, 1) := by decide +kernel
theorem dX10_settle_51 : decode cX10_settle 51 = .ok (.baload, 1) := by decide +kernel
theorem dX10_settle_52 : decode cX10_settle 52 = .ok (.ifCond .ne 21, 3) := by decide +kernel
theorem dX10_settle_55 : decode cX10_settle 55 = .ok (.aload_n 0, 1) := by decide +kernel
theorem dX10_settle_56 : decode cX10_settle 56 = .ok (.aload_n 0, 1) := by decide +kernel
theorem dX10_settle_57 : decode cX10_settle 57 = .ok (.getfield 30, 3) := by decide +kernel
theorem dX10_settle_60 : decode cX10_settle 60 = .ok (.iload_n 2, 1) := by decide +kernel
theorem dX10_settle_61 : decode cX10_settle 61 = .ok (.iaload, 1) := by decide +kernel
theorem dX10_settle_62 : decode cX10_settle 62 = .ok (.invokevirtual 126, 3) := by decide +kernel
theorem dX10_settle_65 : decode cX10_settle 65 = .ok (.iconst 1, 1) := by decide +kernel
theorem dX10_settle_66 : decode cX10_settle 66 = .ok (.if_icmp .ne 7, 3) := by decide +kernel
theorem dX10_settle_69 : decode cX10_settle 69 = .ok (.iconst 1, 1) := by decide +kernel
theorem dX10_settle_70 : decode cX10_settle 70 = .ok (.goto 4, 3) := by decide +kernel
theorem dX10_settle_73 : decode cX10_settle 73 = .ok (.iconst 0, 1) := by decide +kernel
theorem dX10_settle_74 : decode cX10_settle 74 = .ok (.bastore, 1) := by decide +kernel
theorem dX10_settle_75 : decode cX10_settle 75 = .ok (.iinc 2 1, 3) := by decide +kernel
theorem dX10_settle_78 : decode cX10_settle 78 = .ok (.goto (-45), 3) := by decide +kernel
theorem dX10_settle_81 : decode cX10_settle 81 = .ok (.iconst 0, 1) := by decide +kernel
theorem dX10_settle_82 : decode cX10_settle 82 = .ok (.istore_n 2, 1) := by decide +kernel
theorem dX10_settle_83 : decode cX10_settle 83 = .ok (.iload_n 2, 1) := by decide +kernel
theorem dX10_settle_84 : decode cX10_settle 84 = .ok (.aload_n 0, 1) := by decide +kernel
theorem dX10_settle_85 : decode cX10_settle 85 = .ok (.getfield 102, 3) := by decide +kernel
theorem dX10_settle_88 : decode cX10_settle 88 = .ok (.if_icmp .ge 28, 3) := by decide +kernel
theorem dX10_settle_91 : decode cX10_settle 91 = .ok (.aload_n 0, 1) := by decide +kernel
theorem dX10_settle_92 : decode cX10_settle 92 = .ok (.getfield 42, 3) := by decide +kernel
theorem dX10_settle_95 : decode cX10_settle 95 = .ok (.iload_n 2, 1) := by decide +kernel
theorem dX10_settle_96 : decode cX10_settle 96 = .ok (.baload, 1) := by decide +kernel
theorem dX10_settle_97 : decode cX10_settle 97 = .ok (.ifCond .eq 13, 3) := by decide +kernel
theorem dX10_settle_100 : decode cX10_settle 100 = .ok (.aload_n 0, 1) := by decide +kernel
theorem dX10_settle_101 : decode cX10_settle 101 = .ok (.aload_n 0, 1) := by decide +kernel
theorem dX10_settle_102 : decode cX10_settle 102 = .ok (.getfield 26, 3) := by decide +kernel
theorem dX10_settle_105 : decode cX10_settle 105 = .ok (.iload_n 2, 1) := by decide +kernel
theorem dX10_settle_106 : decode cX10_settle 106 = .ok (.laload, 1) := by decide +kernel
theorem dX10_settle_107 : decode cX10_settle 107 = .ok (.invokevirtual 180, 3) := by decide +kernel
theorem dX10_settle_110 : decode cX10_settle 110 = .ok (.iinc 2 1, 3) := by decide +kernel
theorem dX10_settle_113 : decode cX10_settle 113 = .ok (.goto (-30), 3) := by decide +kernel
theorem dX10_settle_116 : decode cX10_settle 116 = .ok (.iload_n 1, 1) := by decide +kernel
theorem dX10_settle_117 : decode cX10_settle 117 = .ok (.ireturn, 1) := by decide +kernel
set_option maxRecDepth 20000 in
theorem ggX10_finish_X10_ways : GoodIn wsX10_finish wsX10_ways := goodIn_r _ [8, 9, 10, 11, 12, 13, 14, 15, 16, 17, 7, 18, 19, 2, 20, 21, 22, 23, 24, 25, 26, 27, 28, 29, 30, 31, 32, 33, 34, 35, 36, 37, 38, 39, 40, 3, 41, 42, 43, 44, 45, 46, 47, 48, 49, 50, 51, 52, 53, 54, 69, 70, 71, 72, 73, 74, 75, 76, 77, 78, 79, 80, 81, 82, 83, 84, 85, 86, 87, 88, 89, 90, 91, 92, 93, 94] (by decide +kernel) (by decide +kernel)
set_option maxRecDepth 20000 in
theorem gX10_finish_X10_ways : GoodIn wsX10_finish (wsV RX10 202 RX10 yX10_ways wsX10_ways) := goodIn_app (goodIn_of _ (by decide +kernel)) ggX10_finish_X10_ways
set_option maxRecDepth 20000 in
theorem ggX10_finish_X10_throwing : GoodIn wsX10_finish wsX10_throwing := goodIn_r _ [58, 1, 69, 70, 71, 72, 73, 74, 75, 76, 77, 78, 79, 80, 81, 82, 83, 84, 85, 86, 87, 88, 89, 90, 91, 92, 93, 94] (by decide +kernel) (by decide +kernel)
set_option maxRecDepth 20000 in
theorem gX10_finish_X10_throwing : GoodIn wsX10_finish (wsV RX10 161 RX10 yX10_throwing wsX10_throwing) := goodIn_app (goodIn_of _ (by decide +kernel)) ggX10_finish_X10_throwing
set_option maxRecDepth 20000 in
theorem ggX10_finish_X10_save : GoodIn wsX10_finish wsX10_save := goodIn_r _ [62, 63, 64, 2, 69, 70, 71, 72, 73, 74, 75, 76, 77, 78, 79, 80, 81, 82, 83, 84, 85, 86, 87, 88, 89, 90, 91, 92, 93, 94] (by decide +kernel) (by decide +kernel)
set_option maxRecDepth 20000 in
theorem gX10_finish_X10_save : GoodIn wsX10_finish (wsV RX10 145 RX10 yX10_save wsX10_save) := goodIn_app (goodIn_of _ (by decide +kernel)) ggX10_finish_X10_save
set_option maxRecDepth 20000 in
theorem ggX10_finish_X10_allFields : GoodIn wsX10_finish wsX10_allFields := goodIn_r _ [68, 2, 69, 70, 71, 72, 73, 74, 75, 76, 77, 78, 79, 80, 81, 82, 83, 84, 85, 86, 87, 88, 89, 90, 91, 92, 93, 94] (by decide +kernel) (by decide +kernel)
set_option maxRecDepth 20000 in
theorem gX10_finish_X10_allFields : GoodIn wsX10_finish (wsV RX10 188 RX10 yX10_allFields wsX10_allFields) := goodIn_app (goodIn_of _ (by decide +kernel)) ggX10_finish_X10_allFields
theorem dX10_finish_0 : decode cX10_finish 0 = .ok (.aload_n 0, 1) := by decide +kernel
theorem dX10_finish_1 : decode cX10_finish 1 = .ok (.iconst 0, 1) := by decide +kernel
theorem dX10_finish_2 : decode cX10_finish 2 = .ok (.putfield 69, 3) := by decide +kernel
theorem dX10_finish_5 : decode cX10_finish 5 = .ok (.aload_n 0, 1) := by decide +kernel
theorem dX10_finish_6 : decode cX10_finish 6 = .ok (.iconst 1, 1) := by decide +kernel
theorem dX10_finish_7 : decode cX10_finish 7 = .ok (.invokevirtual 202, 3) := by decide +kernel
theorem dX10_finish_10 : decode cX10_finish 10 = .ok (.ifCond .ne 9, 3) := by decide +kernel
theorem dX10_finish_13 : decode cX10_finish 13 = .ok (.aload_n 0, 1) := by decide +kernel
theorem dX10_finish_14 : decode cX10_finish 14 = .ok (.iconst 1, 1) := by decide +kernel
theorem dX10_finish_15 : decode cX10_finish 15 = .ok (.invokevirtual 161, 3) := by decide +kernel
theorem dX10_finish_18 : decode cX10_finish 18 = .ok (.ireturn, 1) := by decide +kernel
theorem dX10_finish_19 : decode cX10_finish 19 = .ok (.aload_n 0, 1) := by decide +kernel
theorem dX10_finish_20 : decode cX10_finish 20 = .ok (.invokevirtual 145, 3) := by decide +kernel
theorem dX10_finish_23 : decode cX10_finish 23 = .ok (.aload_n 0, 1) := by decide +kernel
theorem dX10_finish_24 : decode cX10_finish 24 = .ok (.invokevirtual 188, 3) := by decide +kernel
theorem dX10_finish_27 : decode cX10_finish 27 = .ok (.istore_n 1, 1) := by decide +kernel
theorem dX10_finish_28 : decode cX10_finish 28 = .ok (.iconst 0, 1) := by decide +kernel
theorem dX10_finish_29 : decode cX10_finish 29 = .ok (.istore_n 2, 1) := by decide +kernel
theorem dX10_finish_30 : decode cX10_finish 30 = .ok (.iload_n 2, 1) := by decide +kernel
theorem dX10_finish_31 : decode cX10_finish 31 = .ok (.bipush 42, 2) := by decide +kernel
theorem dX10_finish_33 : decode cX10_finish 33 = .ok (.if_icmp .ge 26, 3) := by decide +kernel
theorem dX10_finish_36 : decode cX10_finish 36 = .ok (.aload_n 0, 1) := by decide +kernel
theorem dX10_finish_37 : decode cX10_finish 37 = .ok (.getfield 7, 3) := by decide +kernel
theorem dX10_finish_40 : decode cX10_finish 40 = .ok (.bipush 42, 2) := by decide +kernel
theorem dX10_finish_42 : decode cX10_finish 42 = .ok (.iload_n 2, 1) := by decide +kernel
theorem dX10_finish_43 : decode cX10_finish 43 = .ok (.iadd, 1) := by decide +kernel
theorem dX10_finish_44 : decode cX10_finish 44 = .ok (.aload_n 0, 1) := by decide +kernel
theorem dX10_finish_45 : decode cX10_finish 45 = .ok (.getfield 57, 3) := by decide +kernel
theorem dX10_finish_48 : decode cX10_finish 48 = .ok (.iload_n 2, 1) := by decide +kernel
theorem dX10_finish_49 : decode cX10_finish 49 = .ok (.iaload, 1) := by decide +kernel
theorem dX10_finish_50 : decode cX10_finish 50 = .ok (.iconst 1, 1) := by decide +kernel
theorem dX10_finish_51 : decode cX10_finish 51 = .ok (.iadd, 1) := by decide +kernel
theorem dX10_finish_52 : decode cX10_finish 52 = .ok (.iastore, 1) := by decide +kernel
theorem dX10_finish_53 : decode cX10_finish 53 = .ok (.iinc 2 1, 3) := by decide +kernel
theorem dX10_finish_56 : decode cX10_finish 56 = .ok (.goto (-26), 3) := by decide +kernel
theorem dX10_finish_59 : decode cX10_finish 59 = .ok (.aload_n 0, 1) := by decide +kernel
theorem dX10_finish_60 : decode cX10_finish 60 = .ok (.invokevirtual 188, 3) := by decide +kernel
theorem dX10_finish_63 : decode cX10_finish 63 = .ok (.iload_n 1, 1) := by decide +kernel
theorem dX10_finish_64 : decode cX10_finish 64 = .ok (.isub, 1) := by decide +kernel
theorem dX10_finish_65 : decode cX10_finish 65 = .ok (.ireturn, 1) := by decide +kernel
set_option maxRecDepth 20000 in
theorem ggX10_append_X10_in : GoodIn wsX10_append wsX10_in := goodIn_r _ [7] (by decide +kernel) (by decide +kernel)
set_option maxRecDepth 20000 in
theorem gX10_append_X10_in : GoodIn wsX10_append (va_wsS RX10 73 yX10_in wsX10_in) := goodIn_app (goodIn_of _ (by decide +kernel)) ggX10_append_X10_in
set_option maxRecDepth 20000 in
theorem ggX10_append_X10_throwing : GoodIn wsX10_append wsX10_throwing := goodIn_r _ [11, 1, 12, 13, 14, 15, 16, 17, 18, 19, 20, 21, 22, 23, 24, 25, 26, 27, 28, 29, 30, 31, 32, 33, 34, 35, 36, 37] (by decide +kernel) (by decide +kernel)
set_option maxRecDepth 20000 in
theorem gX10_append_X10_throwing : GoodIn wsX10_append (wsV RX10 161 RX10 yX10_throwing wsX10_throwing) := goodIn_app (goodIn_of _ (by decide +kernel)) ggX10_append_X10_throwing
theorem dX10_append_0 : decode cX10_append 0 = .ok (.aload_n 0, 1) := by decide +kernel
theorem dX10_append_1 : decode cX10_append 1 = .ok (.iconst 0, 1) := by decide +kernel
theorem dX10_append_2 : decode cX10_append 2 = .ok (.putfield 69, 3) := by decide +kernel
theorem dX10_append_5 : decode cX10_append 5 = .ok (.iload_n 1, 1) := by decide +kernel
theorem dX10_append_6 : decode cX10_append 6 = .ok (.bipush 33, 2) := by decide +kernel
theorem dX10_append_8 : decode cX10_append 8 = .ok (.bipush 126, 2) := by decide +kernel
theorem dX10_append_10 : decode cX10_append 10 = .ok (.invokestatic 73, 3) := by decide +kernel
theorem dX10_append_13 : decode cX10_append 13 = .ok (.ifCond .ne 9, 3) := by decide +kernel
theorem dX10_append_16 : decode cX10_append 16 = .ok (.aload_n 0, 1) := by decide +kernel
theorem dX10_append_17 : decode cX10_append 17 = .ok (.iconst 1, 1) := by decide +kernel
theorem dX10_append_18 : decode cX10_append 18 = .ok (.invokevirtual 161, 3) := by decide +kernel
theorem dX10_append_21 : decode cX10_append 21 = .ok (.ireturn, 1) := by decide +kernel
theorem dX10_append_22 : decode cX10_append 22 = .ok (.aload_n 0, 1) := by decide +kernel
theorem dX10_append_23 : decode cX10_append 23 = .ok (.getfield 205, 3) := by decide +kernel
theorem dX10_append_26 : decode cX10_append 26 = .ok (.bipush 60, 2) := by decide +kernel
theorem dX10_append_28 : decode cX10_append 28 = .ok (.if_icmp .ne 9, 3) := by decide +kernel
theorem dX10_append_31 : decode cX10_append 31 = .ok (.aload_n 0, 1) := by decide +kernel
theorem dX10_append_32 : decode cX10_append 32 = .ok (.iconst 2, 1) := by decide +kernel
theorem dX10_append_33 : decode cX10_append 33 = .ok (.invokevirtual 161, 3) := by decide +kernel
theorem dX10_append_36 : decode cX10_append 36 = .ok (.ireturn, 1) := by decide +kernel
theorem dX10_append_37 : decode cX10_append 37 = .ok (.aload_n 0, 1) := by decide +kernel
theorem dX10_append_38 : decode cX10_append 38 = .ok (.getfield 23, 3) := by decide +kernel
theorem dX10_append_41 : decode cX10_append 41 = .ok (.aload_n 0, 1) := by decide +kernel
theorem dX10_append_42 : decode cX10_append 42 = .ok (.getfield 205, 3) := by decide +kernel
theorem dX10_append_45 : decode cX10_append 45 = .ok (.iload_n 1, 1) := by decide +kernel
theorem dX10_append_46 : decode cX10_append 46 = .ok (.iastore, 1) := by decide +kernel
theorem dX10_append_47 : decode cX10_append 47 = .ok (.aload_n 0, 1) := by decide +kernel
theorem dX10_append_48 : decode cX10_append 48 = .ok (.dup, 1) := by decide +kernel
theorem dX10_append_49 : decode cX10_append 49 = .ok (.getfield 205, 3) := by decide +kernel
theorem dX10_append_52 : decode cX10_append 52 = .ok (.iconst 1, 1) := by decide +kernel
theorem dX10_append_53 : decode cX10_append 53 = .ok (.iadd, 1) := by decide +kernel
theorem dX10_append_54 : decode cX10_append 54 = .ok (.putfield 205, 3) := by decide +kernel
theorem dX10_append_57 : decode cX10_append 57 = .ok (.aload_n 0, 1) := by decide +kernel
theorem dX10_append_58 : decode cX10_append 58 = .ok (.getfield 205, 3) := by decide +kernel
theorem dX10_append_61 : decode cX10_append 61 = .ok (.ireturn, 1) := by decide +kernel
theorem dX10_clearBuffer_0 : decode cX10_clearBuffer 0 = .ok (.aload_n 0, 1) := by decide +kernel
theorem dX10_clearBuffer_1 : decode cX10_clearBuffer 1 = .ok (.iconst 0, 1) := by decide +kernel
theorem dX10_clearBuffer_2 : decode cX10_clearBuffer 2 = .ok (.putfield 69, 3) := by decide +kernel
theorem dX10_clearBuffer_5 : decode cX10_clearBuffer 5 = .ok (.aload_n 0, 1) := by decide +kernel
theorem dX10_clearBuffer_6 : decode cX10_clearBuffer 6 = .ok (.getfield 205, 3) := by decide +kernel
theorem dX10_clearBuffer_9 : decode cX10_clearBuffer 9 = .ok (.istore_n 1, 1) := by decide +kernel
theorem dX10_clearBuffer_10 : decode cX10_clearBuffer 10 = .ok (.aload_n 0, 1) := by decide +kernel
theorem dX10_clearBuffer_11 : decode cX10_clearBuffer 11 = .ok (.iconst 0, 1) := by decide +kernel
theorem dX10_clearBuffer_12 : decode cX10_clearBuffer 12 = .ok (.putfield 205, 3) := by decide +kernel
theorem dX10_clearBuffer_15 : decode cX10_clearBuffer 15 = .ok (.iload_n 1, 1) := by decide +kernel
theorem dX10_clearBuffer_16 : decode cX10_clearBuffer 16 = .ok (.ireturn, 1) := by decide +kernel
set_option maxRecDepth 20000 in
theorem ggX10_error_X10_in : GoodIn wsX10_error wsX10_in := goodIn_r _ [6] (by decide +kernel) (by decide +kernel)
set_option maxRecDepth 20000 in
theorem gX10_error_X10_in : GoodIn wsX10_error (va_wsS RX10 73 yX10_in wsX10_in) := goodIn_app (goodIn_of _ (by decide +kernel)) ggX10_error_X10_in
theorem dX10_error_0 : decode cX10_error 0 = .ok (.iconst 0, 1) := by decide +kernel
theorem dX10_error_1 : decode cX10_error 1 = .ok (.istore_n 1, 1) := by decide +kernel
theorem dX10_error_2 : decode cX10_error 2 = .ok (.iload_n 1, 1) := by decide +kernel
theorem dX10_error_3 : decode cX10_error 3 = .ok (.aload_n 0, 1) := by decide +kernel
theorem dX10_error_4 : decode cX10_error 4 = .ok (.getfield 205, 3) := by decide +kernel
theorem dX10_error_7 : decode cX10_error 7 = .ok (.if_icmp .ge 62, 3) := by decide +kernel
theorem dX10_error_10 : decode cX10_error 10 = .ok (.aload_n 0, 1) := by decide +kernel
theorem dX10_error_11 : decode cX10_error 11 = .ok (.getfield 23, 3) := by decide +kernel
theorem dX10_error_14 : decode cX10_error 14 = .ok (.iload_n 1, 1) := by decide +kernel
theorem dX10_error_15 : decode cX10_error 15 = .ok (.iaload, 1) := by decide +kernel
theorem dX10_error_16 : decode cX10_error 16 = .ok (.istore_n 2, 1) := by decide +kernel
theorem dX10_error_17 : decode cX10_error 17 = .ok (.iload_n 2, 1) := by decide +kernel
theorem dX10_error_18 : decode cX10_error 18 = .ok (.bipush 46, 2) := by decide +kernel
theorem dX10_error_20 : decode cX10_error 20 = .ok (.if_icmp .eq 25, 3) := by decide +kernel
theorem dX10_error_23 : decode cX10_error 23 = .ok (.iload_n 2, 1) := by decide +kernel
theorem dX10_error_24 : decode cX10_error 24 = .ok (.bipush 49, 2) := by decide +kernel
theorem dX10_error_26 : decode cX10_error 26 = .ok (.bipush 57, 2) := by decide +kernel
theorem dX10_error_28 : decode cX10_error 28 = .ok (.invokestatic 73, 3) := by decide +kernel
theorem dX10_error_31 : decode cX10_error 31 = .ok (.ifCond .ne 14, 3) := by decide +kernel
theorem dX10_error_34 : decode cX10_error 34 = .ok (.iload_n 2, 1) := by decide +kernel
theorem dX10_error_35 : decode cX10_error 35 = .ok (.bipush 97, 2) := by decide +kernel
theorem dX10_error_37 : decode cX10_error 37 = .ok (.bipush 107, 2) := by decide +kernel
theorem dX10_error_39 : decode cX10_error 39 = .ok (.invokestatic 73, 3) := by decide +kernel
theorem dX10_error_42 : decode cX10_error 42 = .ok (.ifCond .eq 7, 3) := by decide +kernel
theorem dX10_error_45 : decode cX10_error 45 = .ok (.iconst 1, 1) := by decide +kernel
theorem dX10_error_46 : decode cX10_error 46 = .ok (.goto 4, 3) := by decide +kernel
theorem dX10_error_49 : decode cX10_error 49 = .ok (.iconst 0, 1) := by decide +kernel
theorem dX10_error_50 : decode cX10_error 50 = .ok (.istore_n 3, 1) := by decide +kernel
theorem dX10_error_51 : decode cX10_error 51 = .ok (.iload_n 3, 1) := by decide +kernel
theorem dX10_error_52 : decode cX10_error 52 = .ok (.ifCond .eq 9, 3) := by decide +kernel
theorem dX10_error_55 : decode cX10_error 55 = .ok (.iload_n 1, 1) := by decide +kernel
theorem dX10_error_56 : decode cX10_error 56 = .ok (.bipush 7, 2) := by decide +kernel
theorem dX10_error_58 : decode cX10_error 58 = .ok (.if_icmp .ne 5, 3) := by decide +kernel
theorem dX10_error_61 : decode cX10_error 61 = .ok (.iload_n 1, 1) := by decide +kernel
theorem dX10_error_62 : decode cX10_error 62 = .ok (.ireturn, 1) := by decide +kernel
theorem dX10_error_63 : decode cX10_error 63 = .ok (.iinc 1 1, 3) := by decide +kernel
theorem dX10_error_66 : decode cX10_error 66 = .ok (.goto (-64), 3) := by decide +kernel
theorem dX10_error_69 : decode cX10_error 69 = .ok (.aload_n 0, 1) := by decide +kernel
theorem dX10_error_70 : decode cX10_error 70 = .ok (.getfield 205, 3) := by decide +kernel
theorem dX10_error_73 : decode cX10_error 73 = .ok (.ireturn, 1) := by decide +kernel
set_option maxRecDepth 20000 in
theorem ggX10_firstError_X10_error : GoodIn wsX10_firstError wsX10_error := goodIn_r _ [6, 7, 8, 9, 10, 5, 11, 12, 13, 14, 15, 16, 17, 18, 19, 20, 21, 22, 23, 24, 25, 26, 27, 28, 29, 30, 31, 32, 33, 34, 35, 36, 37] (by decide +kernel) (by decide +kernel)
set_option maxRecDepth 20000 in
theorem gX10_firstError_X10_error : GoodIn wsX10_firstError (wsV RX10 208 RX10 yX10_error wsX10_error) := goodIn_app (goodIn_of _ (by decide +kernel)) ggX10_firstError_X10_error
theorem dX10_firstError_0 : decode cX10_firstError 0 = .ok (.aload_n 0, 1) := by decide +kernel
theorem dX10_firstError_1 : decode cX10_firstError 1 = .ok (.iconst 0, 1) := by decide +kernel
theorem dX10_firstError_2 : decode cX10_firstError 2 = .ok (.putfield 69, 3) := by decide +kernel
theorem dX10_firstError_5 : decode cX10_firstError 5 = .ok (.aload_n 0, 1) := by decide +kernel
theorem dX10_firstError_6 : decode cX10_firstError 6 = .ok (.invokevirtual 208, 3) := by decide +kernel
theorem dX10_firstError_9 : decode cX10_firstError 9 = .ok (.ireturn, 1) := by decide +kernel
set_option maxRecDepth 20000 in
theorem ggX10_writeRow_X10_in : GoodIn wsX10_writeRow wsX10_in := goodIn_r _ [8] (by decide +kernel) (by decide +kernel)
set_option maxRecDepth 20000 in
theorem gX10_writeRow_X10_in : GoodIn wsX10_writeRow (va_wsS RX10 73 yX10_in wsX10_in) := goodIn_app (goodIn_of _ (by decide +kernel)) ggX10_writeRow_X10_in
set_option maxRecDepth 20000 in
theorem ggX10_writeRow_X10_throwing : GoodIn wsX10_writeRow wsX10_throwing := goodIn_r _ [12, 1, 23, 24, 25, 26, 27, 28, 29, 30, 31, 32, 33, 34, 35, 36, 37, 38, 39, 40, 41, 42, 43, 44, 45, 46, 47, 48] (by decide +kernel) (by decide +kernel)
set_option maxRecDepth 20000 in
theorem gX10_writeRow_X10_throwing : GoodIn wsX10_writeRow (wsV RX10 161 RX10 yX10_throwing wsX10_throwing) := goodIn_app (goodIn_of _ (by decide +kernel)) ggX10_writeRow_X10_throwing
set_option maxRecDepth 20000 in
theorem ggX10_writeRow_X10_error : GoodIn wsX10_writeRow wsX10_error := goodIn_r _ [16, 2, 4, 5, 6, 7, 8, 23, 24, 25, 26, 27, 28, 29, 30, 31, 32, 33, 34, 35, 36, 37, 38, 39, 40, 41, 42, 43, 44, 45, 46, 47, 48] (by decide +kernel) (by decide +kernel)
set_option maxRecDepth 20000 in
theorem gX10_writeRow_X10_error : GoodIn wsX10_writeRow (wsV RX10 208 RX10 yX10_error wsX10_error) := goodIn_app (goodIn_of _ (by decide +kernel)) ggX10_writeRow_X10_error
set_option maxRecDepth 20000 in
theorem ggX10_writeRow_X10_save : GoodIn wsX10_writeRow wsX10_save := goodIn_r _ [20, 21, 22, 3, 23, 24, 25, 26, 27, 28, 29, 30, 31, 32, 33, 34, 35, 36, 37, 38, 39, 40, 41, 42, 43, 44, 45, 46, 47, 48] (by decide +kernel) (by decide +kernel)
set_option maxRecDepth 20000 in
theorem gX10_writeRow_X10_save : GoodIn wsX10_writeRow (wsV RX10 145 RX10 yX10_save wsX10_save) := goodIn_app (goodIn_of _ (by decide +kernel)) ggX10_writeRow_X10_save
theorem dX10_writeRow_0 : decode cX10_writeRow 0 = .ok (.aload_n 0, 1) := by decide +kernel
theorem dX10_writeRow_1 : decode cX10_writeRow 1 = .ok (.iconst 0, 1) := by decide +kernel
theorem dX10_writeRow_2 : decode cX10_writeRow 2 = .ok (.putfield 69, 3) := by decide +kernel
theorem dX10_writeRow_5 : decode cX10_writeRow 5 = .ok (.iload_n 1, 1) := by decide +kernel
theorem dX10_writeRow_6 : decode cX10_writeRow 6 = .ok (.iconst 0, 1) := by decide +kernel
theorem dX10_writeRow_7 : decode cX10_writeRow 7 = .ok (.iconst 5, 1) := by decide +kernel
theorem dX10_writeRow_8 : decode cX10_writeRow 8 = .ok (.invokestatic 73, 3) := by decide +kernel
theorem dX10_writeRow_11 : decode cX10_writeRow 11 = .ok (.ifCond .ne 9, 3) := by decide +kernel
theorem dX10_writeRow_14 : decode cX10_writeRow 14 = .ok (.aload_n 0, 1) := by decide +kernel
theorem dX10_writeRow_15 : decode cX10_writeRow 15 = .ok (.iconst 1, 1) := by decide +kernel
theorem dX10_writeRow_16 : decode cX10_writeRow 16 = .ok (.invokevirtual 161, 3) := by decide +kernel
theorem dX10_writeRow_19 : decode cX10_writeRow 19 = .ok (.ireturn, 1) := by decide +kernel
theorem dX10_writeRow_20 : decode cX10_writeRow 20 = .ok (.aload_n 0, 1) := by decide +kernel
theorem dX10_writeRow_21 : decode cX10_writeRow 21 = .ok (.getfield 205, 3) := by decide +kernel
theorem dX10_writeRow_24 : decode cX10_writeRow 24 = .ok (.bipush 7, 2) := by decide +kernel
theorem dX10_writeRow_26 : decode cX10_writeRow 26 = .ok (.if_icmp .ne 14, 3) := by decide +kernel
theorem dX10_writeRow_29 : decode cX10_writeRow 29 = .ok (.aload_n 0, 1) := by decide +kernel
theorem dX10_writeRow_30 : decode cX10_writeRow 30 = .ok (.invokevirtual 208, 3) := by decide +kernel
theorem dX10_writeRow_33 : decode cX10_writeRow 33 = .ok (.aload_n 0, 1) := by decide +kernel
theorem dX10_writeRow_34 : decode cX10_writeRow 34 = .ok (.getfield 205, 3) := by decide +kernel
theorem dX10_writeRow_37 : decode cX10_writeRow 37 = .ok (.if_icmp .ge 9, 3) := by decide +kernel
theorem dX10_writeRow_40 : decode cX10_writeRow 40 = .ok (.aload_n 0, 1) := by decide +kernel
theorem dX10_writeRow_41 : decode cX10_writeRow 41 = .ok (.iconst 2, 1) := by decide +kernel
theorem dX10_writeRow_42 : decode cX10_writeRow 42 = .ok (.invokevirtual 161, 3) := by decide +kernel
theorem dX10_writeRow_45 : decode cX10_writeRow 45 = .ok (.ireturn, 1) := by decide +kernel
theorem dX10_writeRow_46 : decode cX10_writeRow 46 = .ok (.bipush 7, 2) := by decide +kernel
theorem dX10_writeRow_48 : decode cX10_writeRow 48 = .ok (.iload_n 1, 1) := by decide +kernel
theorem dX10_writeRow_49 : decode cX10_writeRow 49 = .ok (.imul, 1) := by decide +kernel
theorem dX10_writeRow_50 : decode cX10_writeRow 50 = .ok (.istore_n 2, 1) := by decide +kernel
theorem dX10_writeRow_51 : decode cX10_writeRow 51 = .ok (.iload_n 2, 1) := by decide +kernel
theorem dX10_writeRow_52 : decode cX10_writeRow 52 = .ok (.bipush 7, 2) := by decide +kernel
theorem dX10_writeRow_54 : decode cX10_writeRow 54 = .ok (.iload_n 1, 1) := by decide +kernel
theorem dX10_writeRow_55 : decode cX10_writeRow 55 = .ok (.imul, 1) := by decide +kernel
theorem dX10_writeRow_56 : decode cX10_writeRow 56 = .ok (.bipush 7, 2) := by decide +kernel
theorem dX10_writeRow_58 : decode cX10_writeRow 58 = .ok (.iadd, 1) := by decide +kernel
theorem dX10_writeRow_59 : decode cX10_writeRow 59 = .ok (.if_icmp .ge 33, 3) := by decide +kernel
theorem dX10_writeRow_62 : decode cX10_writeRow 62 = .ok (.aload_n 0, 1) := by decide +kernel
theorem dX10_writeRow_63 : decode cX10_writeRow 63 = .ok (.aload_n 0, 1) := by decide +kernel
theorem dX10_writeRow_64 : decode cX10_writeRow 64 = .ok (.getfield 7, 3) := by decide +kernel
theorem dX10_writeRow_67 : decode cX10_writeRow 67 = .ok (.bipush 42, 2) := by decide +kernel
theorem dX10_writeRow_69 : decode cX10_writeRow 69 = .ok (.iload_n 2, 1) := by decide +kernel
theorem dX10_writeRow_70 : decode cX10_writeRow 70 = .ok (.iadd, 1) := by decide +kernel
theorem dX10_writeRow_71 : decode cX10_writeRow 71 = .ok (.iaload, 1) := by decide +kernel
theorem dX10_writeRow_72 : decode cX10_writeRow 72 = .ok (.ifCond .le 7, 3) := by decide +kernel
theorem dX10_writeRow_75 : decode cX10_writeRow 75 = .ok (.iconst 3, 1) := by decide +kernel
theorem dX10_writeRow_76 : decode cX10_writeRow 76 = .ok (.goto 7, 3) := by decide +kernel
theorem dX10_writeRow_79 : decode cX10_writeRow 79 = .ok (.aload_n 0, 1) := by decide +kernel
theorem dX10_writeRow_80 : decode cX10_writeRow 80 = .ok (.getfield 69, 3) := by decide +kernel
theorem dX10_writeRow_83 : decode cX10_writeRow 83 = .ok (.putfield 69, 3) := by decide +kernel
theorem dX10_writeRow_86 : decode cX10_writeRow 86 = .ok (.iinc 2 1, 3) := by decide +kernel
theorem dX10_writeRow_89 : decode cX10_writeRow 89 = .ok (.goto (-38), 3) := by decide +kernel
theorem dX10_writeRow_92 : decode cX10_writeRow 92 = .ok (.aload_n 0, 1) := by decide +kernel
theorem dX10_writeRow_93 : decode cX10_writeRow 93 = .ok (.getfield 69, 3) := by decide +kernel
theorem dX10_writeRow_96 : decode cX10_writeRow 96 = .ok (.ifCond .le 5, 3) := by decide +kernel
theorem dX10_writeRow_99 : decode cX10_writeRow 99 = .ok (.iconst 0, 1) := by decide +kernel
theorem dX10_writeRow_100 : decode cX10_writeRow 100 = .ok (.ireturn, 1) := by decide +kernel
theorem dX10_writeRow_101 : decode cX10_writeRow 101 = .ok (.aload_n 0, 1) := by decide +kernel
theorem dX10_writeRow_102 : decode cX10_writeRow 102 = .ok (.invokevirtual 145, 3) := by decide +kernel
theorem dX10_writeRow_105 : decode cX10_writeRow 105 = .ok (.iconst 0, 1) := by decide +kernel
theorem dX10_writeRow_106 : decode cX10_writeRow 106 = .ok (.istore_n 2, 1) := by decide +kernel
theorem dX10_writeRow_107 : decode cX10_writeRow 107 = .ok (.iconst 0, 1) := by decide +kernel
theorem dX10_writeRow_108 : decode cX10_writeRow 108 = .ok (.istore_n 3, 1) := by decide +kernel
theorem dX10_writeRow_109 : decode cX10_writeRow 109 = .ok (.iload_n 3, 1) := by decide +kernel
theorem dX10_writeRow_110 : decode cX10_writeRow 110 = .ok (.bipush 7, 2) := by decide +kernel
theorem dX10_writeRow_112 : decode cX10_writeRow 112 = .ok (.if_icmp .ge 79, 3) := by decide +kernel
theorem dX10_writeRow_115 : decode cX10_writeRow 115 = .ok (.aload_n 0, 1) := by decide +kernel
theorem dX10_writeRow_116 : decode cX10_writeRow 116 = .ok (.getfield 23, 3) := by decide +kernel
theorem dX10_writeRow_119 : decode cX10_writeRow 119 = .ok (.iload_n 3, 1) := by decide +kernel
theorem dX10_writeRow_120 : decode cX10_writeRow 120 = .ok (.iaload, 1) := by decide +kernel
theorem dX10_writeRow_121 : decode cX10_writeRow 121 = .ok (.istore 4, 2) := by decide +kernel
theorem dX10_writeRow_123 : decode cX10_writeRow 123 = .ok (.iload 4, 2) := by decide +kernel
theorem dX10_writeRow_125 : decode cX10_writeRow 125 = .ok (.bipush 46, 2) := by decide +kernel
theorem dX10_writeRow_127 : decode cX10_writeRow 127 = .ok (.if_icmp .ne 7, 3) := by decide +kernel
theorem dX10_writeRow_130 : decode cX10_writeRow 130 = .ok (.iconst 0, 1) := by decide +kernel
theorem dX10_writeRow_131 : decode cX10_writeRow 131 = .ok (.goto 26, 3) := by decide +kernel
theorem dX10_writeRow_134 : decode cX10_writeRow 134 = .ok (.iload 4, 2) := by decide +kernel
theorem dX10_writeRow_136 : decode cX10_writeRow 136 = .ok (.bipush 97, 2) := by decide +kernel
theorem dX10_writeRow_138 : decode cX10_writeRow 138 = .ok (.if_icmp .lt 14, 3) := by decide +kernel
theorem dX10_writeRow_141 : decode cX10_writeRow 141 = .ok (.iload 4, 2) := by decide +kernel
theorem dX10_writeRow_143 : decode cX10_writeRow 143 = .ok (.bipush 97, 2) := by decide +kernel
theorem dX10_writeRow_145 : decode cX10_writeRow 145 = .ok (.isub, 1) := by decide +kernel
theorem dX10_writeRow_146 : decode cX10_writeRow 146 = .ok (.bipush 10, 2) := by decide +kernel
theorem dX10_writeRow_148 : decode cX10_writeRow 148 = .ok (.iadd, 1) := by decide +kernel
theorem dX10_writeRow_149 : decode cX10_writeRow 149 = .ok (.goto 8, 3) := by decide +kernel
theorem dX10_writeRow_152 : decode cX10_writeRow 152 = .ok (.iload 4, 2) := by decide +kernel
theorem dX10_writeRow_154 : decode cX10_writeRow 154 = .ok (.bipush 48, 2) := by decide +kernel
theorem dX10_writeRow_156 : decode cX10_writeRow 156 = .ok (.isub, 1) := by decide +kernel
theorem dX10_writeRow_157 : decode cX10_writeRow 157 = .ok (.istore 5, 2) := by decide +kernel
theorem dX10_writeRow_159 : decode cX10_writeRow 159 = .ok (.aload_n 0, 1) := by decide +kernel
theorem dX10_writeRow_160 : decode cX10_writeRow 160 = .ok (.getfield 7, 3) := by decide +kernel
theorem dX10_writeRow_163 : decode cX10_writeRow 163 = .ok (.bipush 7, 2) := by decide +kernel
theorem dX10_writeRow_165 : decode cX10_writeRow 165 = .ok (.iload_n 1, 1) := by decide +kernel
theorem dX10_writeRow_166 : decode cX10_writeRow 166 = .ok (.imul, 1) := by decide +kernel
theorem dX10_writeRow_167 : decode cX10_writeRow 167 = .ok (.iload_n 3, 1) := by decide +kernel
theorem dX10_writeRow_168 : decode cX10_writeRow 168 = .ok (.iadd, 1) := by decide +kernel
theorem dX10_writeRow_169 : decode cX10_writeRow 169 = .ok (.iload 5, 2) := by decide +kernel
theorem dX10_writeRow_171 : decode cX10_writeRow 171 = .ok (.iastore, 1) := by decide +kernel
theorem dX10_writeRow_172 : decode cX10_writeRow 172 = .ok (.iload_n 2, 1) := by decide +kernel
theorem dX10_writeRow_173 : decode cX10_writeRow 173 = .ok (.iload 5, 2) := by decide +kernel
theorem dX10_writeRow_175 : decode cX10_writeRow 175 = .ok (.ifCond .le 7, 3) := by decide +kernel
theorem dX10_writeRow_178 : decode cX10_writeRow 178 = .ok (.iconst 1, 1) := by decide +kernel
theorem dX10_writeRow_179 : decode cX10_writeRow 179 = .ok (.goto 4, 3) := by decide +kernel
theorem dX10_writeRow_182 : decode cX10_writeRow 182 = .ok (.iconst 0, 1) := by decide +kernel
theorem dX10_writeRow_183 : decode cX10_writeRow 183 = .ok (.iadd, 1) := by decide +kernel
theorem dX10_writeRow_184 : decode cX10_writeRow 184 = .ok (.istore_n 2, 1) := by decide +kernel
theorem dX10_writeRow_185 : decode cX10_writeRow 185 = .ok (.iinc 3 1, 3) := by decide +kernel
theorem dX10_writeRow_188 : decode cX10_writeRow 188 = .ok (.goto (-79), 3) := by decide +kernel
theorem dX10_writeRow_191 : decode cX10_writeRow 191 = .ok (.aload_n 0, 1) := by decide +kernel
theorem dX10_writeRow_192 : decode cX10_writeRow 192 = .ok (.iconst 0, 1) := by decide +kernel
theorem dX10_writeRow_193 : decode cX10_writeRow 193 = .ok (.putfield 205, 3) := by decide +kernel
theorem dX10_writeRow_196 : decode cX10_writeRow 196 = .ok (.iload_n 2, 1) := by decide +kernel
theorem dX10_writeRow_197 : decode cX10_writeRow 197 = .ok (.ireturn, 1) := by decide +kernel
set_option maxRecDepth 20000 in
theorem ggX10_keep_X10_in : GoodIn wsX10_keep wsX10_in := goodIn_r _ [8] (by decide +kernel) (by decide +kernel)
set_option maxRecDepth 20000 in
theorem gX10_keep_X10_in : GoodIn wsX10_keep (va_wsS RX10 73 yX10_in wsX10_in) := goodIn_app (goodIn_of _ (by decide +kernel)) ggX10_keep_X10_in
theorem dX10_keep_0 : decode cX10_keep 0 = .ok (.aload_n 0, 1) := by decide +kernel
theorem dX10_keep_1 : decode cX10_keep 1 = .ok (.iload_n 1, 1) := by decide +kernel
theorem dX10_keep_2 : decode cX10_keep 2 = .ok (.iconst 0, 1) := by decide +kernel
theorem dX10_keep_3 : decode cX10_keep 3 = .ok (.iconst 1, 1) := by decide +kernel
theorem dX10_keep_4 : decode cX10_keep 4 = .ok (.invokestatic 73, 3) := by decide +kernel
theorem dX10_keep_7 : decode cX10_keep 7 = .ok (.ifCond .eq 7, 3) := by decide +kernel
theorem dX10_keep_10 : decode cX10_keep 10 = .ok (.iconst 0, 1) := by decide +kernel
theorem dX10_keep_11 : decode cX10_keep 11 = .ok (.goto 4, 3) := by decide +kernel
theorem dX10_keep_14 : decode cX10_keep 14 = .ok (.iconst 1, 1) := by decide +kernel
theorem dX10_keep_15 : decode cX10_keep 15 = .ok (.putfield 69, 3) := by decide +kernel
theorem dX10_keep_18 : decode cX10_keep 18 = .ok (.iconst 0, 1) := by decide +kernel
theorem dX10_keep_19 : decode cX10_keep 19 = .ok (.istore_n 2, 1) := by decide +kernel
theorem dX10_keep_20 : decode cX10_keep 20 = .ok (.iload_n 2, 1) := by decide +kernel
theorem dX10_keep_21 : decode cX10_keep 21 = .ok (.bipush 84, 2) := by decide +kernel
theorem dX10_keep_23 : decode cX10_keep 23 = .ok (.if_icmp .ge 33, 3) := by decide +kernel
theorem dX10_keep_26 : decode cX10_keep 26 = .ok (.aload_n 0, 1) := by decide +kernel
theorem dX10_keep_27 : decode cX10_keep 27 = .ok (.getfield 69, 3) := by decide +kernel
theorem dX10_keep_30 : decode cX10_keep 30 = .ok (.ifCond .ne 26, 3) := by decide +kernel
theorem dX10_keep_33 : decode cX10_keep 33 = .ok (.aload_n 0, 1) := by decide +kernel
theorem dX10_keep_34 : decode cX10_keep 34 = .ok (.getfield 16, 3) := by decide +kernel
theorem dX10_keep_37 : decode cX10_keep 37 = .ok (.bipush 84, 2) := by decide +kernel
theorem dX10_keep_39 : decode cX10_keep 39 = .ok (.iload_n 1, 1) := by decide +kernel
theorem dX10_keep_40 : decode cX10_keep 40 = .ok (.imul, 1) := by decide +kernel
theorem dX10_keep_41 : decode cX10_keep 41 = .ok (.iload_n 2, 1) := by decide +kernel
theorem dX10_keep_42 : decode cX10_keep 42 = .ok (.iadd, 1) := by decide +kernel
theorem dX10_keep_43 : decode cX10_keep 43 = .ok (.aload_n 0, 1) := by decide +kernel
theorem dX10_keep_44 : decode cX10_keep 44 = .ok (.getfield 7, 3) := by decide +kernel
theorem dX10_keep_47 : decode cX10_keep 47 = .ok (.iload_n 2, 1) := by decide +kernel
theorem dX10_keep_48 : decode cX10_keep 48 = .ok (.iaload, 1) := by decide +kernel
theorem dX10_keep_49 : decode cX10_keep 49 = .ok (.iastore, 1) := by decide +kernel
theorem dX10_keep_50 : decode cX10_keep 50 = .ok (.iinc 2 1, 3) := by decide +kernel
theorem dX10_keep_53 : decode cX10_keep 53 = .ok (.goto (-33), 3) := by decide +kernel
theorem dX10_keep_56 : decode cX10_keep 56 = .ok (.aload_n 0, 1) := by decide +kernel
theorem dX10_keep_57 : decode cX10_keep 57 = .ok (.getfield 69, 3) := by decide +kernel
theorem dX10_keep_60 : decode cX10_keep 60 = .ok (.ifCond .ne 10, 3) := by decide +kernel
theorem dX10_keep_63 : decode cX10_keep 63 = .ok (.aload_n 0, 1) := by decide +kernel
theorem dX10_keep_64 : decode cX10_keep 64 = .ok (.getfield 19, 3) := by decide +kernel
theorem dX10_keep_67 : decode cX10_keep 67 = .ok (.iload_n 1, 1) := by decide +kernel
theorem dX10_keep_68 : decode cX10_keep 68 = .ok (.iconst 1, 1) := by decide +kernel
theorem dX10_keep_69 : decode cX10_keep 69 = .ok (.bastore, 1) := by decide +kernel
theorem dX10_keep_70 : decode cX10_keep 70 = .ok (.return_, 1) := by decide +kernel
set_option maxRecDepth 20000 in
theorem ggX10_goBack_X10_in : GoodIn wsX10_goBack wsX10_in := goodIn_r _ [8] (by decide +kernel) (by decide +kernel)
set_option maxRecDepth 20000 in
theorem gX10_goBack_X10_in : GoodIn wsX10_goBack (va_wsS RX10 73 yX10_in wsX10_in) := goodIn_app (goodIn_of _ (by decide +kernel)) ggX10_goBack_X10_in
set_option maxRecDepth 20000 in
theorem ggX10_goBack_X10_save : GoodIn wsX10_goBack wsX10_save := goodIn_r _ [12, 13, 14, 3, 15, 16, 17, 18, 19, 20, 21, 22, 23, 24, 25, 26, 27, 28, 29, 30, 31, 32, 33, 34, 35, 36, 37, 38, 39, 40] (by decide +kernel) (by decide +kernel)
set_option maxRecDepth 20000 in
theorem gX10_goBack_X10_save : GoodIn wsX10_goBack (wsV RX10 145 RX10 yX10_save wsX10_save) := goodIn_app (goodIn_of _ (by decide +kernel)) ggX10_goBack_X10_save
theorem dX10_goBack_0 : decode cX10_goBack 0 = .ok (.aload_n 0, 1) := by decide +kernel
theorem dX10_goBack_1 : decode cX10_goBack 1 = .ok (.iload_n 1, 1) := by decide +kernel
theorem dX10_goBack_2 : decode cX10_goBack 2 = .ok (.iconst 0, 1) := by decide +kernel
theorem dX10_goBack_3 : decode cX10_goBack 3 = .ok (.iconst 1, 1) := by decide +kernel
theorem dX10_goBack_4 : decode cX10_goBack 4 = .ok (.invokestatic 73, 3) := by decide +kernel
theorem dX10_goBack_7 : decode cX10_goBack 7 = .ok (.ifCond .ne 7, 3) := by decide +kernel
theorem dX10_goBack_10 : decode cX10_goBack 10 = .ok (.iconst 1, 1) := by decide +kernel
theorem dX10_goBack_11 : decode cX10_goBack 11 = .ok (.goto 17, 3) := by decide +kernel
theorem dX10_goBack_14 : decode cX10_goBack 14 = .ok (.aload_n 0, 1) := by decide +kernel
theorem dX10_goBack_15 : decode cX10_goBack 15 = .ok (.getfield 19, 3) := by decide +kernel
theorem dX10_goBack_18 : decode cX10_goBack 18 = .ok (.iload_n 1, 1) := by decide +kernel
theorem dX10_goBack_19 : decode cX10_goBack 19 = .ok (.baload, 1) := by decide +kernel
theorem dX10_goBack_20 : decode cX10_goBack 20 = .ok (.ifCond .eq 7, 3) := by decide +kernel
theorem dX10_goBack_23 : decode cX10_goBack 23 = .ok (.iconst 0, 1) := by decide +kernel
theorem dX10_goBack_24 : decode cX10_goBack 24 = .ok (.goto 4, 3) := by decide +kernel
theorem dX10_goBack_27 : decode cX10_goBack 27 = .ok (.iconst 2, 1) := by decide +kernel
theorem dX10_goBack_28 : decode cX10_goBack 28 = .ok (.putfield 69, 3) := by decide +kernel
theorem dX10_goBack_31 : decode cX10_goBack 31 = .ok (.aload_n 0, 1) := by decide +kernel
theorem dX10_goBack_32 : decode cX10_goBack 32 = .ok (.getfield 69, 3) := by decide +kernel
theorem dX10_goBack_35 : decode cX10_goBack 35 = .ok (.ifCond .ne 38, 3) := by decide +kernel
theorem dX10_goBack_38 : decode cX10_goBack 38 = .ok (.aload_n 0, 1) := by decide +kernel
theorem dX10_goBack_39 : decode cX10_goBack 39 = .ok (.invokevirtual 145, 3) := by decide +kernel
theorem dX10_goBack_42 : decode cX10_goBack 42 = .ok (.iconst 0, 1) := by decide +kernel
theorem dX10_goBack_43 : decode cX10_goBack 43 = .ok (.istore_n 2, 1) := by decide +kernel
theorem dX10_goBack_44 : decode cX10_goBack 44 = .ok (.iload_n 2, 1) := by decide +kernel
theorem dX10_goBack_45 : decode cX10_goBack 45 = .ok (.bipush 84, 2) := by decide +kernel
theorem dX10_goBack_47 : decode cX10_goBack 47 = .ok (.if_icmp .ge 26, 3) := by decide +kernel
theorem dX10_goBack_50 : decode cX10_goBack 50 = .ok (.aload_n 0, 1) := by decide +kernel
theorem dX10_goBack_51 : decode cX10_goBack 51 = .ok (.getfield 7, 3) := by decide +kernel
theorem dX10_goBack_54 : decode cX10_goBack 54 = .ok (.iload_n 2, 1) := by decide +kernel
theorem dX10_goBack_55 : decode cX10_goBack 55 = .ok (.aload_n 0, 1) := by decide +kernel
theorem dX10_goBack_56 : decode cX10_goBack 56 = .ok (.getfield 16, 3) := by decide +kernel
theorem dX10_goBack_59 : decode cX10_goBack 59 = .ok (.bipush 84, 2) := by decide +kernel
theorem dX10_goBack_61 : decode cX10_goBack 61 = .ok (.iload_n 1, 1) := by decide +kernel
theorem dX10_goBack_62 : decode cX10_goBack 62 = .ok (.imul, 1) := by decide +kernel
theorem dX10_goBack_63 : decode cX10_goBack 63 = .ok (.iload_n 2, 1) := by decide +kernel
theorem dX10_goBack_64 : decode cX10_goBack 64 = .ok (.iadd, 1) := by decide +kernel
theorem dX10_goBack_65 : decode cX10_goBack 65 = .ok (.iaload, 1) := by decide +kernel
theorem dX10_goBack_66 : decode cX10_goBack 66 = .ok (.iastore, 1) := by decide +kernel
theorem dX10_goBack_67 : decode cX10_goBack 67 = .ok (.iinc 2 1, 3) := by decide +kernel
theorem dX10_goBack_70 : decode cX10_goBack 70 = .ok (.goto (-26), 3) := by decide +kernel
theorem dX10_goBack_73 : decode cX10_goBack 73 = .ok (.return_, 1) := by decide +kernel
theorem dX10_undo_0 : decode cX10_undo 0 = .ok (.aload_n 0, 1) := by decide +kernel
theorem dX10_undo_1 : decode cX10_undo 1 = .ok (.aload_n 0, 1) := by decide +kernel
theorem dX10_undo_2 : decode cX10_undo 2 = .ok (.getfield 77, 3) := by decide +kernel
theorem dX10_undo_5 : decode cX10_undo 5 = .ok (.ifCond .ne 7, 3) := by decide +kernel
theorem dX10_undo_8 : decode cX10_undo 8 = .ok (.iconst 1, 1) := by decide +kernel
theorem dX10_undo_9 : decode cX10_undo 9 = .ok (.goto 4, 3) := by decide +kernel
theorem dX10_undo_12 : decode cX10_undo 12 = .ok (.iconst 0, 1) := by decide +kernel
theorem dX10_undo_13 : decode cX10_undo 13 = .ok (.putfield 69, 3) := by decide +kernel
theorem dX10_undo_16 : decode cX10_undo 16 = .ok (.aload_n 0, 1) := by decide +kernel
theorem dX10_undo_17 : decode cX10_undo 17 = .ok (.getfield 69, 3) := by decide +kernel
theorem dX10_undo_20 : decode cX10_undo 20 = .ok (.ifCond .ne 47, 3) := by decide +kernel
theorem dX10_undo_23 : decode cX10_undo 23 = .ok (.aload_n 0, 1) := by decide +kernel
theorem dX10_undo_24 : decode cX10_undo 24 = .ok (.dup, 1) := by decide +kernel
theorem dX10_undo_25 : decode cX10_undo 25 = .ok (.getfield 77, 3) := by decide +kernel
theorem dX10_undo_28 : decode cX10_undo 28 = .ok (.iconst 1, 1) := by decide +kernel
theorem dX10_undo_29 : decode cX10_undo 29 = .ok (.isub, 1) := by decide +kernel
theorem dX10_undo_30 : decode cX10_undo 30 = .ok (.putfield 77, 3) := by decide +kernel
theorem dX10_undo_33 : decode cX10_undo 33 = .ok (.iconst 0, 1) := by decide +kernel
theorem dX10_undo_34 : decode cX10_undo 34 = .ok (.istore_n 1, 1) := by decide +kernel
theorem dX10_undo_35 : decode cX10_undo 35 = .ok (.iload_n 1, 1) := by decide +kernel
theorem dX10_undo_36 : decode cX10_undo 36 = .ok (.bipush 84, 2) := by decide +kernel
theorem dX10_undo_38 : decode cX10_undo 38 = .ok (.if_icmp .ge 29, 3) := by decide +kernel
theorem dX10_undo_41 : decode cX10_undo 41 = .ok (.aload_n 0, 1) := by decide +kernel
theorem dX10_undo_42 : decode cX10_undo 42 = .ok (.getfield 7, 3) := by decide +kernel
theorem dX10_undo_45 : decode cX10_undo 45 = .ok (.iload_n 1, 1) := by decide +kernel
theorem dX10_undo_46 : decode cX10_undo 46 = .ok (.aload_n 0, 1) := by decide +kernel
theorem dX10_undo_47 : decode cX10_undo 47 = .ok (.getfield 13, 3) := by decide +kernel
theorem dX10_undo_50 : decode cX10_undo 50 = .ok (.bipush 84, 2) := by decide +kernel
theorem dX10_undo_52 : decode cX10_undo 52 = .ok (.aload_n 0, 1) := by decide +kernel
theorem dX10_undo_53 : decode cX10_undo 53 = .ok (.getfield 77, 3) := by decide +kernel
theorem dX10_undo_56 : decode cX10_undo 56 = .ok (.imul, 1) := by decide +kernel
theorem dX10_undo_57 : decode cX10_undo 57 = .ok (.iload_n 1, 1) := by decide +kernel
theorem dX10_undo_58 : decode cX10_undo 58 = .ok (.iadd, 1) := by decide +kernel
theorem dX10_undo_59 : decode cX10_undo 59 = .ok (.iaload, 1) := by decide +kernel
theorem dX10_undo_60 : decode cX10_undo 60 = .ok (.iastore, 1) := by decide +kernel
theorem dX10_undo_61 : decode cX10_undo 61 = .ok (.iinc 1 1, 3) := by decide +kernel
theorem dX10_undo_64 : decode cX10_undo 64 = .ok (.goto (-29), 3) := by decide +kernel
theorem dX10_undo_67 : decode cX10_undo 67 = .ok (.return_, 1) := by decide +kernel
theorem dX10_savedStates_0 : decode cX10_savedStates 0 = .ok (.aload_n 0, 1) := by decide +kernel
theorem dX10_savedStates_1 : decode cX10_savedStates 1 = .ok (.iconst 0, 1) := by decide +kernel
theorem dX10_savedStates_2 : decode cX10_savedStates 2 = .ok (.putfield 69, 3) := by decide +kernel
theorem dX10_savedStates_5 : decode cX10_savedStates 5 = .ok (.aload_n 0, 1) := by decide +kernel
theorem dX10_savedStates_6 : decode cX10_savedStates 6 = .ok (.getfield 77, 3) := by decide +kernel
theorem dX10_savedStates_9 : decode cX10_savedStates 9 = .ok (.ireturn, 1) := by decide +kernel
set_option maxRecDepth 20000 in
theorem ggX10_numberAt_X10_isThere : GoodIn wsX10_numberAt wsX10_isThere := goodIn_r _ [6, 1, 7, 8, 9, 5, 10, 11, 12, 13, 14, 15, 16, 17, 18, 19, 20, 21, 22, 23, 24, 25, 26, 27, 28, 29, 30, 31, 32, 33, 34, 35, 36, 37, 38, 39] (by decide +kernel) (by decide +kernel)
set_option maxRecDepth 20000 in
theorem gX10_numberAt_X10_isThere : GoodIn wsX10_numberAt (wsV RX10 184 RX10 yX10_isThere wsX10_isThere) := goodIn_app (goodIn_of _ (by decide +kernel)) ggX10_numberAt_X10_isThere
theorem dX10_numberAt_0 : decode cX10_numberAt 0 = .ok (.aload_n 0, 1) := by decide +kernel
theorem dX10_numberAt_1 : decode cX10_numberAt 1 = .ok (.iload_n 1, 1) := by decide +kernel
theorem dX10_numberAt_2 : decode cX10_numberAt 2 = .ok (.iload_n 2, 1) := by decide +kernel
theorem dX10_numberAt_3 : decode cX10_numberAt 3 = .ok (.iconst 0, 1) := by decide +kernel
theorem dX10_numberAt_4 : decode cX10_numberAt 4 = .ok (.invokevirtual 184, 3) := by decide +kernel
theorem dX10_numberAt_7 : decode cX10_numberAt 7 = .ok (.ifCond .eq 17, 3) := by decide +kernel
theorem dX10_numberAt_10 : decode cX10_numberAt 10 = .ok (.aload_n 0, 1) := by decide +kernel
theorem dX10_numberAt_11 : decode cX10_numberAt 11 = .ok (.getfield 7, 3) := by decide +kernel
theorem dX10_numberAt_14 : decode cX10_numberAt 14 = .ok (.bipush 7, 2) := by decide +kernel
theorem dX10_numberAt_16 : decode cX10_numberAt 16 = .ok (.iload_n 1, 1) := by decide +kernel
theorem dX10_numberAt_17 : decode cX10_numberAt 17 = .ok (.imul, 1) := by decide +kernel
theorem dX10_numberAt_18 : decode cX10_numberAt 18 = .ok (.iload_n 2, 1) := by decide +kernel
theorem dX10_numberAt_19 : decode cX10_numberAt 19 = .ok (.iadd, 1) := by decide +kernel
theorem dX10_numberAt_20 : decode cX10_numberAt 20 = .ok (.iaload, 1) := by decide +kernel
theorem dX10_numberAt_21 : decode cX10_numberAt 21 = .ok (.goto 4, 3) := by decide +kernel
theorem dX10_numberAt_24 : decode cX10_numberAt 24 = .ok (.iconst 0, 1) := by decide +kernel
theorem dX10_numberAt_25 : decode cX10_numberAt 25 = .ok (.ireturn, 1) := by decide +kernel
set_option maxRecDepth 20000 in
theorem ggX10_numbers_X10_numbered : GoodIn wsX10_numbers wsX10_numbered := goodIn_r _ [6, 7, 14, 15, 16, 17, 18, 19, 20, 21, 22, 23, 24, 25, 26, 27, 28, 29, 30, 31, 32, 33, 34, 35, 36, 37, 38, 39] (by decide +kernel) (by decide +kernel)
set_option maxRecDepth 20000 in
theorem gX10_numbers_X10_numbered : GoodIn wsX10_numbers (wsV RX10 84 RX10 yX10_numbered wsX10_numbered) := goodIn_app (goodIn_of _ (by decide +kernel)) ggX10_numbers_X10_numbered
set_option maxRecDepth 20000 in
theorem ggX10_numbers_X10_bits : GoodIn wsX10_numbers wsX10_bits := goodIn_r _ [10, 11, 12, 5, 13] (by decide +kernel) (by decide +kernel)
set_option maxRecDepth 20000 in
theorem gX10_numbers_X10_bits : GoodIn wsX10_numbers (va_wsS RX10 91 yX10_bits wsX10_bits) := goodIn_app (goodIn_of _ (by decide +kernel)) ggX10_numbers_X10_bits
theorem dX10_numbers_0 : decode cX10_numbers 0 = .ok (.aload_n 0, 1) := by decide +kernel
theorem dX10_numbers_1 : decode cX10_numbers 1 = .ok (.iconst 0, 1) := by decide +kernel
theorem dX10_numbers_2 : decode cX10_numbers 2 = .ok (.putfield 69, 3) := by decide +kernel
theorem dX10_numbers_5 : decode cX10_numbers 5 = .ok (.aload_n 0, 1) := by decide +kernel
theorem dX10_numbers_6 : decode cX10_numbers 6 = .ok (.invokevirtual 84, 3) := by decide +kernel
theorem dX10_numbers_9 : decode cX10_numbers 9 = .ok (.invokestatic 91, 3) := by decide +kernel
theorem dX10_numbers_12 : decode cX10_numbers 12 = .ok (.ireturn, 1) := by decide +kernel
theorem dX10_total_0 : decode cX10_total 0 = .ok (.iconst 0, 1) := by decide +kernel
theorem dX10_total_1 : decode cX10_total 1 = .ok (.istore_n 1, 1) := by decide +kernel
theorem dX10_total_2 : decode cX10_total 2 = .ok (.iconst 0, 1) := by decide +kernel
theorem dX10_total_3 : decode cX10_total 3 = .ok (.istore_n 2, 1) := by decide +kernel
theorem dX10_total_4 : decode cX10_total 4 = .ok (.iload_n 2, 1) := by decide +kernel
theorem dX10_total_5 : decode cX10_total 5 = .ok (.bipush 42, 2) := by decide +kernel
theorem dX10_total_7 : decode cX10_total 7 = .ok (.if_icmp .ge 18, 3) := by decide +kernel
theorem dX10_total_10 : decode cX10_total 10 = .ok (.iload_n 1, 1) := by decide +kernel
theorem dX10_total_11 : decode cX10_total 11 = .ok (.aload_n 0, 1) := by decide +kernel
theorem dX10_total_12 : decode cX10_total 12 = .ok (.getfield 7, 3) := by decide +kernel
theorem dX10_total_15 : decode cX10_total 15 = .ok (.iload_n 2, 1) := by decide +kernel
theorem dX10_total_16 : decode cX10_total 16 = .ok (.iaload, 1) := by decide +kernel
theorem dX10_total_17 : decode cX10_total 17 = .ok (.iadd, 1) := by decide +kernel
theorem dX10_total_18 : decode cX10_total 18 = .ok (.istore_n 1, 1) := by decide +kernel
theorem dX10_total_19 : decode cX10_total 19 = .ok (.iinc 2 1, 3) := by decide +kernel
theorem dX10_total_22 : decode cX10_total 22 = .ok (.goto (-18), 3) := by decide +kernel
theorem dX10_total_25 : decode cX10_total 25 = .ok (.iload_n 1, 1) := by decide +kernel
theorem dX10_total_26 : decode cX10_total 26 = .ok (.ireturn, 1) := by decide +kernel
set_option maxRecDepth 20000 in
theorem ggX10_sum_X10_total : GoodIn wsX10_sum wsX10_total := goodIn_r _ [6, 7, 8, 9, 10, 11, 12, 13, 14, 15, 16, 17, 18, 19, 20, 21, 22, 23, 24, 25, 26, 27, 28, 29, 30, 31, 32, 33] (by decide +kernel) (by decide +kernel)
set_option maxRecDepth 20000 in
theorem gX10_sum_X10_total : GoodIn wsX10_sum (wsV RX10 211 RX10 yX10_total wsX10_total) := goodIn_app (goodIn_of _ (by decide +kernel)) ggX10_sum_X10_total
theorem dX10_sum_0 : decode cX10_sum 0 = .ok (.aload_n 0, 1) := by decide +kernel
theorem dX10_sum_1 : decode cX10_sum 1 = .ok (.iconst 0, 1) := by decide +kernel
theorem dX10_sum_2 : decode cX10_sum 2 = .ok (.putfield 69, 3) := by decide +kernel
theorem dX10_sum_5 : decode cX10_sum 5 = .ok (.aload_n 0, 1) := by decide +kernel
theorem dX10_sum_6 : decode cX10_sum 6 = .ok (.invokevirtual 211, 3) := by decide +kernel
theorem dX10_sum_9 : decode cX10_sum 9 = .ok (.ireturn, 1) := by decide +kernel
set_option maxRecDepth 20000 in
theorem ggX10_isInField_X10_isThere : GoodIn wsX10_isInField wsX10_isThere := goodIn_r _ [6, 1, 7, 8, 9, 5, 10, 11, 12, 13, 14, 15, 16, 17, 18, 19, 20, 21, 22, 23, 24, 25, 26, 27, 28, 29, 30, 31, 32, 33, 34, 35, 36, 37, 38, 39] (by decide +kernel) (by decide +kernel)
set_option maxRecDepth 20000 in
theorem gX10_isInField_X10_isThere : GoodIn wsX10_isInField (wsV RX10 184 RX10 yX10_isThere wsX10_isThere) := goodIn_app (goodIn_of _ (by decide +kernel)) ggX10_isInField_X10_isThere
theorem dX10_isInField_0 : decode cX10_isInField 0 = .ok (.aload_n 0, 1) := by decide +kernel
theorem dX10_isInField_1 : decode cX10_isInField 1 = .ok (.iload_n 1, 1) := by decide +kernel
theorem dX10_isInField_2 : decode cX10_isInField 2 = .ok (.iload_n 2, 1) := by decide +kernel
theorem dX10_isInField_3 : decode cX10_isInField 3 = .ok (.iconst 0, 1) := by decide +kernel
theorem dX10_isInField_4 : decode cX10_isInField 4 = .ok (.invokevirtual 184, 3) := by decide +kernel
theorem dX10_isInField_7 : decode cX10_isInField 7 = .ok (.ifCond .eq 24, 3) := by decide +kernel
theorem dX10_isInField_10 : decode cX10_isInField 10 = .ok (.aload_n 0, 1) := by decide +kernel
theorem dX10_isInField_11 : decode cX10_isInField 11 = .ok (.getfield 7, 3) := by decide +kernel
theorem dX10_isInField_14 : decode cX10_isInField 14 = .ok (.bipush 42, 2) := by decide +kernel
theorem dX10_isInField_16 : decode cX10_isInField 16 = .ok (.bipush 7, 2) := by decide +kernel
theorem dX10_isInField_18 : decode cX10_isInField 18 = .ok (.iload_n 1, 1) := by decide +kernel
theorem dX10_isInField_19 : decode cX10_isInField 19 = .ok (.imul, 1) := by decide +kernel
theorem dX10_isInField_20 : decode cX10_isInField 20 = .ok (.iadd, 1) := by decide +kernel
theorem dX10_isInField_21 : decode cX10_isInField 21 = .ok (.iload_n 2, 1) := by decide +kernel
theorem dX10_isInField_22 : decode cX10_isInField 22 = .ok (.iadd, 1) := by decide +kernel
theorem dX10_isInField_23 : decode cX10_isInField 23 = .ok (.iaload, 1) := by decide +kernel
theorem dX10_isInField_24 : decode cX10_isInField 24 = .ok (.ifCond .le 7, 3) := by decide +kernel
theorem dX10_isInField_27 : decode cX10_isInField 27 = .ok (.iconst 1, 1) := by decide +kernel
theorem dX10_isInField_28 : decode cX10_isInField 28 = .ok (.goto 4, 3) := by decide +kernel
theorem dX10_isInField_31 : decode cX10_isInField 31 = .ok (.iconst 0, 1) := by decide +kernel
theorem dX10_isInField_32 : decode cX10_isInField 32 = .ok (.ireturn, 1) := by decide +kernel
set_option maxRecDepth 20000 in
theorem ggX10_fieldSize_X10_isThere : GoodIn wsX10_fieldSize wsX10_isThere := goodIn_r _ [5, 6, 7, 8, 9, 4, 10, 11, 12, 13, 24, 25, 26, 27, 28, 29, 30, 31, 32, 33, 34, 35, 36, 37, 38, 39, 40, 41, 42, 43, 44, 45, 46, 47, 48, 49] (by decide +kernel) (by decide +kernel)
set_option maxRecDepth 20000 in
theorem gX10_fieldSize_X10_isThere : GoodIn wsX10_fieldSize (wsV RX10 184 RX10 yX10_isThere wsX10_isThere) := goodIn_app (goodIn_of _ (by decide +kernel)) ggX10_fieldSize_X10_isThere
set_option maxRecDepth 20000 in
theorem ggX10_fieldSize_X10_fieldOf : GoodIn wsX10_fieldSize wsX10_fieldOf := goodIn_r _ [17, 6, 24, 25, 26, 27, 28, 29, 30, 31, 32, 33, 34, 35, 36, 37, 38, 39, 40, 41, 42, 43, 44, 45, 46, 47, 48, 49] (by decide +kernel) (by decide +kernel)
set_option maxRecDepth 20000 in
theorem gX10_fieldSize_X10_fieldOf : GoodIn wsX10_fieldSize (wsV RX10 133 RX10 yX10_fieldOf wsX10_fieldOf) := goodIn_app (goodIn_of _ (by decide +kernel)) ggX10_fieldSize_X10_fieldOf
set_option maxRecDepth 20000 in
theorem ggX10_fieldSize_X10_bits : GoodIn wsX10_fieldSize wsX10_bits := goodIn_r _ [20, 21, 22, 4, 23] (by decide +kernel) (by decide +kernel)
set_option maxRecDepth 20000 in
theorem gX10_fieldSize_X10_bits : GoodIn wsX10_fieldSize (va_wsS RX10 91 yX10_bits wsX10_bits) := goodIn_app (goodIn_of _ (by decide +kernel)) ggX10_fieldSize_X10_bits
theorem dX10_fieldSize_0 : decode cX10_fieldSize 0 = .ok (.aload_n 0, 1) := by decide +kernel
theorem dX10_fieldSize_1 : decode cX10_fieldSize 1 = .ok (.iload_n 1, 1) := by decide +kernel
theorem dX10_fieldSize_2 : decode cX10_fieldSize 2 = .ok (.iload_n 2, 1) := by decide +kernel
theorem dX10_fieldSize_3 : decode cX10_fieldSize 3 = .ok (.iconst 1, 1) := by decide +kernel
theorem dX10_fieldSize_4 : decode cX10_fieldSize 4 = .ok (.invokevirtual 184, 3) := by decide +kernel
theorem dX10_fieldSize_7 : decode cX10_fieldSize 7 = .ok (.ifCond .eq 19, 3) := by decide +kernel
theorem dX10_fieldSize_10 : decode cX10_fieldSize 10 = .ok (.aload_n 0, 1) := by decide +kernel
theorem dX10_fieldSize_11 : decode cX10_fieldSize 11 = .ok (.bipush 7, 2) := by decide +kernel
theorem dX10_fieldSize_13 : decode cX10_fieldSize 13 = .ok (.iload_n 1, 1) := by decide +kernel
theorem dX10_fieldSize_14 : decode cX10_fieldSize 14 = .ok (.imul, 1) := by decide +kernel
theorem dX10_fieldSize_15 : decode cX10_fieldSize 15 = .ok (.iload_n 2, 1) := by decide +kernel
theorem dX10_fieldSize_16 : decode cX10_fieldSize 16 = .ok (.iadd, 1) := by decide +kernel
theorem dX10_fieldSize_17 : decode cX10_fieldSize 17 = .ok (.invokevirtual 133, 3) := by decide +kernel
theorem dX10_fieldSize_20 : decode cX10_fieldSize 20 = .ok (.invokestatic 91, 3) := by decide +kernel
theorem dX10_fieldSize_23 : decode cX10_fieldSize 23 = .ok (.goto 4, 3) := by decide +kernel
theorem dX10_fieldSize_26 : decode cX10_fieldSize 26 = .ok (.iconst 0, 1) := by decide +kernel
theorem dX10_fieldSize_27 : decode cX10_fieldSize 27 = .ok (.ireturn, 1) := by decide +kernel
set_option maxRecDepth 20000 in
theorem ggX10_cornerOf_X10_isThere : GoodIn wsX10_cornerOf wsX10_isThere := goodIn_r _ [6, 1, 7, 8, 9, 5, 10, 11, 12, 13, 14, 15, 16, 17, 18, 19, 20, 21, 22, 23, 24, 25, 26, 27, 28, 29, 30, 31, 32, 33, 34, 35, 36, 37, 38, 39] (by decide +kernel) (by decide +kernel)
set_option maxRecDepth 20000 in
theorem gX10_cornerOf_X10_isThere : GoodIn wsX10_cornerOf (wsV RX10 184 RX10 yX10_isThere wsX10_isThere) := goodIn_app (goodIn_of _ (by decide +kernel)) ggX10_cornerOf_X10_isThere
theorem dX10_cornerOf_0 : decode cX10_cornerOf 0 = .ok (.aload_n 0, 1) := by decide +kernel
theorem dX10_cornerOf_1 : decode cX10_cornerOf 1 = .ok (.iload_n 1, 1) := by decide +kernel
theorem dX10_cornerOf_2 : decode cX10_cornerOf 2 = .ok (.iload_n 2, 1) := by decide +kernel
theorem dX10_cornerOf_3 : decode cX10_cornerOf 3 = .ok (.iconst 1, 1) := by decide +kernel
theorem dX10_cornerOf_4 : decode cX10_cornerOf 4 = .ok (.invokevirtual 184, 3) := by decide +kernel
theorem dX10_cornerOf_7 : decode cX10_cornerOf 7 = .ok (.ifCond .eq 22, 3) := by decide +kernel
theorem dX10_cornerOf_10 : decode cX10_cornerOf 10 = .ok (.aload_n 0, 1) := by decide +kernel
theorem dX10_cornerOf_11 : decode cX10_cornerOf 11 = .ok (.getfield 7, 3) := by decide +kernel
theorem dX10_cornerOf_14 : decode cX10_cornerOf 14 = .ok (.bipush 42, 2) := by decide +kernel
theorem dX10_cornerOf_16 : decode cX10_cornerOf 16 = .ok (.bipush 7, 2) := by decide +kernel
theorem dX10_cornerOf_18 : decode cX10_cornerOf 18 = .ok (.iload_n 1, 1) := by decide +kernel
theorem dX10_cornerOf_19 : decode cX10_cornerOf 19 = .ok (.imul, 1) := by decide +kernel
theorem dX10_cornerOf_20 : decode cX10_cornerOf 20 = .ok (.iadd, 1) := by decide +kernel
theorem dX10_cornerOf_21 : decode cX10_cornerOf 21 = .ok (.iload_n 2, 1) := by decide +kernel
theorem dX10_cornerOf_22 : decode cX10_cornerOf 22 = .ok (.iadd, 1) := by decide +kernel
theorem dX10_cornerOf_23 : decode cX10_cornerOf 23 = .ok (.iaload, 1) := by decide +kernel
theorem dX10_cornerOf_24 : decode cX10_cornerOf 24 = .ok (.iconst 1, 1) := by decide +kernel
theorem dX10_cornerOf_25 : decode cX10_cornerOf 25 = .ok (.isub, 1) := by decide +kernel
theorem dX10_cornerOf_26 : decode cX10_cornerOf 26 = .ok (.goto 4, 3) := by decide +kernel
theorem dX10_cornerOf_29 : decode cX10_cornerOf 29 = .ok (.iconst 0, 1) := by decide +kernel
theorem dX10_cornerOf_30 : decode cX10_cornerOf 30 = .ok (.ireturn, 1) := by decide +kernel
set_option maxRecDepth 20000 in
theorem ggX10_fields_X10_allFields : GoodIn wsX10_fields wsX10_allFields := goodIn_r _ [6, 7, 8, 9, 10, 11, 12, 13, 14, 15, 16, 17, 18, 19, 20, 21, 22, 23, 24, 25, 26, 27, 28, 29, 30, 31, 32, 33] (by decide +kernel) (by decide +kernel)
set_option maxRecDepth 20000 in
theorem gX10_fields_X10_allFields : GoodIn wsX10_fields (wsV RX10 188 RX10 yX10_allFields wsX10_allFields) := goodIn_app (goodIn_of _ (by decide +kernel)) ggX10_fields_X10_allFields
theorem dX10_fields_0 : decode cX10_fields 0 = .ok (.aload_n 0, 1) := by decide +kernel
theorem dX10_fields_1 : decode cX10_fields 1 = .ok (.iconst 0, 1) := by decide +kernel
theorem dX10_fields_2 : decode cX10_fields 2 = .ok (.putfield 69, 3) := by decide +kernel
theorem dX10_fields_5 : decode cX10_fields 5 = .ok (.aload_n 0, 1) := by decide +kernel
theorem dX10_fields_6 : decode cX10_fields 6 = .ok (.invokevirtual 188, 3) := by decide +kernel
theorem dX10_fields_9 : decode cX10_fields 9 = .ok (.ireturn, 1) := by decide +kernel
set_option maxRecDepth 20000 in
theorem ggX10_openCells_X10_taken : GoodIn wsX10_openCells wsX10_taken := goodIn_r _ [6, 7, 14, 15, 16, 17, 18, 19, 20, 21, 22, 23, 24, 25, 26, 27, 28, 29, 30, 31, 32, 33, 34, 35, 36, 37, 38, 39] (by decide +kernel) (by decide +kernel)
set_option maxRecDepth 20000 in
theorem gX10_openCells_X10_taken : GoodIn wsX10_openCells (wsV RX10 88 RX10 yX10_taken wsX10_taken) := goodIn_app (goodIn_of _ (by decide +kernel)) ggX10_openCells_X10_taken
set_option maxRecDepth 20000 in
theorem ggX10_openCells_X10_bits : GoodIn wsX10_openCells wsX10_bits := goodIn_r _ [10, 11, 12, 5, 13] (by decide +kernel) (by decide +kernel)
set_option maxRecDepth 20000 in
theorem gX10_openCells_X10_bits : GoodIn wsX10_openCells (va_wsS RX10 91 yX10_bits wsX10_bits) := goodIn_app (goodIn_of _ (by decide +kernel)) ggX10_openCells_X10_bits
theorem dX10_openCells_0 : decode cX10_openCells 0 = .ok (.aload_n 0, 1) := by decide +kernel
theorem dX10_openCells_1 : decode cX10_openCells 1 = .ok (.iconst 0, 1) := by decide +kernel
theorem dX10_openCells_2 : decode cX10_openCells 2 = .ok (.putfield 69, 3) := by decide +kernel
theorem dX10_openCells_5 : decode cX10_openCells 5 = .ok (.bipush 42, 2) := by decide +kernel
theorem dX10_openCells_7 : decode cX10_openCells 7 = .ok (.aload_n 0, 1) := by decide +kernel
theorem dX10_openCells_8 : decode cX10_openCells 8 = .ok (.invokevirtual 88, 3) := by decide +kernel
theorem dX10_openCells_11 : decode cX10_openCells 11 = .ok (.invokestatic 91, 3) := by decide +kernel
theorem dX10_openCells_14 : decode cX10_openCells 14 = .ok (.isub, 1) := by decide +kernel
theorem dX10_openCells_15 : decode cX10_openCells 15 = .ok (.ireturn, 1) := by decide +kernel
set_option maxRecDepth 20000 in
theorem ggX10_isFull_X10_taken : GoodIn wsX10_isFull wsX10_taken := goodIn_r _ [7, 8, 9, 10, 11, 12, 13, 14, 15, 16, 17, 18, 19, 20, 21, 22, 23, 24, 25, 26, 27, 28, 29, 30, 31, 32, 33, 34] (by decide +kernel) (by decide +kernel)
set_option maxRecDepth 20000 in
theorem gX10_isFull_X10_taken : GoodIn wsX10_isFull (wsV RX10 88 RX10 yX10_taken wsX10_taken) := goodIn_app (goodIn_of _ (by decide +kernel)) ggX10_isFull_X10_taken
theorem dX10_isFull_0 : decode cX10_isFull 0 = .ok (.aload_n 0, 1) := by decide +kernel
theorem dX10_isFull_1 : decode cX10_isFull 1 = .ok (.iconst 0, 1) := by decide +kernel
theorem dX10_isFull_2 : decode cX10_isFull 2 = .ok (.putfield 69, 3) := by decide +kernel
theorem dX10_isFull_5 : decode cX10_isFull 5 = .ok (.aload_n 0, 1) := by decide +kernel
theorem dX10_isFull_6 : decode cX10_isFull 6 = .ok (.invokevirtual 88, 3) := by decide +kernel
theorem dX10_isFull_9 : decode cX10_isFull 9 = .ok (.ldc2_w 109, 3) := by decide +kernel
theorem dX10_isFull_12 : decode cX10_isFull 12 = .ok (.lcmp, 1) := by decide +kernel
theorem dX10_isFull_13 : decode cX10_isFull 13 = .ok (.ifCond .ne 7, 3) := by decide +kernel
theorem dX10_isFull_16 : decode cX10_isFull 16 = .ok (.iconst 1, 1) := by decide +kernel
theorem dX10_isFull_17 : decode cX10_isFull 17 = .ok (.goto 4, 3) := by decide +kernel
theorem dX10_isFull_20 : decode cX10_isFull 20 = .ok (.iconst 0, 1) := by decide +kernel
theorem dX10_isFull_21 : decode cX10_isFull 21 = .ok (.ireturn, 1) := by decide +kernel
set_option maxRecDepth 20000 in
theorem ggX10_reasonAgainst_X10_isRectangle : GoodIn wsX10_reasonAgainst wsX10_isRectangle := goodIn_r _ [5, 6, 7, 4, 8, 9, 10, 11] (by decide +kernel) (by decide +kernel)
set_option maxRecDepth 20000 in
theorem gX10_reasonAgainst_X10_isRectangle : GoodIn wsX10_reasonAgainst (va_wsS RX10 173 yX10_isRectangle wsX10_isRectangle) := goodIn_app (goodIn_of _ (by decide +kernel)) ggX10_reasonAgainst_X10_isRectangle
set_option maxRecDepth 20000 in
theorem ggX10_reasonAgainst_X10_rectangle : GoodIn wsX10_reasonAgainst wsX10_rectangle := goodIn_r _ [14] (by decide +kernel) (by decide +kernel)
set_option maxRecDepth 20000 in
theorem gX10_reasonAgainst_X10_rectangle : GoodIn wsX10_reasonAgainst (va_wsS RX10 98 yX10_rectangle wsX10_rectangle) := goodIn_app (goodIn_of _ (by decide +kernel)) ggX10_reasonAgainst_X10_rectangle
set_option maxRecDepth 20000 in
theorem ggX10_reasonAgainst_X10_against : GoodIn wsX10_reasonAgainst wsX10_against := goodIn_r _ [18, 19, 20, 21, 22, 4, 23, 24, 25, 26, 27, 28, 29, 30, 31, 32, 33, 34, 35, 36, 41, 42, 43, 44, 45, 46, 47, 48, 49, 50, 51, 52, 53, 54, 55, 56, 57, 58, 59, 60, 61, 62, 63, 64, 65, 66] (by decide +kernel) (by decide +kernel)
set_option maxRecDepth 20000 in
theorem gX10_reasonAgainst_X10_against : GoodIn wsX10_reasonAgainst (wsV RX10 177 RX10 yX10_against wsX10_against) := goodIn_app (goodIn_of _ (by decide +kernel)) ggX10_reasonAgainst_X10_against
set_option maxRecDepth 20000 in
theorem ggX10_reasonAgainst_X10_throwing : GoodIn wsX10_reasonAgainst wsX10_throwing := goodIn_r _ [40, 1, 41, 42, 43, 44, 45, 46, 47, 48, 49, 50, 51, 52, 53, 54, 55, 56, 57, 58, 59, 60, 61, 62, 63, 64, 65, 66] (by decide +kernel) (by decide +kernel)
set_option maxRecDepth 20000 in
theorem gX10_reasonAgainst_X10_throwing : GoodIn wsX10_reasonAgainst (wsV RX10 161 RX10 yX10_throwing wsX10_throwing) := goodIn_app (goodIn_of _ (by decide +kernel)) ggX10_reasonAgainst_X10_throwing
theorem dX10_reasonAgainst_0 : decode cX10_reasonAgainst 0 = .ok (.aload_n 0, 1) := by decide +kernel
theorem dX10_reasonAgainst_1 : decode cX10_reasonAgainst 1 = .ok (.iconst 0, 1) := by decide +kernel
theorem dX10_reasonAgainst_2 : decode cX10_reasonAgainst 2 = .ok (.putfield 69, 3) := by decide +kernel
theorem dX10_reasonAgainst_5 : decode cX10_reasonAgainst 5 = .ok (.iload_n 1, 1) := by decide +kernel
theorem dX10_reasonAgainst_6 : decode cX10_reasonAgainst 6 = .ok (.iload_n 2, 1) := by decide +kernel
theorem dX10_reasonAgainst_7 : decode cX10_reasonAgainst 7 = .ok (.iload_n 3, 1) := by decide +kernel
theorem dX10_reasonAgainst_8 : decode cX10_reasonAgainst 8 = .ok (.iload 4, 2) := by decide +kernel
theorem dX10_reasonAgainst_10 : decode cX10_reasonAgainst 10 = .ok (.invokestatic 173, 3) := by decide +kernel
theorem dX10_reasonAgainst_13 : decode cX10_reasonAgainst 13 = .ok (.ifCond .eq 18, 3) := by decide +kernel
theorem dX10_reasonAgainst_16 : decode cX10_reasonAgainst 16 = .ok (.aload_n 0, 1) := by decide +kernel
theorem dX10_reasonAgainst_17 : decode cX10_reasonAgainst 17 = .ok (.iload_n 1, 1) := by decide +kernel
theorem dX10_reasonAgainst_18 : decode cX10_reasonAgainst 18 = .ok (.iload_n 2, 1) := by decide +kernel
theorem dX10_reasonAgainst_19 : decode cX10_reasonAgainst 19 = .ok (.iload_n 3, 1) := by decide +kernel
theorem dX10_reasonAgainst_20 : decode cX10_reasonAgainst 20 = .ok (.iload 4, 2) := by decide +kernel
theorem dX10_reasonAgainst_22 : decode cX10_reasonAgainst 22 = .ok (.invokestatic 98, 3) := by decide +kernel
theorem dX10_reasonAgainst_25 : decode cX10_reasonAgainst 25 = .ok (.invokevirtual 177, 3) := by decide +kernel
theorem dX10_reasonAgainst_28 : decode cX10_reasonAgainst 28 = .ok (.goto 8, 3) := by decide +kernel
theorem dX10_reasonAgainst_31 : decode cX10_reasonAgainst 31 = .ok (.aload_n 0, 1) := by decide +kernel
theorem dX10_reasonAgainst_32 : decode cX10_reasonAgainst 32 = .ok (.iconst 1, 1) := by decide +kernel
theorem dX10_reasonAgainst_33 : decode cX10_reasonAgainst 33 = .ok (.invokevirtual 161, 3) := by decide +kernel
theorem dX10_reasonAgainst_36 : decode cX10_reasonAgainst 36 = .ok (.ireturn, 1) := by decide +kernel
theorem dX10_countOf_0 : decode cX10_countOf 0 = .ok (.iconst 0, 1) := by decide +kernel
theorem dX10_countOf_1 : decode cX10_countOf 1 = .ok (.istore_n 2, 1) := by decide +kernel
theorem dX10_countOf_2 : decode cX10_countOf 2 = .ok (.iconst 0, 1) := by decide +kernel
theorem dX10_countOf_3 : decode cX10_countOf 3 = .ok (.istore_n 3, 1) := by decide +kernel
theorem dX10_countOf_4 : decode cX10_countOf 4 = .ok (.iload_n 3, 1) := by decide +kernel
theorem dX10_countOf_5 : decode cX10_countOf 5 = .ok (.aload_n 0, 1) := by decide +kernel
theorem dX10_countOf_6 : decode cX10_countOf 6 = .ok (.getfield 102, 3) := by decide +kernel
theorem dX10_countOf_9 : decode cX10_countOf 9 = .ok (.if_icmp .ge 27, 3) := by decide +kernel
theorem dX10_countOf_12 : decode cX10_countOf 12 = .ok (.iload_n 2, 1) := by decide +kernel
theorem dX10_countOf_13 : decode cX10_countOf 13 = .ok (.aload_n 0, 1) := by decide +kernel
theorem dX10_countOf_14 : decode cX10_countOf 14 = .ok (.getfield 30, 3) := by decide +kernel
theorem dX10_countOf_17 : decode cX10_countOf 17 = .ok (.iload_n 3, 1) := by decide +kernel
theorem dX10_countOf_18 : decode cX10_countOf 18 = .ok (.iaload, 1) := by decide +kernel
theorem dX10_countOf_19 : decode cX10_countOf 19 = .ok (.iload_n 1, 1) := by decide +kernel
theorem dX10_countOf_20 : decode cX10_countOf 20 = .ok (.if_icmp .ne 7, 3) := by decide +kernel
theorem dX10_countOf_23 : decode cX10_countOf 23 = .ok (.iconst 1, 1) := by decide +kernel
theorem dX10_countOf_24 : decode cX10_countOf 24 = .ok (.goto 4, 3) := by decide +kernel
theorem dX10_countOf_27 : decode cX10_countOf 27 = .ok (.iconst 0, 1) := by decide +kernel
theorem dX10_countOf_28 : decode cX10_countOf 28 = .ok (.iadd, 1) := by decide +kernel
theorem dX10_countOf_29 : decode cX10_countOf 29 = .ok (.istore_n 2, 1) := by decide +kernel
theorem dX10_countOf_30 : decode cX10_countOf 30 = .ok (.iinc 3 1, 3) := by decide +kernel
theorem dX10_countOf_33 : decode cX10_countOf 33 = .ok (.goto (-29), 3) := by decide +kernel
theorem dX10_countOf_36 : decode cX10_countOf 36 = .ok (.iload_n 2, 1) := by decide +kernel
theorem dX10_countOf_37 : decode cX10_countOf 37 = .ok (.ireturn, 1) := by decide +kernel
set_option maxRecDepth 20000 in
theorem ggX10_possibleFor_X10_isThere : GoodIn wsX10_possibleFor wsX10_isThere := goodIn_r _ [5, 6, 7, 8, 9, 4, 10, 11, 12, 13, 42, 43, 44, 45, 46, 47, 48, 49, 50, 51, 52, 53, 54, 55, 56, 57, 58, 59, 60, 61, 62, 63, 64, 65, 66, 67] (by decide +kernel) (by decide +kernel)
set_option maxRecDepth 20000 in
theorem gX10_possibleFor_X10_isThere : GoodIn wsX10_possibleFor (wsV RX10 184 RX10 yX10_isThere wsX10_isThere) := goodIn_app (goodIn_of _ (by decide +kernel)) ggX10_possibleFor_X10_isThere
set_option maxRecDepth 20000 in
theorem ggX10_possibleFor_X10_finds : GoodIn wsX10_possibleFor wsX10_finds := goodIn_r _ [17, 18, 19, 6, 20, 21, 22, 4, 23, 24, 25, 26, 27, 28, 29, 30, 31, 32, 33, 34, 35, 36, 37, 42, 43, 44, 45, 46, 47, 48, 49, 50, 51, 52, 53, 54, 55, 56, 57, 58, 59, 60, 61, 62, 63, 64, 65, 66, 67] (by decide +kernel) (by decide +kernel)
set_option maxRecDepth 20000 in
theorem gX10_possibleFor_X10_finds : GoodIn wsX10_possibleFor (wsV RX10 113 RX10 yX10_finds wsX10_finds) := goodIn_app (goodIn_of _ (by decide +kernel)) ggX10_possibleFor_X10_finds
set_option maxRecDepth 20000 in
theorem ggX10_possibleFor_X10_countOf : GoodIn wsX10_possibleFor wsX10_countOf := goodIn_r _ [41, 18, 33, 42, 43, 44, 45, 46, 47, 48, 49, 50, 51, 52, 53, 54, 55, 56, 57, 58, 59, 60, 61, 62, 63, 64, 65, 66, 67] (by decide +kernel) (by decide +kernel)
set_option maxRecDepth 20000 in
theorem gX10_possibleFor_X10_countOf : GoodIn wsX10_possibleFor (wsV RX10 214 RX10 yX10_countOf wsX10_countOf) := goodIn_app (goodIn_of _ (by decide +kernel)) ggX10_possibleFor_X10_countOf
theorem dX10_possibleFor_0 : decode cX10_possibleFor 0 = .ok (.aload_n 0, 1) := by decide +kernel
theorem dX10_possibleFor_1 : decode cX10_possibleFor 1 = .ok (.iload_n 1, 1) := by decide +kernel
theorem dX10_possibleFor_2 : decode cX10_possibleFor 2 = .ok (.iload_n 2, 1) := by decide +kernel
theorem dX10_possibleFor_3 : decode cX10_possibleFor 3 = .ok (.iconst 0, 1) := by decide +kernel
theorem dX10_possibleFor_4 : decode cX10_possibleFor 4 = .ok (.invokevirtual 184, 3) := by decide +kernel
theorem dX10_possibleFor_7 : decode cX10_possibleFor 7 = .ok (.ifCond .ne 5, 3) := by decide +kernel
theorem dX10_possibleFor_10 : decode cX10_possibleFor 10 = .ok (.iconst 0, 1) := by decide +kernel
theorem dX10_possibleFor_11 : decode cX10_possibleFor 11 = .ok (.ireturn, 1) := by decide +kernel
theorem dX10_possibleFor_12 : decode cX10_possibleFor 12 = .ok (.aload_n 0, 1) := by decide +kernel
theorem dX10_possibleFor_13 : decode cX10_possibleFor 13 = .ok (.invokevirtual 113, 3) := by decide +kernel
theorem dX10_possibleFor_16 : decode cX10_possibleFor 16 = .ok (.aload_n 0, 1) := by decide +kernel
theorem dX10_possibleFor_17 : decode cX10_possibleFor 17 = .ok (.bipush 7, 2) := by decide +kernel
theorem dX10_possibleFor_19 : decode cX10_possibleFor 19 = .ok (.iload_n 1, 1) := by decide +kernel
theorem dX10_possibleFor_20 : decode cX10_possibleFor 20 = .ok (.imul, 1) := by decide +kernel
theorem dX10_possibleFor_21 : decode cX10_possibleFor 21 = .ok (.iload_n 2, 1) := by decide +kernel
theorem dX10_possibleFor_22 : decode cX10_possibleFor 22 = .ok (.iadd, 1) := by decide +kernel
theorem dX10_possibleFor_23 : decode cX10_possibleFor 23 = .ok (.invokevirtual 214, 3) := by decide +kernel
theorem dX10_possibleFor_26 : decode cX10_possibleFor 26 = .ok (.ireturn, 1) := by decide +kernel
set_option maxRecDepth 20000 in
theorem ggX10_possibleAt_X10_isThere : GoodIn wsX10_possibleAt wsX10_isThere := goodIn_r _ [8, 9, 10, 11, 12, 7, 13, 14, 15, 16, 42, 43, 44, 45, 46, 47, 48, 49, 50, 51, 52, 53, 54, 55, 56, 57, 58, 59, 60, 61, 62, 63, 64, 65, 66, 67] (by decide +kernel) (by decide +kernel)
set_option maxRecDepth 20000 in
theorem gX10_possibleAt_X10_isThere : GoodIn wsX10_possibleAt (wsV RX10 184 RX10 yX10_isThere wsX10_isThere) := goodIn_app (goodIn_of _ (by decide +kernel)) ggX10_possibleAt_X10_isThere
set_option maxRecDepth 20000 in
theorem ggX10_possibleAt_X10_finds : GoodIn wsX10_possibleAt wsX10_finds := goodIn_r _ [20, 1, 21, 9, 22, 23, 24, 7, 25, 26, 27, 28, 29, 30, 31, 32, 33, 34, 2, 3, 35, 36, 37, 42, 43, 44, 45, 46, 47, 48, 49, 50, 51, 52, 53, 54, 55, 56, 57, 58, 59, 60, 61, 62, 63, 64, 65, 66, 67] (by decide +kernel) (by decide +kernel)
set_option maxRecDepth 20000 in
theorem gX10_possibleAt_X10_finds : GoodIn wsX10_possibleAt (wsV RX10 113 RX10 yX10_finds wsX10_finds) := goodIn_app (goodIn_of _ (by decide +kernel)) ggX10_possibleAt_X10_finds
set_option maxRecDepth 20000 in
theorem ggX10_possibleAt_X10_throwing : GoodIn wsX10_possibleAt wsX10_throwing := goodIn_r _ [41, 10, 42, 43, 44, 45, 46, 47, 48, 49, 50, 51, 52, 53, 54, 55, 56, 57, 58, 59, 60, 61, 62, 63, 64, 65, 66, 67] (by decide +kernel) (by decide +kernel)
set_option maxRecDepth 20000 in
theorem gX10_possibleAt_X10_throwing : GoodIn wsX10_possibleAt (wsV RX10 161 RX10 yX10_throwing wsX10_throwing) := goodIn_app (goodIn_of _ (by decide +kernel)) ggX10_possibleAt_X10_throwing
theorem dX10_possibleAt_0 : decode cX10_possibleAt 0 = .ok (.aload_n 0, 1) := by decide +kernel
theorem dX10_possibleAt_1 : decode cX10_possibleAt 1 = .ok (.iload_n 1, 1) := by decide +kernel
theorem dX10_possibleAt_2 : decode cX10_possibleAt 2 = .ok (.iload_n 2, 1) := by decide +kernel
theorem dX10_possibleAt_3 : decode cX10_possibleAt 3 = .ok (.iconst 0, 1) := by decide +kernel
theorem dX10_possibleAt_4 : decode cX10_possibleAt 4 = .ok (.invokevirtual 184, 3) := by decide +kernel
theorem dX10_possibleAt_7 : decode cX10_possibleAt 7 = .ok (.ifCond .ne 5, 3) := by decide +kernel
theorem dX10_possibleAt_10 : decode cX10_possibleAt 10 = .ok (.iconst 0, 1) := by decide +kernel
theorem dX10_possibleAt_11 : decode cX10_possibleAt 11 = .ok (.ireturn, 1) := by decide +kernel
theorem dX10_possibleAt_12 : decode cX10_possibleAt 12 = .ok (.aload_n 0, 1) := by decide +kernel
theorem dX10_possibleAt_13 : decode cX10_possibleAt 13 = .ok (.invokevirtual 113, 3) := by decide +kernel
theorem dX10_possibleAt_16 : decode cX10_possibleAt 16 = .ok (.iload_n 3, 1) := by decide +kernel
theorem dX10_possibleAt_17 : decode cX10_possibleAt 17 = .ok (.istore 4, 2) := by decide +kernel
theorem dX10_possibleAt_19 : decode cX10_possibleAt 19 = .ok (.iconst 0, 1) := by decide +kernel
theorem dX10_possibleAt_20 : decode cX10_possibleAt 20 = .ok (.istore 5, 2) := by decide +kernel
theorem dX10_possibleAt_22 : decode cX10_possibleAt 22 = .ok (.iload 5, 2) := by decide +kernel
theorem dX10_possibleAt_24 : decode cX10_possibleAt 24 = .ok (.aload_n 0, 1) := by decide +kernel
theorem dX10_possibleAt_25 : decode cX10_possibleAt 25 = .ok (.getfield 102, 3) := by decide +kernel
theorem dX10_possibleAt_28 : decode cX10_possibleAt 28 = .ok (.if_icmp .ge 41, 3) := by decide +kernel
theorem dX10_possibleAt_31 : decode cX10_possibleAt 31 = .ok (.aload_n 0, 1) := by decide +kernel
theorem dX10_possibleAt_32 : decode cX10_possibleAt 32 = .ok (.getfield 30, 3) := by decide +kernel
theorem dX10_possibleAt_35 : decode cX10_possibleAt 35 = .ok (.iload 5, 2) := by decide +kernel
theorem dX10_possibleAt_37 : decode cX10_possibleAt 37 = .ok (.iaload, 1) := by decide +kernel
theorem dX10_possibleAt_38 : decode cX10_possibleAt 38 = .ok (.bipush 7, 2) := by decide +kernel
theorem dX10_possibleAt_40 : decode cX10_possibleAt 40 = .ok (.iload_n 1, 1) := by decide +kernel
theorem dX10_possibleAt_41 : decode cX10_possibleAt 41 = .ok (.imul, 1) := by decide +kernel
theorem dX10_possibleAt_42 : decode cX10_possibleAt 42 = .ok (.iload_n 2, 1) := by decide +kernel
theorem dX10_possibleAt_43 : decode cX10_possibleAt 43 = .ok (.iadd, 1) := by decide +kernel
theorem dX10_possibleAt_44 : decode cX10_possibleAt 44 = .ok (.if_icmp .ne 19, 3) := by decide +kernel
theorem dX10_possibleAt_47 : decode cX10_possibleAt 47 = .ok (.iload 4, 2) := by decide +kernel
theorem dX10_possibleAt_49 : decode cX10_possibleAt 49 = .ok (.ifCond .ne 11, 3) := by decide +kernel
theorem dX10_possibleAt_52 : decode cX10_possibleAt 52 = .ok (.aload_n 0, 1) := by decide +kernel
theorem dX10_possibleAt_53 : decode cX10_possibleAt 53 = .ok (.getfield 33, 3) := by decide +kernel
theorem dX10_possibleAt_56 : decode cX10_possibleAt 56 = .ok (.iload 5, 2) := by decide +kernel
theorem dX10_possibleAt_58 : decode cX10_possibleAt 58 = .ok (.iaload, 1) := by decide +kernel
theorem dX10_possibleAt_59 : decode cX10_possibleAt 59 = .ok (.ireturn, 1) := by decide +kernel
theorem dX10_possibleAt_60 : decode cX10_possibleAt 60 = .ok (.iinc 4 (-1), 3) := by decide +kernel
theorem dX10_possibleAt_63 : decode cX10_possibleAt 63 = .ok (.iinc 5 1, 3) := by decide +kernel
theorem dX10_possibleAt_66 : decode cX10_possibleAt 66 = .ok (.goto (-44), 3) := by decide +kernel
theorem dX10_possibleAt_69 : decode cX10_possibleAt 69 = .ok (.aload_n 0, 1) := by decide +kernel
theorem dX10_possibleAt_70 : decode cX10_possibleAt 70 = .ok (.iconst 1, 1) := by decide +kernel
theorem dX10_possibleAt_71 : decode cX10_possibleAt 71 = .ok (.invokevirtual 161, 3) := by decide +kernel
theorem dX10_possibleAt_74 : decode cX10_possibleAt 74 = .ok (.ireturn, 1) := by decide +kernel
set_option maxRecDepth 20000 in
theorem ggX10_covering_X10_has : GoodIn wsX10_covering wsX10_has := goodIn_r _ [6] (by decide +kernel) (by decide +kernel)
set_option maxRecDepth 20000 in
theorem gX10_covering_X10_has : GoodIn wsX10_covering (va_wsS RX10 80 yX10_has wsX10_has) := goodIn_app (goodIn_of _ (by decide +kernel)) ggX10_covering_X10_has
theorem dX10_covering_0 : decode cX10_covering 0 = .ok (.iconst 0, 1) := by decide +kernel
theorem dX10_covering_1 : decode cX10_covering 1 = .ok (.istore_n 2, 1) := by decide +kernel
theorem dX10_covering_2 : decode cX10_covering 2 = .ok (.iconst 0, 1) := by decide +kernel
theorem dX10_covering_3 : decode cX10_covering 3 = .ok (.istore_n 3, 1) := by decide +kernel
theorem dX10_covering_4 : decode cX10_covering 4 = .ok (.iload_n 3, 1) := by decide +kernel
theorem dX10_covering_5 : decode cX10_covering 5 = .ok (.aload_n 0, 1) := by decide +kernel
theorem dX10_covering_6 : decode cX10_covering 6 = .ok (.getfield 102, 3) := by decide +kernel
theorem dX10_covering_9 : decode cX10_covering 9 = .ok (.if_icmp .ge 30, 3) := by decide +kernel
theorem dX10_covering_12 : decode cX10_covering 12 = .ok (.iload_n 2, 1) := by decide +kernel
theorem dX10_covering_13 : decode cX10_covering 13 = .ok (.aload_n 0, 1) := by decide +kernel
theorem dX10_covering_14 : decode cX10_covering 14 = .ok (.getfield 26, 3) := by decide +kernel
theorem dX10_covering_17 : decode cX10_covering 17 = .ok (.iload_n 3, 1) := by decide +kernel
theorem dX10_covering_18 : decode cX10_covering 18 = .ok (.laload, 1) := by decide +kernel
theorem dX10_covering_19 : decode cX10_covering 19 = .ok (.iload_n 1, 1) := by decide +kernel
theorem dX10_covering_20 : decode cX10_covering 20 = .ok (.invokestatic 80, 3) := by decide +kernel
theorem dX10_covering_23 : decode cX10_covering 23 = .ok (.ifCond .eq 7, 3) := by decide +kernel
theorem dX10_covering_26 : decode cX10_covering 26 = .ok (.iconst 1, 1) := by decide +kernel
theorem dX10_covering_27 : decode cX10_covering 27 = .ok (.goto 4, 3) := by decide +kernel
theorem dX10_covering_30 : decode cX10_covering 30 = .ok (.iconst 0, 1) := by decide +kernel
theorem dX10_covering_31 : decode cX10_covering 31 = .ok (.iadd, 1) := by decide +kernel
theorem dX10_covering_32 : decode cX10_covering 32 = .ok (.istore_n 2, 1) := by decide +kernel
theorem dX10_covering_33 : decode cX10_covering 33 = .ok (.iinc 3 1, 3) := by decide +kernel
theorem dX10_covering_36 : decode cX10_covering 36 = .ok (.goto (-32), 3) := by decide +kernel
theorem dX10_covering_39 : decode cX10_covering 39 = .ok (.iload_n 2, 1) := by decide +kernel
theorem dX10_covering_40 : decode cX10_covering 40 = .ok (.ireturn, 1) := by decide +kernel
set_option maxRecDepth 20000 in
theorem ggX10_claiming_X10_has : GoodIn wsX10_claiming wsX10_has := goodIn_r _ [7] (by decide +kernel) (by decide +kernel)
set_option maxRecDepth 20000 in
theorem gX10_claiming_X10_has : GoodIn wsX10_claiming (va_wsS RX10 80 yX10_has wsX10_has) := goodIn_app (goodIn_of _ (by decide +kernel)) ggX10_claiming_X10_has
set_option maxRecDepth 20000 in
theorem ggX10_claiming_X10_bits : GoodIn wsX10_claiming wsX10_bits := goodIn_r _ [10, 4, 5, 6, 7] (by decide +kernel) (by decide +kernel)
set_option maxRecDepth 20000 in
theorem gX10_claiming_X10_bits : GoodIn wsX10_claiming (va_wsS RX10 91 yX10_bits wsX10_bits) := goodIn_app (goodIn_of _ (by decide +kernel)) ggX10_claiming_X10_bits
theorem dX10_claiming_0 : decode cX10_claiming 0 = .ok (.lconst 0, 1) := by decide +kernel
theorem dX10_claiming_1 : decode cX10_claiming 1 = .ok (.lstore_n 2, 1) := by decide +kernel
theorem dX10_claiming_2 : decode cX10_claiming 2 = .ok (.iconst 0, 1) := by decide +kernel
theorem dX10_claiming_3 : decode cX10_claiming 3 = .ok (.istore 4, 2) := by decide +kernel
theorem dX10_claiming_5 : decode cX10_claiming 5 = .ok (.iload 4, 2) := by decide +kernel
theorem dX10_claiming_7 : decode cX10_claiming 7 = .ok (.aload_n 0, 1) := by decide +kernel
theorem dX10_claiming_8 : decode cX10_claiming 8 = .ok (.getfield 102, 3) := by decide +kernel
theorem dX10_claiming_11 : decode cX10_claiming 11 = .ok (.if_icmp .ge 39, 3) := by decide +kernel
theorem dX10_claiming_14 : decode cX10_claiming 14 = .ok (.lload_n 2, 1) := by decide +kernel
theorem dX10_claiming_15 : decode cX10_claiming 15 = .ok (.aload_n 0, 1) := by decide +kernel
theorem dX10_claiming_16 : decode cX10_claiming 16 = .ok (.getfield 26, 3) := by decide +kernel
theorem dX10_claiming_19 : decode cX10_claiming 19 = .ok (.iload 4, 2) := by decide +kernel
theorem dX10_claiming_21 : decode cX10_claiming 21 = .ok (.laload, 1) := by decide +kernel
theorem dX10_claiming_22 : decode cX10_claiming 22 = .ok (.iload_n 1, 1) := by decide +kernel
theorem dX10_claiming_23 : decode cX10_claiming 23 = .ok (.invokestatic 80, 3) := by decide +kernel
theorem dX10_claiming_26 : decode cX10_claiming 26 = .ok (.ifCond .eq 15, 3) := by decide +kernel
theorem dX10_claiming_29 : decode cX10_claiming 29 = .ok (.lconst 1, 1) := by decide +kernel
theorem dX10_claiming_30 : decode cX10_claiming 30 = .ok (.aload_n 0, 1) := by decide +kernel
theorem dX10_claiming_31 : decode cX10_claiming 31 = .ok (.getfield 30, 3) := by decide +kernel
theorem dX10_claiming_34 : decode cX10_claiming 34 = .ok (.iload 4, 2) := by decide +kernel
theorem dX10_claiming_36 : decode cX10_claiming 36 = .ok (.iaload, 1) := by decide +kernel
theorem dX10_claiming_37 : decode cX10_claiming 37 = .ok (.lshl, 1) := by decide +kernel
theorem dX10_claiming_38 : decode cX10_claiming 38 = .ok (.goto 4, 3) := by decide +kernel
theorem dX10_claiming_41 : decode cX10_claiming 41 = .ok (.lconst 0, 1) := by decide +kernel
theorem dX10_claiming_42 : decode cX10_claiming 42 = .ok (.lor, 1) := by decide +kernel
theorem dX10_claiming_43 : decode cX10_claiming 43 = .ok (.lstore_n 2, 1) := by decide +kernel
theorem dX10_claiming_44 : decode cX10_claiming 44 = .ok (.iinc 4 1, 3) := by decide +kernel
theorem dX10_claiming_47 : decode cX10_claiming 47 = .ok (.goto (-42), 3) := by decide +kernel
theorem dX10_claiming_50 : decode cX10_claiming 50 = .ok (.lload_n 2, 1) := by decide +kernel
theorem dX10_claiming_51 : decode cX10_claiming 51 = .ok (.invokestatic 91, 3) := by decide +kernel
theorem dX10_claiming_54 : decode cX10_claiming 54 = .ok (.ireturn, 1) := by decide +kernel
set_option maxRecDepth 20000 in
theorem ggX10_coveredBy_X10_isThere : GoodIn wsX10_coveredBy wsX10_isThere := goodIn_r _ [5, 6, 7, 8, 9, 4, 10, 11, 12, 13, 45, 46, 47, 48, 49, 50, 51, 52, 53, 54, 55, 56, 57, 58, 59, 60, 61, 62, 63, 64, 65, 66, 67, 68, 69, 70] (by decide +kernel) (by decide +kernel)
set_option maxRecDepth 20000 in
theorem gX10_coveredBy_X10_isThere : GoodIn wsX10_coveredBy (wsV RX10 184 RX10 yX10_isThere wsX10_isThere) := goodIn_app (goodIn_of _ (by decide +kernel)) ggX10_coveredBy_X10_isThere
set_option maxRecDepth 20000 in
theorem ggX10_coveredBy_X10_finds : GoodIn wsX10_coveredBy wsX10_finds := goodIn_r _ [17, 18, 19, 6, 20, 21, 22, 4, 23, 24, 25, 26, 27, 28, 29, 30, 31, 32, 33, 34, 35, 36, 37, 45, 46, 47, 48, 49, 50, 51, 52, 53, 54, 55, 56, 57, 58, 59, 60, 61, 62, 63, 64, 65, 66, 67, 68, 69, 70] (by decide +kernel) (by decide +kernel)
set_option maxRecDepth 20000 in
theorem gX10_coveredBy_X10_finds : GoodIn wsX10_coveredBy (wsV RX10 113 RX10 yX10_finds wsX10_finds) := goodIn_app (goodIn_of _ (by decide +kernel)) ggX10_coveredBy_X10_finds
set_option maxRecDepth 20000 in
theorem ggX10_coveredBy_X10_covering : GoodIn wsX10_coveredBy wsX10_covering := goodIn_r _ [41, 18, 32, 42, 43, 4, 44, 45, 46, 47, 48, 49, 50, 51, 52, 53, 54, 55, 56, 57, 58, 59, 60, 61, 62, 63, 64, 65, 66, 67, 68, 69, 70] (by decide +kernel) (by decide +kernel)
set_option maxRecDepth 20000 in
theorem gX10_coveredBy_X10_covering : GoodIn wsX10_coveredBy (wsV RX10 217 RX10 yX10_covering wsX10_covering) := goodIn_app (goodIn_of _ (by decide +kernel)) ggX10_coveredBy_X10_covering
theorem dX10_coveredBy_0 : decode cX10_coveredBy 0 = .ok (.aload_n 0, 1) := by decide +kernel
theorem dX10_coveredBy_1 : decode cX10_coveredBy 1 = .ok (.iload_n 1, 1) := by decide +kernel
theorem dX10_coveredBy_2 : decode cX10_coveredBy 2 = .ok (.iload_n 2, 1) := by decide +kernel
theorem dX10_coveredBy_3 : decode cX10_coveredBy 3 = .ok (.iconst 0, 1) := by decide +kernel
theorem dX10_coveredBy_4 : decode cX10_coveredBy 4 = .ok (.invokevirtual 184, 3) := by decide +kernel
theorem dX10_coveredBy_7 : decode cX10_coveredBy 7 = .ok (.ifCond .ne 5, 3) := by decide +kernel
theorem dX10_coveredBy_10 : decode cX10_coveredBy 10 = .ok (.iconst 0, 1) := by decide +kernel
theorem dX10_coveredBy_11 : decode cX10_coveredBy 11 = .ok (.ireturn, 1) := by decide +kernel
theorem dX10_coveredBy_12 : decode cX10_coveredBy 12 = .ok (.aload_n 0, 1) := by decide +kernel
theorem dX10_coveredBy_13 : decode cX10_coveredBy 13 = .ok (.invokevirtual 113, 3) := by decide +kernel
theorem dX10_coveredBy_16 : decode cX10_coveredBy 16 = .ok (.aload_n 0, 1) := by decide +kernel
theorem dX10_coveredBy_17 : decode cX10_coveredBy 17 = .ok (.bipush 7, 2) := by decide +kernel
theorem dX10_coveredBy_19 : decode cX10_coveredBy 19 = .ok (.iload_n 1, 1) := by decide +kernel
theorem dX10_coveredBy_20 : decode cX10_coveredBy 20 = .ok (.imul, 1) := by decide +kernel
theorem dX10_coveredBy_21 : decode cX10_coveredBy 21 = .ok (.iload_n 2, 1) := by decide +kernel
theorem dX10_coveredBy_22 : decode cX10_coveredBy 22 = .ok (.iadd, 1) := by decide +kernel
theorem dX10_coveredBy_23 : decode cX10_coveredBy 23 = .ok (.invokevirtual 217, 3) := by decide +kernel
theorem dX10_coveredBy_26 : decode cX10_coveredBy 26 = .ok (.ireturn, 1) := by decide +kernel
set_option maxRecDepth 20000 in
theorem ggX10_claimedBy_X10_isThere : GoodIn wsX10_claimedBy wsX10_isThere := goodIn_r _ [5, 6, 7, 8, 9, 4, 10, 11, 12, 13, 48, 49, 50, 51, 52, 53, 54, 55, 56, 57, 58, 59, 60, 61, 62, 63, 64, 65, 66, 67, 68, 69, 70, 71, 72, 73] (by decide +kernel) (by decide +kernel)
set_option maxRecDepth 20000 in
theorem gX10_claimedBy_X10_isThere : GoodIn wsX10_claimedBy (wsV RX10 184 RX10 yX10_isThere wsX10_isThere) := goodIn_app (goodIn_of _ (by decide +kernel)) ggX10_claimedBy_X10_isThere
set_option maxRecDepth 20000 in
theorem ggX10_claimedBy_X10_finds : GoodIn wsX10_claimedBy wsX10_finds := goodIn_r _ [17, 18, 19, 6, 20, 21, 22, 4, 23, 24, 25, 26, 27, 28, 29, 30, 31, 32, 33, 34, 35, 36, 37, 48, 49, 50, 51, 52, 53, 54, 55, 56, 57, 58, 59, 60, 61, 62, 63, 64, 65, 66, 67, 68, 69, 70, 71, 72, 73] (by decide +kernel) (by decide +kernel)
set_option maxRecDepth 20000 in
theorem gX10_claimedBy_X10_finds : GoodIn wsX10_claimedBy (wsV RX10 113 RX10 yX10_finds wsX10_finds) := goodIn_app (goodIn_of _ (by decide +kernel)) ggX10_claimedBy_X10_finds
set_option maxRecDepth 20000 in
theorem ggX10_claimedBy_X10_claiming : GoodIn wsX10_claimedBy wsX10_claiming := goodIn_r _ [41, 18, 32, 33, 42, 43, 4, 44, 45, 46, 47, 48, 49, 50, 51, 52, 53, 54, 55, 56, 57, 58, 59, 60, 61, 62, 63, 64, 65, 66, 67, 68, 69, 70, 71, 72, 73] (by decide +kernel) (by decide +kernel)
set_option maxRecDepth 20000 in
theorem gX10_claimedBy_X10_claiming : GoodIn wsX10_claimedBy (wsV RX10 220 RX10 yX10_claiming wsX10_claiming) := goodIn_app (goodIn_of _ (by decide +kernel)) ggX10_claimedBy_X10_claiming
theorem dX10_claimedBy_0 : decode cX10_claimedBy 0 = .ok (.aload_n 0, 1) := by decide +kernel
theorem dX10_claimedBy_1 : decode cX10_claimedBy 1 = .ok (.iload_n 1, 1) := by decide +kernel
theorem dX10_claimedBy_2 : decode cX10_claimedBy 2 = .ok (.iload_n 2, 1) := by decide +kernel
theorem dX10_claimedBy_3 : decode cX10_claimedBy 3 = .ok (.iconst 0, 1) := by decide +kernel
theorem dX10_claimedBy_4 : decode cX10_claimedBy 4 = .ok (.invokevirtual 184, 3) := by decide +kernel
theorem dX10_claimedBy_7 : decode cX10_claimedBy 7 = .ok (.ifCond .ne 5, 3) := by decide +kernel
theorem dX10_claimedBy_10 : decode cX10_claimedBy 10 = .ok (.iconst 0, 1) := by decide +kernel
theorem dX10_claimedBy_11 : decode cX10_claimedBy 11 = .ok (.ireturn, 1) := by decide +kernel
theorem dX10_claimedBy_12 : decode cX10_claimedBy 12 = .ok (.aload_n 0, 1) := by decide +kernel
theorem dX10_claimedBy_13 : decode cX10_claimedBy 13 = .ok (.invokevirtual 113, 3) := by decide +kernel
theorem dX10_claimedBy_16 : decode cX10_claimedBy 16 = .ok (.aload_n 0, 1) := by decide +kernel
theorem dX10_claimedBy_17 : decode cX10_claimedBy 17 = .ok (.bipush 7, 2) := by decide +kernel
theorem dX10_claimedBy_19 : decode cX10_claimedBy 19 = .ok (.iload_n 1, 1) := by decide +kernel
theorem dX10_claimedBy_20 : decode cX10_claimedBy 20 = .ok (.imul, 1) := by decide +kernel
theorem dX10_claimedBy_21 : decode cX10_claimedBy 21 = .ok (.iload_n 2, 1) := by decide +kernel
theorem dX10_claimedBy_22 : decode cX10_claimedBy 22 = .ok (.iadd, 1) := by decide +kernel
theorem dX10_claimedBy_23 : decode cX10_claimedBy 23 = .ok (.invokevirtual 220, 3) := by decide +kernel
theorem dX10_claimedBy_26 : decode cX10_claimedBy 26 = .ok (.ireturn, 1) := by decide +kernel
set_option maxRecDepth 20000 in
theorem ggX10_possible_X10_finds : GoodIn wsX10_possible wsX10_finds := goodIn_r _ [7, 2, 8, 9, 10, 11, 12, 6, 13, 14, 15, 16, 17, 18, 19, 20, 21, 22, 23, 24, 25, 26, 27, 28, 29, 30, 31, 32, 33, 34, 35, 36, 37, 38, 39, 40, 41, 42, 43, 44, 45, 46, 47, 48, 49, 50, 51, 52, 53] (by decide +kernel) (by decide +kernel)
set_option maxRecDepth 20000 in
theorem gX10_possible_X10_finds : GoodIn wsX10_possible (wsV RX10 113 RX10 yX10_finds wsX10_finds) := goodIn_app (goodIn_of _ (by decide +kernel)) ggX10_possible_X10_finds
theorem dX10_possible_0 : decode cX10_possible 0 = .ok (.aload_n 0, 1) := by decide +kernel
theorem dX10_possible_1 : decode cX10_possible 1 = .ok (.iconst 0, 1) := by decide +kernel
theorem dX10_possible_2 : decode cX10_possible 2 = .ok (.putfield 69, 3) := by decide +kernel
theorem dX10_possible_5 : decode cX10_possible 5 = .ok (.aload_n 0, 1) := by decide +kernel
theorem dX10_possible_6 : decode cX10_possible 6 = .ok (.invokevirtual 113, 3) := by decide +kernel
theorem dX10_possible_9 : decode cX10_possible 9 = .ok (.aload_n 0, 1) := by decide +kernel
theorem dX10_possible_10 : decode cX10_possible 10 = .ok (.getfield 102, 3) := by decide +kernel
theorem dX10_possible_13 : decode cX10_possible 13 = .ok (.ireturn, 1) := by decide +kernel
set_option maxRecDepth 20000 in
theorem ggX10_rounds_X10_rules : GoodIn wsX10_rounds wsX10_rules := goodIn_r _ [7, 8, 9, 2, 10, 11, 12, 13, 6, 14, 15, 16, 17, 18, 19, 20, 21, 22, 23, 24, 25, 26, 27, 28, 29, 30, 31, 32, 33, 34, 35, 36, 37, 38, 39, 40, 41, 42, 43, 44, 45, 46, 47, 48, 49, 50, 51, 52, 53, 54, 55, 56, 57, 58, 59, 60, 61, 62, 63, 64, 65, 66, 67, 68, 69, 70, 71, 72] (by decide +kernel) (by decide +kernel)
set_option maxRecDepth 20000 in
theorem gX10_rounds_X10_rules : GoodIn wsX10_rounds (wsV RX10 192 RX10 yX10_rules wsX10_rules) := goodIn_app (goodIn_of _ (by decide +kernel)) ggX10_rounds_X10_rules
theorem dX10_rounds_0 : decode cX10_rounds 0 = .ok (.aload_n 0, 1) := by decide +kernel
theorem dX10_rounds_1 : decode cX10_rounds 1 = .ok (.iconst 0, 1) := by decide +kernel
theorem dX10_rounds_2 : decode cX10_rounds 2 = .ok (.putfield 69, 3) := by decide +kernel
theorem dX10_rounds_5 : decode cX10_rounds 5 = .ok (.aload_n 0, 1) := by decide +kernel
theorem dX10_rounds_6 : decode cX10_rounds 6 = .ok (.invokevirtual 192, 3) := by decide +kernel
theorem dX10_rounds_9 : decode cX10_rounds 9 = .ok (.aload_n 0, 1) := by decide +kernel
theorem dX10_rounds_10 : decode cX10_rounds 10 = .ok (.getfield 116, 3) := by decide +kernel
theorem dX10_rounds_13 : decode cX10_rounds 13 = .ok (.ireturn, 1) := by decide +kernel
set_option maxRecDepth 20000 in
theorem ggX10_leftInTheEnd_X10_rules : GoodIn wsX10_leftInTheEnd wsX10_rules := goodIn_r _ [6, 7, 8, 9, 10, 11, 12, 13, 5, 14, 15, 16, 17, 18, 19, 20, 21, 22, 23, 24, 25, 26, 27, 28, 29, 30, 31, 32, 33, 34, 35, 36, 37, 38, 39, 40, 41, 42, 43, 44, 45, 46, 51, 52, 53, 54, 55, 56, 57, 58, 59, 60, 61, 62, 63, 64, 65, 66, 67, 68, 69, 70, 71, 72, 73, 74, 75, 76] (by decide +kernel) (by decide +kernel)
set_option maxRecDepth 20000 in
theorem gX10_leftInTheEnd_X10_rules : GoodIn wsX10_leftInTheEnd (wsV RX10 192 RX10 yX10_rules wsX10_rules) := goodIn_app (goodIn_of _ (by decide +kernel)) ggX10_leftInTheEnd_X10_rules
set_option maxRecDepth 20000 in
theorem ggX10_leftInTheEnd_X10_leftAll : GoodIn wsX10_leftInTheEnd wsX10_leftAll := goodIn_r _ [50, 7, 8, 51, 52, 53, 54, 55, 56, 57, 58, 59, 60, 61, 62, 63, 64, 65, 66, 67, 68, 69, 70, 71, 72, 73, 74, 75, 76] (by decide +kernel) (by decide +kernel)
set_option maxRecDepth 20000 in
theorem gX10_leftInTheEnd_X10_leftAll : GoodIn wsX10_leftInTheEnd (wsV RX10 223 RX10 yX10_leftAll wsX10_leftAll) := goodIn_app (goodIn_of _ (by decide +kernel)) ggX10_leftInTheEnd_X10_leftAll
theorem dX10_leftInTheEnd_0 : decode cX10_leftInTheEnd 0 = .ok (.aload_n 0, 1) := by decide +kernel
theorem dX10_leftInTheEnd_1 : decode cX10_leftInTheEnd 1 = .ok (.iconst 0, 1) := by decide +kernel
theorem dX10_leftInTheEnd_2 : decode cX10_leftInTheEnd 2 = .ok (.putfield 69, 3) := by decide +kernel
theorem dX10_leftInTheEnd_5 : decode cX10_leftInTheEnd 5 = .ok (.aload_n 0, 1) := by decide +kernel
theorem dX10_leftInTheEnd_6 : decode cX10_leftInTheEnd 6 = .ok (.invokevirtual 192, 3) := by decide +kernel
theorem dX10_leftInTheEnd_9 : decode cX10_leftInTheEnd 9 = .ok (.aload_n 0, 1) := by decide +kernel
theorem dX10_leftInTheEnd_10 : decode cX10_leftInTheEnd 10 = .ok (.invokevirtual 223, 3) := by decide +kernel
theorem dX10_leftInTheEnd_13 : decode cX10_leftInTheEnd 13 = .ok (.ireturn, 1) := by decide +kernel
set_option maxRecDepth 20000 in
theorem ggX10_leftFor_X10_isThere : GoodIn wsX10_leftFor wsX10_isThere := goodIn_r _ [5, 6, 7, 8, 9, 4, 10, 11, 12, 13, 61, 62, 63, 64, 65, 66, 67, 68, 69, 70, 71, 72, 73, 74, 75, 76, 77, 78, 79, 80, 81, 82, 83, 84, 85, 86] (by decide +kernel) (by decide +kernel)
set_option maxRecDepth 20000 in
theorem gX10_leftFor_X10_isThere : GoodIn wsX10_leftFor (wsV RX10 184 RX10 yX10_isThere wsX10_isThere) := goodIn_app (goodIn_of _ (by decide +kernel)) ggX10_leftFor_X10_isThere
set_option maxRecDepth 20000 in
theorem ggX10_leftFor_X10_rules : GoodIn wsX10_leftFor wsX10_rules := goodIn_r _ [17, 18, 19, 20, 21, 22, 23, 24, 4, 25, 26, 6, 27, 28, 29, 30, 31, 32, 33, 34, 35, 36, 37, 38, 39, 40, 41, 42, 43, 44, 45, 46, 47, 48, 49, 50, 51, 52, 53, 54, 55, 56, 61, 62, 63, 64, 65, 66, 67, 68, 69, 70, 71, 72, 73, 74, 75, 76, 77, 78, 79, 80, 81, 82, 83, 84, 85, 86] (by decide +kernel) (by decide +kernel)
set_option maxRecDepth 20000 in
theorem gX10_leftFor_X10_rules : GoodIn wsX10_leftFor (wsV RX10 192 RX10 yX10_rules wsX10_rules) := goodIn_app (goodIn_of _ (by decide +kernel)) ggX10_leftFor_X10_rules
set_option maxRecDepth 20000 in
theorem ggX10_leftFor_X10_leftIn : GoodIn wsX10_leftFor wsX10_leftIn := goodIn_r _ [60, 18, 40, 19, 61, 62, 63, 64, 65, 66, 67, 68, 69, 70, 71, 72, 73, 74, 75, 76, 77, 78, 79, 80, 81, 82, 83, 84, 85, 86] (by decide +kernel) (by decide +kernel)
set_option maxRecDepth 20000 in
theorem gX10_leftFor_X10_leftIn : GoodIn wsX10_leftFor (wsV RX10 126 RX10 yX10_leftIn wsX10_leftIn) := goodIn_app (goodIn_of _ (by decide +kernel)) ggX10_leftFor_X10_leftIn
theorem dX10_leftFor_0 : decode cX10_leftFor 0 = .ok (.aload_n 0, 1) := by decide +kernel
theorem dX10_leftFor_1 : decode cX10_leftFor 1 = .ok (.iload_n 1, 1) := by decide +kernel
theorem dX10_leftFor_2 : decode cX10_leftFor 2 = .ok (.iload_n 2, 1) := by decide +kernel
theorem dX10_leftFor_3 : decode cX10_leftFor 3 = .ok (.iconst 0, 1) := by decide +kernel
theorem dX10_leftFor_4 : decode cX10_leftFor 4 = .ok (.invokevirtual 184, 3) := by decide +kernel
theorem dX10_leftFor_7 : decode cX10_leftFor 7 = .ok (.ifCond .ne 5, 3) := by decide +kernel
theorem dX10_leftFor_10 : decode cX10_leftFor 10 = .ok (.iconst 0, 1) := by decide +kernel
theorem dX10_leftFor_11 : decode cX10_leftFor 11 = .ok (.ireturn, 1) := by decide +kernel
theorem dX10_leftFor_12 : decode cX10_leftFor 12 = .ok (.aload_n 0, 1) := by decide +kernel
theorem dX10_leftFor_13 : decode cX10_leftFor 13 = .ok (.invokevirtual 192, 3) := by decide +kernel
theorem dX10_leftFor_16 : decode cX10_leftFor 16 = .ok (.aload_n 0, 1) := by decide +kernel
theorem dX10_leftFor_17 : decode cX10_leftFor 17 = .ok (.bipush 7, 2) := by decide +kernel
theorem dX10_leftFor_19 : decode cX10_leftFor 19 = .ok (.iload_n 1, 1) := by decide +kernel
theorem dX10_leftFor_20 : decode cX10_leftFor 20 = .ok (.imul, 1) := by decide +kernel
theorem dX10_leftFor_21 : decode cX10_leftFor 21 = .ok (.iload_n 2, 1) := by decide +kernel
theorem dX10_leftFor_22 : decode cX10_leftFor 22 = .ok (.iadd, 1) := by decide +kernel
theorem dX10_leftFor_23 : decode cX10_leftFor 23 = .ok (.invokevirtual 126, 3) := by decide +kernel
theorem dX10_leftFor_26 : decode cX10_leftFor 26 = .ok (.ireturn, 1) := by decide +kernel
set_option maxRecDepth 20000 in
theorem ggX10_isContradiction_X10_rules : GoodIn wsX10_isContradiction wsX10_rules := goodIn_r _ [6, 7, 8, 9, 10, 11, 12, 13, 5, 14, 15, 16, 17, 18, 19, 20, 21, 22, 23, 24, 25, 26, 27, 28, 29, 30, 31, 32, 33, 34, 35, 36, 37, 38, 39, 40, 41, 42, 43, 44, 45, 46, 51, 52, 53, 54, 55, 56, 57, 58, 59, 60, 61, 62, 63, 64, 65, 66, 67, 68, 69, 70, 71, 72, 73, 74, 75, 76] (by decide +kernel) (by decide +kernel)
set_option maxRecDepth 20000 in
theorem gX10_isContradiction_X10_rules : GoodIn wsX10_isContradiction (wsV RX10 192 RX10 yX10_rules wsX10_rules) := goodIn_app (goodIn_of _ (by decide +kernel)) ggX10_isContradiction_X10_rules
set_option maxRecDepth 20000 in
theorem ggX10_isContradiction_X10_isAgainst : GoodIn wsX10_isContradiction wsX10_isAgainst := goodIn_r _ [50, 41, 16, 40, 21, 22, 23, 5, 24, 51, 52, 53, 54, 55, 56, 57, 58, 59, 60, 61, 62, 63, 64, 65, 66, 67, 68, 69, 70, 71, 72, 73, 74, 75, 76] (by decide +kernel) (by decide +kernel)
set_option maxRecDepth 20000 in
theorem gX10_isContradiction_X10_isAgainst : GoodIn wsX10_isContradiction (wsV RX10 195 RX10 yX10_isAgainst wsX10_isAgainst) := goodIn_app (goodIn_of _ (by decide +kernel)) ggX10_isContradiction_X10_isAgainst
theorem dX10_isContradiction_0 : decode cX10_isContradiction 0 = .ok (.aload_n 0, 1) := by decide +kernel
theorem dX10_isContradiction_1 : decode cX10_isContradiction 1 = .ok (.iconst 0, 1) := by decide +kernel
theorem dX10_isContradiction_2 : decode cX10_isContradiction 2 = .ok (.putfield 69, 3) := by decide +kernel
theorem dX10_isContradiction_5 : decode cX10_isContradiction 5 = .ok (.aload_n 0, 1) := by decide +kernel
theorem dX10_isContradiction_6 : decode cX10_isContradiction 6 = .ok (.invokevirtual 192, 3) := by decide +kernel
theorem dX10_isContradiction_9 : decode cX10_isContradiction 9 = .ok (.aload_n 0, 1) := by decide +kernel
theorem dX10_isContradiction_10 : decode cX10_isContradiction 10 = .ok (.invokevirtual 195, 3) := by decide +kernel
theorem dX10_isContradiction_13 : decode cX10_isContradiction 13 = .ok (.ireturn, 1) := by decide +kernel
set_option maxRecDepth 20000 in
theorem ggX10_certain_X10_rules : GoodIn wsX10_certain wsX10_rules := goodIn_r _ [6, 7, 8, 9, 10, 11, 12, 13, 5, 14, 15, 16, 17, 18, 19, 20, 21, 22, 23, 24, 25, 26, 27, 28, 29, 30, 31, 32, 33, 34, 35, 36, 37, 38, 39, 40, 41, 42, 43, 44, 45, 46, 67, 68, 69, 70, 71, 72, 73, 74, 75, 76, 77, 78, 79, 80, 81, 82, 83, 84, 85, 86, 87, 88, 89, 90, 91, 92] (by decide +kernel) (by decide +kernel)
set_option maxRecDepth 20000 in
theorem gX10_certain_X10_rules : GoodIn wsX10_certain (wsV RX10 192 RX10 yX10_rules wsX10_rules) := goodIn_app (goodIn_of _ (by decide +kernel)) ggX10_certain_X10_rules
set_option maxRecDepth 20000 in
theorem ggX10_certain_X10_isAgainst : GoodIn wsX10_certain wsX10_isAgainst := goodIn_r _ [50, 41, 16, 40, 21, 22, 23, 5, 24, 67, 68, 69, 70, 71, 72, 73, 74, 75, 76, 77, 78, 79, 80, 81, 82, 83, 84, 85, 86, 87, 88, 89, 90, 91, 92] (by decide +kernel) (by decide +kernel)
set_option maxRecDepth 20000 in
theorem gX10_certain_X10_isAgainst : GoodIn wsX10_certain (wsV RX10 195 RX10 yX10_isAgainst wsX10_isAgainst) := goodIn_app (goodIn_of _ (by decide +kernel)) ggX10_certain_X10_isAgainst
set_option maxRecDepth 20000 in
theorem ggX10_certain_X10_throwing : GoodIn wsX10_certain wsX10_throwing := goodIn_r _ [54, 1, 67, 68, 69, 70, 71, 72, 73, 74, 75, 76, 77, 78, 79, 80, 81, 82, 83, 84, 85, 86, 87, 88, 89, 90, 91, 92] (by decide +kernel) (by decide +kernel)
set_option maxRecDepth 20000 in
theorem gX10_certain_X10_throwing : GoodIn wsX10_certain (wsV RX10 161 RX10 yX10_throwing wsX10_throwing) := goodIn_app (goodIn_of _ (by decide +kernel)) ggX10_certain_X10_throwing
set_option maxRecDepth 20000 in
theorem ggX10_certain_X10_sure : GoodIn wsX10_certain wsX10_sure := goodIn_r _ [58, 59, 60, 61, 5, 62, 16, 63, 64, 65, 66, 7, 30, 8, 67, 68, 69, 70, 71, 72, 73, 74, 75, 76, 77, 78, 79, 80, 81, 82, 83, 84, 85, 86, 87, 88, 89, 90, 91, 92] (by decide +kernel) (by decide +kernel)
set_option maxRecDepth 20000 in
theorem gX10_certain_X10_sure : GoodIn wsX10_certain (wsV RX10 199 RX10 yX10_sure wsX10_sure) := goodIn_app (goodIn_of _ (by decide +kernel)) ggX10_certain_X10_sure
theorem dX10_certain_0 : decode cX10_certain 0 = .ok (.aload_n 0, 1) := by decide +kernel
theorem dX10_certain_1 : decode cX10_certain 1 = .ok (.iconst 0, 1) := by decide +kernel
theorem dX10_certain_2 : decode cX10_certain 2 = .ok (.putfield 69, 3) := by decide +kernel
theorem dX10_certain_5 : decode cX10_certain 5 = .ok (.aload_n 0, 1) := by decide +kernel
theorem dX10_certain_6 : decode cX10_certain 6 = .ok (.invokevirtual 192, 3) := by decide +kernel
theorem dX10_certain_9 : decode cX10_certain 9 = .ok (.aload_n 0, 1) := by decide +kernel
theorem dX10_certain_10 : decode cX10_certain 10 = .ok (.invokevirtual 195, 3) := by decide +kernel
theorem dX10_certain_13 : decode cX10_certain 13 = .ok (.ifCond .eq 11, 3) := by decide +kernel
theorem dX10_certain_16 : decode cX10_certain 16 = .ok (.aload_n 0, 1) := by decide +kernel
theorem dX10_certain_17 : decode cX10_certain 17 = .ok (.iconst 1, 1) := by decide +kernel
theorem dX10_certain_18 : decode cX10_certain 18 = .ok (.invokevirtual 161, 3) := by decide +kernel
theorem dX10_certain_21 : decode cX10_certain 21 = .ok (.goto 7, 3) := by decide +kernel
theorem dX10_certain_24 : decode cX10_certain 24 = .ok (.aload_n 0, 1) := by decide +kernel
theorem dX10_certain_25 : decode cX10_certain 25 = .ok (.invokevirtual 199, 3) := by decide +kernel
theorem dX10_certain_28 : decode cX10_certain 28 = .ok (.ireturn, 1) := by decide +kernel
set_option maxRecDepth 20000 in
theorem ggX10_hint_X10_rules : GoodIn wsX10_hint wsX10_rules := goodIn_r _ [6, 7, 8, 9, 10, 11, 12, 13, 5, 14, 15, 16, 17, 18, 19, 20, 21, 22, 23, 24, 25, 26, 27, 28, 29, 30, 31, 32, 33, 34, 35, 36, 37, 38, 39, 40, 41, 42, 43, 44, 45, 46, 67, 68, 69, 70, 71, 72, 73, 74, 75, 76, 77, 78, 79, 80, 81, 82, 83, 84, 85, 86, 87, 88, 89, 90, 91, 92] (by decide +kernel) (by decide +kernel)
set_option maxRecDepth 20000 in
theorem gX10_hint_X10_rules : GoodIn wsX10_hint (wsV RX10 192 RX10 yX10_rules wsX10_rules) := goodIn_app (goodIn_of _ (by decide +kernel)) ggX10_hint_X10_rules
set_option maxRecDepth 20000 in
theorem ggX10_hint_X10_isAgainst : GoodIn wsX10_hint wsX10_isAgainst := goodIn_r _ [50, 41, 16, 40, 21, 22, 23, 5, 24, 67, 68, 69, 70, 71, 72, 73, 74, 75, 76, 77, 78, 79, 80, 81, 82, 83, 84, 85, 86, 87, 88, 89, 90, 91, 92] (by decide +kernel) (by decide +kernel)
set_option maxRecDepth 20000 in
theorem gX10_hint_X10_isAgainst : GoodIn wsX10_hint (wsV RX10 195 RX10 yX10_isAgainst wsX10_isAgainst) := goodIn_app (goodIn_of _ (by decide +kernel)) ggX10_hint_X10_isAgainst
set_option maxRecDepth 20000 in
theorem ggX10_hint_X10_firstSure : GoodIn wsX10_hint wsX10_firstSure := goodIn_r _ [54, 55, 56, 57, 5, 58, 16, 59, 60, 61, 62, 7, 30, 8, 67, 68, 69, 70, 71, 72, 73, 74, 75, 76, 77, 78, 79, 80, 81, 82, 83, 84, 85, 86, 87, 88, 89, 90, 91, 92] (by decide +kernel) (by decide +kernel)
set_option maxRecDepth 20000 in
theorem gX10_hint_X10_firstSure : GoodIn wsX10_hint (wsV RX10 226 RX10 yX10_firstSure wsX10_firstSure) := goodIn_app (goodIn_of _ (by decide +kernel)) ggX10_hint_X10_firstSure
set_option maxRecDepth 20000 in
theorem ggX10_hint_X10_throwing : GoodIn wsX10_hint wsX10_throwing := goodIn_r _ [66, 1, 67, 68, 69, 70, 71, 72, 73, 74, 75, 76, 77, 78, 79, 80, 81, 82, 83, 84, 85, 86, 87, 88, 89, 90, 91, 92] (by decide +kernel) (by decide +kernel)
set_option maxRecDepth 20000 in
theorem gX10_hint_X10_throwing : GoodIn wsX10_hint (wsV RX10 161 RX10 yX10_throwing wsX10_throwing) := goodIn_app (goodIn_of _ (by decide +kernel)) ggX10_hint_X10_throwing
theorem dX10_hint_0 : decode cX10_hint 0 = .ok (.aload_n 0, 1) := by decide +kernel
theorem dX10_hint_1 : decode cX10_hint 1 = .ok (.iconst 0, 1) := by decide +kernel
theorem dX10_hint_2 : decode cX10_hint 2 = .ok (.putfield 69, 3) := by decide +kernel
theorem dX10_hint_5 : decode cX10_hint 5 = .ok (.aload_n 0, 1) := by decide +kernel
theorem dX10_hint_6 : decode cX10_hint 6 = .ok (.invokevirtual 192, 3) := by decide +kernel
theorem dX10_hint_9 : decode cX10_hint 9 = .ok (.aload_n 0, 1) := by decide +kernel
theorem dX10_hint_10 : decode cX10_hint 10 = .ok (.invokevirtual 195, 3) := by decide +kernel
theorem dX10_hint_13 : decode cX10_hint 13 = .ok (.ifCond .ne 11, 3) := by decide +kernel
theorem dX10_hint_16 : decode cX10_hint 16 = .ok (.aload_n 0, 1) := by decide +kernel
theorem dX10_hint_17 : decode cX10_hint 17 = .ok (.invokevirtual 226, 3) := by decide +kernel
theorem dX10_hint_20 : decode cX10_hint 20 = .ok (.iconst (-1), 1) := by decide +kernel
theorem dX10_hint_21 : decode cX10_hint 21 = .ok (.if_icmp .ne 11, 3) := by decide +kernel
theorem dX10_hint_24 : decode cX10_hint 24 = .ok (.aload_n 0, 1) := by decide +kernel
theorem dX10_hint_25 : decode cX10_hint 25 = .ok (.iconst 1, 1) := by decide +kernel
theorem dX10_hint_26 : decode cX10_hint 26 = .ok (.invokevirtual 161, 3) := by decide +kernel
theorem dX10_hint_29 : decode cX10_hint 29 = .ok (.goto 7, 3) := by decide +kernel
theorem dX10_hint_32 : decode cX10_hint 32 = .ok (.aload_n 0, 1) := by decide +kernel
theorem dX10_hint_33 : decode cX10_hint 33 = .ok (.invokevirtual 226, 3) := by decide +kernel
theorem dX10_hint_36 : decode cX10_hint 36 = .ok (.ireturn, 1) := by decide +kernel
set_option maxRecDepth 20000 in
theorem ggX10_waysByNumbers_X10_ways : GoodIn wsX10_waysByNumbers wsX10_ways := goodIn_r _ [6, 7, 8, 9, 10, 11, 12, 13, 14, 15, 5, 16, 17, 18, 19, 20, 21, 22, 23, 24, 25, 26, 27, 28, 29, 30, 31, 32, 33, 34, 35, 36, 37, 38, 39, 40, 41, 42, 43, 44, 45, 46, 47, 48, 49, 50, 51, 52, 53, 54, 55, 56, 57, 58, 59, 60, 61, 62, 63, 64, 65, 66, 67, 68, 69, 70, 71, 72, 73, 74, 75, 76, 77, 78, 79, 80] (by decide +kernel) (by decide +kernel)
set_option maxRecDepth 20000 in
theorem gX10_waysByNumbers_X10_ways : GoodIn wsX10_waysByNumbers (wsV RX10 202 RX10 yX10_ways wsX10_ways) := goodIn_app (goodIn_of _ (by decide +kernel)) ggX10_waysByNumbers_X10_ways
theorem dX10_waysByNumbers_0 : decode cX10_waysByNumbers 0 = .ok (.aload_n 0, 1) := by decide +kernel
theorem dX10_waysByNumbers_1 : decode cX10_waysByNumbers 1 = .ok (.iconst 0, 1) := by decide +kernel
theorem dX10_waysByNumbers_2 : decode cX10_waysByNumbers 2 = .ok (.putfield 69, 3) := by decide +kernel
theorem dX10_waysByNumbers_5 : decode cX10_waysByNumbers 5 = .ok (.aload_n 0, 1) := by decide +kernel
theorem dX10_waysByNumbers_6 : decode cX10_waysByNumbers 6 = .ok (.bipush 50, 2) := by decide +kernel
theorem dX10_waysByNumbers_8 : decode cX10_waysByNumbers 8 = .ok (.invokevirtual 202, 3) := by decide +kernel
theorem dX10_waysByNumbers_11 : decode cX10_waysByNumbers 11 = .ok (.ireturn, 1) := by decide +kernel
set_option maxRecDepth 20000 in
theorem ggX10_waysByCells_X10_ways : GoodIn wsX10_waysByCells wsX10_ways := goodIn_r _ [6, 7, 8, 9, 10, 11, 12, 13, 14, 15, 5, 16, 17, 18, 19, 20, 21, 22, 23, 24, 25, 26, 27, 28, 29, 30, 31, 32, 33, 34, 35, 36, 37, 38, 39, 40, 41, 42, 43, 44, 45, 46, 47, 48, 49, 50, 51, 52, 53, 54, 55, 56, 57, 58, 59, 60, 61, 62, 63, 64, 65, 66, 67, 68, 69, 70, 71, 72, 73, 74, 75, 76, 77, 78, 79, 80] (by decide +kernel) (by decide +kernel)
set_option maxRecDepth 20000 in
theorem gX10_waysByCells_X10_ways : GoodIn wsX10_waysByCells (wsV RX10 202 RX10 yX10_ways wsX10_ways) := goodIn_app (goodIn_of _ (by decide +kernel)) ggX10_waysByCells_X10_ways
theorem dX10_waysByCells_0 : decode cX10_waysByCells 0 = .ok (.aload_n 0, 1) := by decide +kernel
theorem dX10_waysByCells_1 : decode cX10_waysByCells 1 = .ok (.iconst 0, 1) := by decide +kernel
theorem dX10_waysByCells_2 : decode cX10_waysByCells 2 = .ok (.putfield 69, 3) := by decide +kernel
theorem dX10_waysByCells_5 : decode cX10_waysByCells 5 = .ok (.aload_n 0, 1) := by decide +kernel
theorem dX10_waysByCells_6 : decode cX10_waysByCells 6 = .ok (.bipush 50, 2) := by decide +kernel
theorem dX10_waysByCells_8 : decode cX10_waysByCells 8 = .ok (.invokevirtual 202, 3) := by decide +kernel
theorem dX10_waysByCells_11 : decode cX10_waysByCells 11 = .ok (.ireturn, 1) := by decide +kernel
set_option maxRecDepth 20000 in
theorem ggX10_isUnique_X10_ways : GoodIn wsX10_isUnique wsX10_ways := goodIn_r _ [6, 7, 8, 9, 10, 11, 12, 13, 14, 15, 5, 16, 17, 18, 19, 20, 21, 22, 23, 24, 25, 26, 27, 28, 29, 30, 31, 32, 33, 34, 35, 36, 37, 38, 39, 40, 41, 42, 43, 44, 45, 46, 47, 48, 49, 50, 51, 52, 53, 54, 55, 56, 57, 58, 59, 60, 61, 62, 63, 64, 65, 66, 67, 68, 69, 70, 71, 72, 73, 74, 75, 76, 77, 78, 79, 80] (by decide +kernel) (by decide +kernel)
set_option maxRecDepth 20000 in
theorem gX10_isUnique_X10_ways : GoodIn wsX10_isUnique (wsV RX10 202 RX10 yX10_ways wsX10_ways) := goodIn_app (goodIn_of _ (by decide +kernel)) ggX10_isUnique_X10_ways
theorem dX10_isUnique_0 : decode cX10_isUnique 0 = .ok (.aload_n 0, 1) := by decide +kernel
theorem dX10_isUnique_1 : decode cX10_isUnique 1 = .ok (.iconst 0, 1) := by decide +kernel
theorem dX10_isUnique_2 : decode cX10_isUnique 2 = .ok (.putfield 69, 3) := by decide +kernel
theorem dX10_isUnique_5 : decode cX10_isUnique 5 = .ok (.aload_n 0, 1) := by decide +kernel
theorem dX10_isUnique_6 : decode cX10_isUnique 6 = .ok (.iconst 2, 1) := by decide +kernel
theorem dX10_isUnique_7 : decode cX10_isUnique 7 = .ok (.invokevirtual 202, 3) := by decide +kernel
theorem dX10_isUnique_10 : decode cX10_isUnique 10 = .ok (.iconst 1, 1) := by decide +kernel
theorem dX10_isUnique_11 : decode cX10_isUnique 11 = .ok (.if_icmp .ne 7, 3) := by decide +kernel
theorem dX10_isUnique_14 : decode cX10_isUnique 14 = .ok (.iconst 1, 1) := by decide +kernel
theorem dX10_isUnique_15 : decode cX10_isUnique 15 = .ok (.goto 4, 3) := by decide +kernel
theorem dX10_isUnique_18 : decode cX10_isUnique 18 = .ok (.iconst 0, 1) := by decide +kernel
theorem dX10_isUnique_19 : decode cX10_isUnique 19 = .ok (.ireturn, 1) := by decide +kernel
set_option maxRecDepth 20000 in
theorem ggX10_inFirst_X10_isThere : GoodIn wsX10_inFirst wsX10_isThere := goodIn_r _ [7, 8, 9, 10, 11, 6, 12, 13, 14, 15, 69, 70, 71, 72, 73, 74, 75, 76, 77, 78, 79, 80, 81, 82, 83, 84, 85, 86, 87, 88, 89, 90, 91, 92, 93, 94] (by decide +kernel) (by decide +kernel)
set_option maxRecDepth 20000 in
theorem gX10_inFirst_X10_isThere : GoodIn wsX10_inFirst (wsV RX10 184 RX10 yX10_isThere wsX10_isThere) := goodIn_app (goodIn_of _ (by decide +kernel)) ggX10_inFirst_X10_isThere
set_option maxRecDepth 20000 in
theorem ggX10_inFirst_X10_ways : GoodIn wsX10_inFirst wsX10_ways := goodIn_r _ [19, 20, 21, 22, 23, 24, 25, 26, 27, 28, 6, 29, 30, 8, 31, 32, 33, 34, 35, 36, 37, 38, 39, 40, 41, 42, 43, 44, 45, 46, 47, 48, 49, 50, 51, 1, 2, 52, 53, 54, 55, 56, 57, 58, 59, 60, 61, 62, 63, 64, 69, 70, 71, 72, 73, 74, 75, 76, 77, 78, 79, 80, 81, 82, 83, 84, 85, 86, 87, 88, 89, 90, 91, 92, 93, 94] (by decide +kernel) (by decide +kernel)
set_option maxRecDepth 20000 in
theorem gX10_inFirst_X10_ways : GoodIn wsX10_inFirst (wsV RX10 202 RX10 yX10_ways wsX10_ways) := goodIn_app (goodIn_of _ (by decide +kernel)) ggX10_inFirst_X10_ways
set_option maxRecDepth 20000 in
theorem ggX10_inFirst_X10_throwing : GoodIn wsX10_inFirst wsX10_throwing := goodIn_r _ [68, 9, 69, 70, 71, 72, 73, 74, 75, 76, 77, 78, 79, 80, 81, 82, 83, 84, 85, 86, 87, 88, 89, 90, 91, 92, 93, 94] (by decide +kernel) (by decide +kernel)
set_option maxRecDepth 20000 in
theorem gX10_inFirst_X10_throwing : GoodIn wsX10_inFirst (wsV RX10 161 RX10 yX10_throwing wsX10_throwing) := goodIn_app (goodIn_of _ (by decide +kernel)) ggX10_inFirst_X10_throwing
theorem dX10_inFirst_0 : decode cX10_inFirst 0 = .ok (.aload_n 0, 1) := by decide +kernel
theorem dX10_inFirst_1 : decode cX10_inFirst 1 = .ok (.iload_n 1, 1) := by decide +kernel
theorem dX10_inFirst_2 : decode cX10_inFirst 2 = .ok (.iload_n 2, 1) := by decide +kernel
theorem dX10_inFirst_3 : decode cX10_inFirst 3 = .ok (.iconst 0, 1) := by decide +kernel
theorem dX10_inFirst_4 : decode cX10_inFirst 4 = .ok (.invokevirtual 184, 3) := by decide +kernel
theorem dX10_inFirst_7 : decode cX10_inFirst 7 = .ok (.ifCond .ne 5, 3) := by decide +kernel
theorem dX10_inFirst_10 : decode cX10_inFirst 10 = .ok (.iconst 0, 1) := by decide +kernel
theorem dX10_inFirst_11 : decode cX10_inFirst 11 = .ok (.ireturn, 1) := by decide +kernel
theorem dX10_inFirst_12 : decode cX10_inFirst 12 = .ok (.aload_n 0, 1) := by decide +kernel
theorem dX10_inFirst_13 : decode cX10_inFirst 13 = .ok (.iconst 1, 1) := by decide +kernel
theorem dX10_inFirst_14 : decode cX10_inFirst 14 = .ok (.invokevirtual 202, 3) := by decide +kernel
theorem dX10_inFirst_17 : decode cX10_inFirst 17 = .ok (.ifCond .ne 9, 3) := by decide +kernel
theorem dX10_inFirst_20 : decode cX10_inFirst 20 = .ok (.aload_n 0, 1) := by decide +kernel
theorem dX10_inFirst_21 : decode cX10_inFirst 21 = .ok (.iconst 2, 1) := by decide +kernel
theorem dX10_inFirst_22 : decode cX10_inFirst 22 = .ok (.invokevirtual 161, 3) := by decide +kernel
theorem dX10_inFirst_25 : decode cX10_inFirst 25 = .ok (.ireturn, 1) := by decide +kernel
theorem dX10_inFirst_26 : decode cX10_inFirst 26 = .ok (.iload_n 3, 1) := by decide +kernel
theorem dX10_inFirst_27 : decode cX10_inFirst 27 = .ok (.ifCond .eq 17, 3) := by decide +kernel
theorem dX10_inFirst_30 : decode cX10_inFirst 30 = .ok (.aload_n 0, 1) := by decide +kernel
theorem dX10_inFirst_31 : decode cX10_inFirst 31 = .ok (.getfield 57, 3) := by decide +kernel
theorem dX10_inFirst_34 : decode cX10_inFirst 34 = .ok (.bipush 7, 2) := by decide +kernel
theorem dX10_inFirst_36 : decode cX10_inFirst 36 = .ok (.iload_n 1, 1) := by decide +kernel
theorem dX10_inFirst_37 : decode cX10_inFirst 37 = .ok (.imul, 1) := by decide +kernel
theorem dX10_inFirst_38 : decode cX10_inFirst 38 = .ok (.iload_n 2, 1) := by decide +kernel
theorem dX10_inFirst_39 : decode cX10_inFirst 39 = .ok (.iadd, 1) := by decide +kernel
theorem dX10_inFirst_40 : decode cX10_inFirst 40 = .ok (.iaload, 1) := by decide +kernel
theorem dX10_inFirst_41 : decode cX10_inFirst 41 = .ok (.goto 14, 3) := by decide +kernel
theorem dX10_inFirst_44 : decode cX10_inFirst 44 = .ok (.aload_n 0, 1) := by decide +kernel
theorem dX10_inFirst_45 : decode cX10_inFirst 45 = .ok (.getfield 60, 3) := by decide +kernel
theorem dX10_inFirst_48 : decode cX10_inFirst 48 = .ok (.bipush 7, 2) := by decide +kernel
theorem dX10_inFirst_50 : decode cX10_inFirst 50 = .ok (.iload_n 1, 1) := by decide +kernel
theorem dX10_inFirst_51 : decode cX10_inFirst 51 = .ok (.imul, 1) := by decide +kernel
theorem dX10_inFirst_52 : decode cX10_inFirst 52 = .ok (.iload_n 2, 1) := by decide +kernel
theorem dX10_inFirst_53 : decode cX10_inFirst 53 = .ok (.iadd, 1) := by decide +kernel
theorem dX10_inFirst_54 : decode cX10_inFirst 54 = .ok (.iaload, 1) := by decide +kernel
theorem dX10_inFirst_55 : decode cX10_inFirst 55 = .ok (.ireturn, 1) := by decide +kernel
set_option maxRecDepth 20000 in
theorem ggX10_sizeInFirst_X10_inFirst : GoodIn wsX10_sizeInFirst wsX10_inFirst := goodIn_r _ [5, 6, 7, 8, 9, 10, 4, 11, 12, 13, 14, 15, 16, 17, 18, 19, 20, 21, 22, 23, 24, 25, 26, 27, 28, 29, 30, 31, 32, 33, 34, 35, 36, 37, 38, 39, 40, 41, 42, 43, 44, 45, 46, 47, 48, 49, 50, 51, 52, 53, 54, 55, 56, 57, 58, 59, 60, 61, 62, 63, 64, 65, 66, 67, 68, 69, 70, 71, 72, 73, 74, 75, 76, 77, 78, 79, 80, 81, 82, 83, 84, 85, 86, 87, 88, 89, 90, 91, 92, 93, 94, 95, 96, 97, 98] (by decide +kernel) (by decide +kernel)
set_option maxRecDepth 20000 in
theorem gX10_sizeInFirst_X10_inFirst : GoodIn wsX10_sizeInFirst (wsV RX10 229 RX10 yX10_inFirst wsX10_inFirst) := goodIn_app (goodIn_of _ (by decide +kernel)) ggX10_sizeInFirst_X10_inFirst
theorem dX10_sizeInFirst_0 : decode cX10_sizeInFirst 0 = .ok (.aload_n 0, 1) := by decide +kernel
theorem dX10_sizeInFirst_1 : decode cX10_sizeInFirst 1 = .ok (.iload_n 1, 1) := by decide +kernel
theorem dX10_sizeInFirst_2 : decode cX10_sizeInFirst 2 = .ok (.iload_n 2, 1) := by decide +kernel
theorem dX10_sizeInFirst_3 : decode cX10_sizeInFirst 3 = .ok (.iconst 0, 1) := by decide +kernel
theorem dX10_sizeInFirst_4 : decode cX10_sizeInFirst 4 = .ok (.invokevirtual 229, 3) := by decide +kernel
theorem dX10_sizeInFirst_7 : decode cX10_sizeInFirst 7 = .ok (.ireturn, 1) := by decide +kernel
set_option maxRecDepth 20000 in
theorem ggX10_cornerInFirst_X10_inFirst : GoodIn wsX10_cornerInFirst wsX10_inFirst := goodIn_r _ [5, 6, 7, 8, 9, 10, 4, 11, 12, 13, 14, 15, 16, 17, 18, 19, 20, 21, 22, 23, 24, 25, 26, 27, 28, 29, 30, 31, 32, 33, 34, 35, 36, 37, 38, 39, 40, 41, 42, 43, 44, 45, 46, 47, 48, 49, 50, 51, 52, 53, 54, 55, 56, 57, 58, 59, 60, 61, 62, 63, 64, 65, 66, 67, 68, 69, 70, 71, 72, 73, 74, 75, 76, 77, 78, 79, 80, 81, 82, 83, 84, 85, 86, 87, 88, 89, 90, 91, 92, 93, 94, 95, 96, 97, 98] (by decide +kernel) (by decide +kernel)
set_option maxRecDepth 20000 in
theorem gX10_cornerInFirst_X10_inFirst : GoodIn wsX10_cornerInFirst (wsV RX10 229 RX10 yX10_inFirst wsX10_inFirst) := goodIn_app (goodIn_of _ (by decide +kernel)) ggX10_cornerInFirst_X10_inFirst
theorem dX10_cornerInFirst_0 : decode cX10_cornerInFirst 0 = .ok (.aload_n 0, 1) := by decide +kernel
theorem dX10_cornerInFirst_1 : decode cX10_cornerInFirst 1 = .ok (.iload_n 1, 1) := by decide +kernel
theorem dX10_cornerInFirst_2 : decode cX10_cornerInFirst 2 = .ok (.iload_n 2, 1) := by decide +kernel
theorem dX10_cornerInFirst_3 : decode cX10_cornerInFirst 3 = .ok (.iconst 1, 1) := by decide +kernel
theorem dX10_cornerInFirst_4 : decode cX10_cornerInFirst 4 = .ok (.invokevirtual 229, 3) := by decide +kernel
theorem dX10_cornerInFirst_7 : decode cX10_cornerInFirst 7 = .ok (.ireturn, 1) := by decide +kernel
set_option maxRecDepth 20000 in
theorem ggX10_strayFields_X10_ways : GoodIn wsX10_strayFields wsX10_ways := goodIn_r _ [9, 10, 11, 12, 13, 14, 15, 16, 17, 18, 8, 19, 20, 3, 21, 22, 23, 24, 25, 26, 27, 28, 29, 30, 31, 32, 33, 34, 35, 36, 37, 38, 39, 40, 41, 4, 42, 43, 44, 45, 46, 47, 48, 49, 50, 51, 52, 53, 54, 55, 64, 65, 66, 67, 68, 69, 70, 71, 72, 73, 74, 75, 76, 77, 78, 79, 80, 81, 82, 83, 84, 85, 86, 87, 88, 89] (by decide +kernel) (by decide +kernel)
set_option maxRecDepth 20000 in
theorem gX10_strayFields_X10_ways : GoodIn wsX10_strayFields (wsV RX10 202 RX10 yX10_ways wsX10_ways) := goodIn_app (goodIn_of _ (by decide +kernel)) ggX10_strayFields_X10_ways
set_option maxRecDepth 20000 in
theorem ggX10_strayFields_X10_throwing : GoodIn wsX10_strayFields wsX10_throwing := goodIn_r _ [59, 1, 64, 65, 66, 67, 68, 69, 70, 71, 72, 73, 74, 75, 76, 77, 78, 79, 80, 81, 82, 83, 84, 85, 86, 87, 88, 89] (by decide +kernel) (by decide +kernel)
set_option maxRecDepth 20000 in
theorem gX10_strayFields_X10_throwing : GoodIn wsX10_strayFields (wsV RX10 161 RX10 yX10_throwing wsX10_throwing) := goodIn_app (goodIn_of _ (by decide +kernel)) ggX10_strayFields_X10_throwing
set_option maxRecDepth 20000 in
theorem ggX10_strayFields_X10_isSame : GoodIn wsX10_strayFields wsX10_isSame := goodIn_r _ [63, 3, 4, 64, 65, 66, 67, 68, 69, 70, 71, 72, 73, 74, 75, 76, 77, 78, 79, 80, 81, 82, 83, 84, 85, 86, 87, 88, 89] (by decide +kernel) (by decide +kernel)
set_option maxRecDepth 20000 in
theorem gX10_strayFields_X10_isSame : GoodIn wsX10_strayFields (wsV RX10 233 RX10 yX10_isSame wsX10_isSame) := goodIn_app (goodIn_of _ (by decide +kernel)) ggX10_strayFields_X10_isSame
theorem dX10_strayFields_0 : decode cX10_strayFields 0 = .ok (.aload_n 0, 1) := by decide +kernel
theorem dX10_strayFields_1 : decode cX10_strayFields 1 = .ok (.iconst 0, 1) := by decide +kernel
theorem dX10_strayFields_2 : decode cX10_strayFields 2 = .ok (.putfield 69, 3) := by decide +kernel
theorem dX10_strayFields_5 : decode cX10_strayFields 5 = .ok (.iconst 0, 1) := by decide +kernel
theorem dX10_strayFields_6 : decode cX10_strayFields 6 = .ok (.istore_n 1, 1) := by decide +kernel
theorem dX10_strayFields_7 : decode cX10_strayFields 7 = .ok (.iload_n 1, 1) := by decide +kernel
theorem dX10_strayFields_8 : decode cX10_strayFields 8 = .ok (.bipush 42, 2) := by decide +kernel
theorem dX10_strayFields_10 : decode cX10_strayFields 10 = .ok (.if_icmp .ge 34, 3) := by decide +kernel
theorem dX10_strayFields_13 : decode cX10_strayFields 13 = .ok (.aload_n 0, 1) := by decide +kernel
theorem dX10_strayFields_14 : decode cX10_strayFields 14 = .ok (.getfield 66, 3) := by decide +kernel
theorem dX10_strayFields_17 : decode cX10_strayFields 17 = .ok (.iload_n 1, 1) := by decide +kernel
theorem dX10_strayFields_18 : decode cX10_strayFields 18 = .ok (.aload_n 0, 1) := by decide +kernel
theorem dX10_strayFields_19 : decode cX10_strayFields 19 = .ok (.getfield 7, 3) := by decide +kernel
theorem dX10_strayFields_22 : decode cX10_strayFields 22 = .ok (.bipush 42, 2) := by decide +kernel
theorem dX10_strayFields_24 : decode cX10_strayFields 24 = .ok (.iload_n 1, 1) := by decide +kernel
theorem dX10_strayFields_25 : decode cX10_strayFields 25 = .ok (.iadd, 1) := by decide +kernel
theorem dX10_strayFields_26 : decode cX10_strayFields 26 = .ok (.iaload, 1) := by decide +kernel
theorem dX10_strayFields_27 : decode cX10_strayFields 27 = .ok (.iastore, 1) := by decide +kernel
theorem dX10_strayFields_28 : decode cX10_strayFields 28 = .ok (.aload_n 0, 1) := by decide +kernel
theorem dX10_strayFields_29 : decode cX10_strayFields 29 = .ok (.getfield 7, 3) := by decide +kernel
theorem dX10_strayFields_32 : decode cX10_strayFields 32 = .ok (.bipush 42, 2) := by decide +kernel
theorem dX10_strayFields_34 : decode cX10_strayFields 34 = .ok (.iload_n 1, 1) := by decide +kernel
theorem dX10_strayFields_35 : decode cX10_strayFields 35 = .ok (.iadd, 1) := by decide +kernel
theorem dX10_strayFields_36 : decode cX10_strayFields 36 = .ok (.iconst 0, 1) := by decide +kernel
theorem dX10_strayFields_37 : decode cX10_strayFields 37 = .ok (.iastore, 1) := by decide +kernel
theorem dX10_strayFields_38 : decode cX10_strayFields 38 = .ok (.iinc 1 1, 3) := by decide +kernel
theorem dX10_strayFields_41 : decode cX10_strayFields 41 = .ok (.goto (-34), 3) := by decide +kernel
theorem dX10_strayFields_44 : decode cX10_strayFields 44 = .ok (.aload_n 0, 1) := by decide +kernel
theorem dX10_strayFields_45 : decode cX10_strayFields 45 = .ok (.iconst 1, 1) := by decide +kernel
theorem dX10_strayFields_46 : decode cX10_strayFields 46 = .ok (.invokevirtual 202, 3) := by decide +kernel
theorem dX10_strayFields_49 : decode cX10_strayFields 49 = .ok (.istore_n 1, 1) := by decide +kernel
theorem dX10_strayFields_50 : decode cX10_strayFields 50 = .ok (.iconst 0, 1) := by decide +kernel
theorem dX10_strayFields_51 : decode cX10_strayFields 51 = .ok (.istore_n 2, 1) := by decide +kernel
theorem dX10_strayFields_52 : decode cX10_strayFields 52 = .ok (.iload_n 2, 1) := by decide +kernel
theorem dX10_strayFields_53 : decode cX10_strayFields 53 = .ok (.bipush 42, 2) := by decide +kernel
theorem dX10_strayFields_55 : decode cX10_strayFields 55 = .ok (.if_icmp .ge 24, 3) := by decide +kernel
theorem dX10_strayFields_58 : decode cX10_strayFields 58 = .ok (.aload_n 0, 1) := by decide +kernel
theorem dX10_strayFields_59 : decode cX10_strayFields 59 = .ok (.getfield 7, 3) := by decide +kernel
theorem dX10_strayFields_62 : decode cX10_strayFields 62 = .ok (.bipush 42, 2) := by decide +kernel
theorem dX10_strayFields_64 : decode cX10_strayFields 64 = .ok (.iload_n 2, 1) := by decide +kernel
theorem dX10_strayFields_65 : decode cX10_strayFields 65 = .ok (.iadd, 1) := by decide +kernel
theorem dX10_strayFields_66 : decode cX10_strayFields 66 = .ok (.aload_n 0, 1) := by decide +kernel
theorem dX10_strayFields_67 : decode cX10_strayFields 67 = .ok (.getfield 66, 3) := by decide +kernel
theorem dX10_strayFields_70 : decode cX10_strayFields 70 = .ok (.iload_n 2, 1) := by decide +kernel
theorem dX10_strayFields_71 : decode cX10_strayFields 71 = .ok (.iaload, 1) := by decide +kernel
theorem dX10_strayFields_72 : decode cX10_strayFields 72 = .ok (.iastore, 1) := by decide +kernel
theorem dX10_strayFields_73 : decode cX10_strayFields 73 = .ok (.iinc 2 1, 3) := by decide +kernel
theorem dX10_strayFields_76 : decode cX10_strayFields 76 = .ok (.goto (-24), 3) := by decide +kernel
theorem dX10_strayFields_79 : decode cX10_strayFields 79 = .ok (.iload_n 1, 1) := by decide +kernel
theorem dX10_strayFields_80 : decode cX10_strayFields 80 = .ok (.ifCond .ne 9, 3) := by decide +kernel
theorem dX10_strayFields_83 : decode cX10_strayFields 83 = .ok (.aload_n 0, 1) := by decide +kernel
theorem dX10_strayFields_84 : decode cX10_strayFields 84 = .ok (.iconst 1, 1) := by decide +kernel
theorem dX10_strayFields_85 : decode cX10_strayFields 85 = .ok (.invokevirtual 161, 3) := by decide +kernel
theorem dX10_strayFields_88 : decode cX10_strayFields 88 = .ok (.ireturn, 1) := by decide +kernel
theorem dX10_strayFields_89 : decode cX10_strayFields 89 = .ok (.iconst 0, 1) := by decide +kernel
theorem dX10_strayFields_90 : decode cX10_strayFields 90 = .ok (.istore_n 2, 1) := by decide +kernel
theorem dX10_strayFields_91 : decode cX10_strayFields 91 = .ok (.iconst 0, 1) := by decide +kernel
theorem dX10_strayFields_92 : decode cX10_strayFields 92 = .ok (.istore_n 3, 1) := by decide +kernel
theorem dX10_strayFields_93 : decode cX10_strayFields 93 = .ok (.iload_n 3, 1) := by decide +kernel
theorem dX10_strayFields_94 : decode cX10_strayFields 94 = .ok (.bipush 42, 2) := by decide +kernel
theorem dX10_strayFields_96 : decode cX10_strayFields 96 = .ok (.if_icmp .ge 50, 3) := by decide +kernel
theorem dX10_strayFields_99 : decode cX10_strayFields 99 = .ok (.iload_n 2, 1) := by decide +kernel
theorem dX10_strayFields_100 : decode cX10_strayFields 100 = .ok (.aload_n 0, 1) := by decide +kernel
theorem dX10_strayFields_101 : decode cX10_strayFields 101 = .ok (.getfield 7, 3) := by decide +kernel
theorem dX10_strayFields_104 : decode cX10_strayFields 104 = .ok (.bipush 42, 2) := by decide +kernel
theorem dX10_strayFields_106 : decode cX10_strayFields 106 = .ok (.iload_n 3, 1) := by decide +kernel
theorem dX10_strayFields_107 : decode cX10_strayFields 107 = .ok (.iadd, 1) := by decide +kernel
theorem dX10_strayFields_108 : decode cX10_strayFields 108 = .ok (.iaload, 1) := by decide +kernel
theorem dX10_strayFields_109 : decode cX10_strayFields 109 = .ok (.iload_n 3, 1) := by decide +kernel
theorem dX10_strayFields_110 : decode cX10_strayFields 110 = .ok (.iconst 1, 1) := by decide +kernel
theorem dX10_strayFields_111 : decode cX10_strayFields 111 = .ok (.iadd, 1) := by decide +kernel
theorem dX10_strayFields_112 : decode cX10_strayFields 112 = .ok (.if_icmp .ne 25, 3) := by decide +kernel
theorem dX10_strayFields_115 : decode cX10_strayFields 115 = .ok (.aload_n 0, 1) := by decide +kernel
theorem dX10_strayFields_116 : decode cX10_strayFields 116 = .ok (.getfield 57, 3) := by decide +kernel
theorem dX10_strayFields_119 : decode cX10_strayFields 119 = .ok (.iload_n 3, 1) := by decide +kernel
theorem dX10_strayFields_120 : decode cX10_strayFields 120 = .ok (.iaload, 1) := by decide +kernel
theorem dX10_strayFields_121 : decode cX10_strayFields 121 = .ok (.iload_n 3, 1) := by decide +kernel
theorem dX10_strayFields_122 : decode cX10_strayFields 122 = .ok (.if_icmp .ne 11, 3) := by decide +kernel
theorem dX10_strayFields_125 : decode cX10_strayFields 125 = .ok (.aload_n 0, 1) := by decide +kernel
theorem dX10_strayFields_126 : decode cX10_strayFields 126 = .ok (.iload_n 3, 1) := by decide +kernel
theorem dX10_strayFields_127 : decode cX10_strayFields 127 = .ok (.invokevirtual 233, 3) := by decide +kernel
theorem dX10_strayFields_130 : decode cX10_strayFields 130 = .ok (.ifCond .ne 7, 3) := by decide +kernel
theorem dX10_strayFields_133 : decode cX10_strayFields 133 = .ok (.iconst 1, 1) := by decide +kernel
theorem dX10_strayFields_134 : decode cX10_strayFields 134 = .ok (.goto 4, 3) := by decide +kernel
theorem dX10_strayFields_137 : decode cX10_strayFields 137 = .ok (.iconst 0, 1) := by decide +kernel
theorem dX10_strayFields_138 : decode cX10_strayFields 138 = .ok (.iadd, 1) := by decide +kernel
theorem dX10_strayFields_139 : decode cX10_strayFields 139 = .ok (.istore_n 2, 1) := by decide +kernel
theorem dX10_strayFields_140 : decode cX10_strayFields 140 = .ok (.iinc 3 1, 3) := by decide +kernel
theorem dX10_strayFields_143 : decode cX10_strayFields 143 = .ok (.goto (-50), 3) := by decide +kernel
theorem dX10_strayFields_146 : decode cX10_strayFields 146 = .ok (.iload_n 2, 1) := by decide +kernel
theorem dX10_strayFields_147 : decode cX10_strayFields 147 = .ok (.ireturn, 1) := by decide +kernel
theorem dX10_isSame_0 : decode cX10_isSame 0 = .ok (.iconst 1, 1) := by decide +kernel
theorem dX10_isSame_1 : decode cX10_isSame 1 = .ok (.istore_n 2, 1) := by decide +kernel
theorem dX10_isSame_2 : decode cX10_isSame 2 = .ok (.iconst 0, 1) := by decide +kernel
theorem dX10_isSame_3 : decode cX10_isSame 3 = .ok (.istore_n 3, 1) := by decide +kernel
theorem dX10_isSame_4 : decode cX10_isSame 4 = .ok (.iload_n 3, 1) := by decide +kernel
theorem dX10_isSame_5 : decode cX10_isSame 5 = .ok (.bipush 42, 2) := by decide +kernel
theorem dX10_isSame_7 : decode cX10_isSame 7 = .ok (.if_icmp .ge 57, 3) := by decide +kernel
theorem dX10_isSame_10 : decode cX10_isSame 10 = .ok (.iload_n 2, 1) := by decide +kernel
theorem dX10_isSame_11 : decode cX10_isSame 11 = .ok (.ifCond .eq 45, 3) := by decide +kernel
theorem dX10_isSame_14 : decode cX10_isSame 14 = .ok (.aload_n 0, 1) := by decide +kernel
theorem dX10_isSame_15 : decode cX10_isSame 15 = .ok (.getfield 7, 3) := by decide +kernel
theorem dX10_isSame_18 : decode cX10_isSame 18 = .ok (.bipush 42, 2) := by decide +kernel
theorem dX10_isSame_20 : decode cX10_isSame 20 = .ok (.iload_n 3, 1) := by decide +kernel
theorem dX10_isSame_21 : decode cX10_isSame 21 = .ok (.iadd, 1) := by decide +kernel
theorem dX10_isSame_22 : decode cX10_isSame 22 = .ok (.iaload, 1) := by decide +kernel
theorem dX10_isSame_23 : decode cX10_isSame 23 = .ok (.iload_n 1, 1) := by decide +kernel
theorem dX10_isSame_24 : decode cX10_isSame 24 = .ok (.iconst 1, 1) := by decide +kernel
theorem dX10_isSame_25 : decode cX10_isSame 25 = .ok (.iadd, 1) := by decide +kernel
theorem dX10_isSame_26 : decode cX10_isSame 26 = .ok (.if_icmp .ne 7, 3) := by decide +kernel
theorem dX10_isSame_29 : decode cX10_isSame 29 = .ok (.iconst 1, 1) := by decide +kernel
theorem dX10_isSame_30 : decode cX10_isSame 30 = .ok (.goto 4, 3) := by decide +kernel
theorem dX10_isSame_33 : decode cX10_isSame 33 = .ok (.iconst 0, 1) := by decide +kernel
theorem dX10_isSame_34 : decode cX10_isSame 34 = .ok (.aload_n 0, 1) := by decide +kernel
theorem dX10_isSame_35 : decode cX10_isSame 35 = .ok (.getfield 57, 3) := by decide +kernel
theorem dX10_isSame_38 : decode cX10_isSame 38 = .ok (.iload_n 3, 1) := by decide +kernel
theorem dX10_isSame_39 : decode cX10_isSame 39 = .ok (.iaload, 1) := by decide +kernel
theorem dX10_isSame_40 : decode cX10_isSame 40 = .ok (.iload_n 1, 1) := by decide +kernel
theorem dX10_isSame_41 : decode cX10_isSame 41 = .ok (.if_icmp .ne 7, 3) := by decide +kernel
theorem dX10_isSame_44 : decode cX10_isSame 44 = .ok (.iconst 1, 1) := by decide +kernel
theorem dX10_isSame_45 : decode cX10_isSame 45 = .ok (.goto 4, 3) := by decide +kernel
theorem dX10_isSame_48 : decode cX10_isSame 48 = .ok (.iconst 0, 1) := by decide +kernel
theorem dX10_isSame_49 : decode cX10_isSame 49 = .ok (.if_icmp .ne 7, 3) := by decide +kernel
theorem dX10_isSame_52 : decode cX10_isSame 52 = .ok (.iconst 1, 1) := by decide +kernel
theorem dX10_isSame_53 : decode cX10_isSame 53 = .ok (.goto 4, 3) := by decide +kernel
theorem dX10_isSame_56 : decode cX10_isSame 56 = .ok (.iconst 0, 1) := by decide +kernel
theorem dX10_isSame_57 : decode cX10_isSame 57 = .ok (.istore_n 2, 1) := by decide +kernel
theorem dX10_isSame_58 : decode cX10_isSame 58 = .ok (.iinc 3 1, 3) := by decide +kernel
theorem dX10_isSame_61 : decode cX10_isSame 61 = .ok (.goto (-57), 3) := by decide +kernel
theorem dX10_isSame_64 : decode cX10_isSame 64 = .ok (.iload_n 2, 1) := by decide +kernel
theorem dX10_isSame_65 : decode cX10_isSame 65 = .ok (.ireturn, 1) := by decide +kernel
set_option maxRecDepth 20000 in
theorem ggX10_mean_X10_numbered : GoodIn wsX10_mean wsX10_numbered := goodIn_r _ [7, 8, 19, 20, 21, 22, 23, 24, 25, 26, 27, 28, 29, 30, 31, 32, 33, 34, 35, 36, 37, 38, 39, 40, 41, 42, 43, 44] (by decide +kernel) (by decide +kernel)
set_option maxRecDepth 20000 in
theorem gX10_mean_X10_numbered : GoodIn wsX10_mean (wsV RX10 84 RX10 yX10_numbered wsX10_numbered) := goodIn_app (goodIn_of _ (by decide +kernel)) ggX10_mean_X10_numbered
set_option maxRecDepth 20000 in
theorem ggX10_mean_X10_taken : GoodIn wsX10_mean wsX10_taken := goodIn_r _ [12, 8, 19, 20, 21, 22, 23, 24, 25, 26, 27, 28, 29, 30, 31, 32, 33, 34, 35, 36, 37, 38, 39, 40, 41, 42, 43, 44] (by decide +kernel) (by decide +kernel)
set_option maxRecDepth 20000 in
theorem gX10_mean_X10_taken : GoodIn wsX10_mean (wsV RX10 88 RX10 yX10_taken wsX10_taken) := goodIn_app (goodIn_of _ (by decide +kernel)) ggX10_mean_X10_taken
set_option maxRecDepth 20000 in
theorem ggX10_mean_X10_bits : GoodIn wsX10_mean wsX10_bits := goodIn_r _ [15, 16, 17, 6, 18] (by decide +kernel) (by decide +kernel)
set_option maxRecDepth 20000 in
theorem gX10_mean_X10_bits : GoodIn wsX10_mean (va_wsS RX10 91 yX10_bits wsX10_bits) := goodIn_app (goodIn_of _ (by decide +kernel)) ggX10_mean_X10_bits
theorem dX10_mean_0 : decode cX10_mean 0 = .ok (.aload_n 0, 1) := by decide +kernel
theorem dX10_mean_1 : decode cX10_mean 1 = .ok (.invokevirtual 84, 3) := by decide +kernel
theorem dX10_mean_4 : decode cX10_mean 4 = .ok (.aload_n 0, 1) := by decide +kernel
theorem dX10_mean_5 : decode cX10_mean 5 = .ok (.invokevirtual 88, 3) := by decide +kernel
theorem dX10_mean_8 : decode cX10_mean 8 = .ok (.ldc2_w 111, 3) := by decide +kernel
theorem dX10_mean_11 : decode cX10_mean 11 = .ok (.lxor, 1) := by decide +kernel
theorem dX10_mean_12 : decode cX10_mean 12 = .ok (.land, 1) := by decide +kernel
theorem dX10_mean_13 : decode cX10_mean 13 = .ok (.invokestatic 91, 3) := by decide +kernel
theorem dX10_mean_16 : decode cX10_mean 16 = .ok (.istore_n 1, 1) := by decide +kernel
theorem dX10_mean_17 : decode cX10_mean 17 = .ok (.iload_n 1, 1) := by decide +kernel
theorem dX10_mean_18 : decode cX10_mean 18 = .ok (.ifCond .ne 7, 3) := by decide +kernel
theorem dX10_mean_21 : decode cX10_mean 21 = .ok (.dconst 0, 1) := by decide +kernel
theorem dX10_mean_22 : decode cX10_mean 22 = .ok (.goto 11, 3) := by decide +kernel
theorem dX10_mean_25 : decode cX10_mean 25 = .ok (.aload_n 0, 1) := by decide +kernel
theorem dX10_mean_26 : decode cX10_mean 26 = .ok (.getfield 102, 3) := by decide +kernel
theorem dX10_mean_29 : decode cX10_mean 29 = .ok (.i2d, 1) := by decide +kernel
theorem dX10_mean_30 : decode cX10_mean 30 = .ok (.iload_n 1, 1) := by decide +kernel
theorem dX10_mean_31 : decode cX10_mean 31 = .ok (.i2d, 1) := by decide +kernel
theorem dX10_mean_32 : decode cX10_mean 32 = .ok (.ddiv, 1) := by decide +kernel
theorem dX10_mean_33 : decode cX10_mean 33 = .ok (.dreturn, 1) := by decide +kernel
set_option maxRecDepth 20000 in
theorem ggX10_meanPossible_X10_finds : GoodIn wsX10_meanPossible wsX10_finds := goodIn_r _ [6, 7, 8, 9, 10, 11, 12, 5, 13, 14, 15, 16, 17, 18, 19, 20, 21, 22, 23, 24, 25, 26, 27, 39, 40, 41, 42, 43, 44, 45, 46, 47, 48, 49, 50, 51, 52, 53, 54, 55, 56, 57, 58, 59, 60, 61, 62, 63, 64] (by decide +kernel) (by decide +kernel)
set_option maxRecDepth 20000 in
theorem gX10_meanPossible_X10_finds : GoodIn wsX10_meanPossible (wsV RX10 113 RX10 yX10_finds wsX10_finds) := goodIn_app (goodIn_of _ (by decide +kernel)) ggX10_meanPossible_X10_finds
set_option maxRecDepth 20000 in
theorem ggX10_meanPossible_X10_mean : GoodIn wsX10_meanPossible wsX10_mean := goodIn_r _ [31, 32, 7, 10, 11, 12, 5, 13, 9, 14, 15, 16, 17, 33, 34, 35, 36, 37, 38, 39, 40, 41, 42, 43, 44, 45, 46, 47, 48, 49, 50, 51, 52, 53, 54, 55, 56, 57, 58, 59, 60, 61, 62, 63, 64] (by decide +kernel) (by decide +kernel)
set_option maxRecDepth 20000 in
theorem gX10_meanPossible_X10_mean : GoodIn wsX10_meanPossible (wsV RX10 236 RX10 yX10_mean wsX10_mean) := goodIn_app (goodIn_of _ (by decide +kernel)) ggX10_meanPossible_X10_mean
theorem dX10_meanPossible_0 : decode cX10_meanPossible 0 = .ok (.aload_n 0, 1) := by decide +kernel
theorem dX10_meanPossible_1 : decode cX10_meanPossible 1 = .ok (.iconst 0, 1) := by decide +kernel
theorem dX10_meanPossible_2 : decode cX10_meanPossible 2 = .ok (.putfield 69, 3) := by decide +kernel
theorem dX10_meanPossible_5 : decode cX10_meanPossible 5 = .ok (.aload_n 0, 1) := by decide +kernel
theorem dX10_meanPossible_6 : decode cX10_meanPossible 6 = .ok (.invokevirtual 113, 3) := by decide +kernel
theorem dX10_meanPossible_9 : decode cX10_meanPossible 9 = .ok (.aload_n 0, 1) := by decide +kernel
theorem dX10_meanPossible_10 : decode cX10_meanPossible 10 = .ok (.invokevirtual 236, 3) := by decide +kernel
theorem dX10_meanPossible_13 : decode cX10_meanPossible 13 = .ok (.dreturn, 1) := by decide +kernel
theorem dX10_bitsOf_0 : decode cX10_bitsOf 0 = .ok (.dload_n 0, 1) := by decide +kernel
theorem dX10_bitsOf_1 : decode cX10_bitsOf 1 = .ok (.dconst 0, 1) := by decide +kernel
theorem dX10_bitsOf_2 : decode cX10_bitsOf 2 = .ok (.dcmp .l, 1) := by decide +kernel
theorem dX10_bitsOf_3 : decode cX10_bitsOf 3 = .ok (.ifCond .ne 5, 3) := by decide +kernel
theorem dX10_bitsOf_6 : decode cX10_bitsOf 6 = .ok (.lconst 0, 1) := by decide +kernel
theorem dX10_bitsOf_7 : decode cX10_bitsOf 7 = .ok (.lreturn, 1) := by decide +kernel
theorem dX10_bitsOf_8 : decode cX10_bitsOf 8 = .ok (.dload_n 0, 1) := by decide +kernel
theorem dX10_bitsOf_9 : decode cX10_bitsOf 9 = .ok (.dstore 4, 2) := by decide +kernel
theorem dX10_bitsOf_11 : decode cX10_bitsOf 11 = .ok (.iload_n 3, 1) := by decide +kernel
theorem dX10_bitsOf_12 : decode cX10_bitsOf 12 = .ok (.istore 6, 2) := by decide +kernel
theorem dX10_bitsOf_14 : decode cX10_bitsOf 14 = .ok (.dload 4, 2) := by decide +kernel
theorem dX10_bitsOf_16 : decode cX10_bitsOf 16 = .ok (.ldc2_w 240, 3) := by decide +kernel
theorem dX10_bitsOf_19 : decode cX10_bitsOf 19 = .ok (.dcmp .l, 1) := by decide +kernel
theorem dX10_bitsOf_20 : decode cX10_bitsOf 20 = .ok (.ifCond .lt 17, 3) := by decide +kernel
theorem dX10_bitsOf_23 : decode cX10_bitsOf 23 = .ok (.dload 4, 2) := by decide +kernel
theorem dX10_bitsOf_25 : decode cX10_bitsOf 25 = .ok (.ldc2_w 240, 3) := by decide +kernel
theorem dX10_bitsOf_28 : decode cX10_bitsOf 28 = .ok (.ddiv, 1) := by decide +kernel
theorem dX10_bitsOf_29 : decode cX10_bitsOf 29 = .ok (.dstore 4, 2) := by decide +kernel
theorem dX10_bitsOf_31 : decode cX10_bitsOf 31 = .ok (.iinc 6 1, 3) := by decide +kernel
theorem dX10_bitsOf_34 : decode cX10_bitsOf 34 = .ok (.goto (-20), 3) := by decide +kernel
theorem dX10_bitsOf_37 : decode cX10_bitsOf 37 = .ok (.dload 4, 2) := by decide +kernel
theorem dX10_bitsOf_39 : decode cX10_bitsOf 39 = .ok (.dconst 1, 1) := by decide +kernel
theorem dX10_bitsOf_40 : decode cX10_bitsOf 40 = .ok (.dcmp .g, 1) := by decide +kernel
theorem dX10_bitsOf_41 : decode cX10_bitsOf 41 = .ok (.ifCond .ge 17, 3) := by decide +kernel
theorem dX10_bitsOf_44 : decode cX10_bitsOf 44 = .ok (.dload 4, 2) := by decide +kernel
theorem dX10_bitsOf_46 : decode cX10_bitsOf 46 = .ok (.ldc2_w 240, 3) := by decide +kernel
theorem dX10_bitsOf_49 : decode cX10_bitsOf 49 = .ok (.dmul, 1) := by decide +kernel
theorem dX10_bitsOf_50 : decode cX10_bitsOf 50 = .ok (.dstore 4, 2) := by decide +kernel
theorem dX10_bitsOf_52 : decode cX10_bitsOf 52 = .ok (.iinc 6 (-1), 3) := by decide +kernel
theorem dX10_bitsOf_55 : decode cX10_bitsOf 55 = .ok (.goto (-18), 3) := by decide +kernel
theorem dX10_bitsOf_58 : decode cX10_bitsOf 58 = .ok (.dload 4, 2) := by decide +kernel
theorem dX10_bitsOf_60 : decode cX10_bitsOf 60 = .ok (.dconst 1, 1) := by decide +kernel
theorem dX10_bitsOf_61 : decode cX10_bitsOf 61 = .ok (.dsub, 1) := by decide +kernel
theorem dX10_bitsOf_62 : decode cX10_bitsOf 62 = .ok (.dstore 7, 2) := by decide +kernel
theorem dX10_bitsOf_64 : decode cX10_bitsOf 64 = .ok (.iload 6, 2) := by decide +kernel
theorem dX10_bitsOf_66 : decode cX10_bitsOf 66 = .ok (.i2l, 1) := by decide +kernel
theorem dX10_bitsOf_67 : decode cX10_bitsOf 67 = .ok (.lstore 9, 2) := by decide +kernel
theorem dX10_bitsOf_69 : decode cX10_bitsOf 69 = .ok (.iconst 0, 1) := by decide +kernel
theorem dX10_bitsOf_70 : decode cX10_bitsOf 70 = .ok (.istore 11, 2) := by decide +kernel
theorem dX10_bitsOf_72 : decode cX10_bitsOf 72 = .ok (.iload 11, 2) := by decide +kernel
theorem dX10_bitsOf_74 : decode cX10_bitsOf 74 = .ok (.iload_n 2, 1) := by decide +kernel
theorem dX10_bitsOf_75 : decode cX10_bitsOf 75 = .ok (.if_icmp .ge 50, 3) := by decide +kernel
theorem dX10_bitsOf_78 : decode cX10_bitsOf 78 = .ok (.dload 7, 2) := by decide +kernel
theorem dX10_bitsOf_80 : decode cX10_bitsOf 80 = .ok (.ldc2_w 240, 3) := by decide +kernel
theorem dX10_bitsOf_83 : decode cX10_bitsOf 83 = .ok (.dmul, 1) := by decide +kernel
theorem dX10_bitsOf_84 : decode cX10_bitsOf 84 = .ok (.dstore 7, 2) := by decide +kernel
theorem dX10_bitsOf_86 : decode cX10_bitsOf 86 = .ok (.dload 7, 2) := by decide +kernel
theorem dX10_bitsOf_88 : decode cX10_bitsOf 88 = .ok (.dconst 1, 1) := by decide +kernel
theorem dX10_bitsOf_89 : decode cX10_bitsOf 89 = .ok (.dcmp .l, 1) := by decide +kernel
theorem dX10_bitsOf_90 : decode cX10_bitsOf 90 = .ok (.ifCond .lt 7, 3) := by decide +kernel
theorem dX10_bitsOf_93 : decode cX10_bitsOf 93 = .ok (.lconst 1, 1) := by decide +kernel
theorem dX10_bitsOf_94 : decode cX10_bitsOf 94 = .ok (.goto 4, 3) := by decide +kernel
theorem dX10_bitsOf_97 : decode cX10_bitsOf 97 = .ok (.lconst 0, 1) := by decide +kernel
theorem dX10_bitsOf_98 : decode cX10_bitsOf 98 = .ok (.lstore 12, 2) := by decide +kernel
theorem dX10_bitsOf_100 : decode cX10_bitsOf 100 = .ok (.dload 7, 2) := by decide +kernel
theorem dX10_bitsOf_102 : decode cX10_bitsOf 102 = .ok (.lload 12, 2) := by decide +kernel
theorem dX10_bitsOf_104 : decode cX10_bitsOf 104 = .ok (.l2d, 1) := by decide +kernel
theorem dX10_bitsOf_105 : decode cX10_bitsOf 105 = .ok (.dsub, 1) := by decide +kernel
theorem dX10_bitsOf_106 : decode cX10_bitsOf 106 = .ok (.dstore 7, 2) := by decide +kernel
theorem dX10_bitsOf_108 : decode cX10_bitsOf 108 = .ok (.ldc2_w 242, 3) := by decide +kernel
theorem dX10_bitsOf_111 : decode cX10_bitsOf 111 = .ok (.lload 9, 2) := by decide +kernel
theorem dX10_bitsOf_113 : decode cX10_bitsOf 113 = .ok (.lmul, 1) := by decide +kernel
theorem dX10_bitsOf_114 : decode cX10_bitsOf 114 = .ok (.lload 12, 2) := by decide +kernel
theorem dX10_bitsOf_116 : decode cX10_bitsOf 116 = .ok (.ladd, 1) := by decide +kernel
theorem dX10_bitsOf_117 : decode cX10_bitsOf 117 = .ok (.lstore 9, 2) := by decide +kernel
theorem dX10_bitsOf_119 : decode cX10_bitsOf 119 = .ok (.iinc 11 1, 3) := by decide +kernel
theorem dX10_bitsOf_122 : decode cX10_bitsOf 122 = .ok (.goto (-50), 3) := by decide +kernel
theorem dX10_bitsOf_125 : decode cX10_bitsOf 125 = .ok (.lload 9, 2) := by decide +kernel
theorem dX10_bitsOf_127 : decode cX10_bitsOf 127 = .ok (.lreturn, 1) := by decide +kernel
theorem dX10_mix_0 : decode cX10_mix 0 = .ok (.aload_n 0, 1) := by decide +kernel
theorem dX10_mix_1 : decode cX10_mix 1 = .ok (.ldc2_w 244, 3) := by decide +kernel
theorem dX10_mix_4 : decode cX10_mix 4 = .ok (.aload_n 0, 1) := by decide +kernel
theorem dX10_mix_5 : decode cX10_mix 5 = .ok (.getfield 246, 3) := by decide +kernel
theorem dX10_mix_8 : decode cX10_mix 8 = .ok (.lmul, 1) := by decide +kernel
theorem dX10_mix_9 : decode cX10_mix 9 = .ok (.lload_n 1, 1) := by decide +kernel
theorem dX10_mix_10 : decode cX10_mix 10 = .ok (.ladd, 1) := by decide +kernel
theorem dX10_mix_11 : decode cX10_mix 11 = .ok (.putfield 246, 3) := by decide +kernel
theorem dX10_mix_14 : decode cX10_mix 14 = .ok (.return_, 1) := by decide +kernel
set_option maxRecDepth 20000 in
theorem ggX10_digest_X10_rules : GoodIn wsX10_digest wsX10_rules := goodIn_r _ [19, 5, 20, 8, 21, 22, 23, 24, 18, 25, 26, 4, 27, 28, 29, 30, 31, 32, 33, 34, 35, 36, 37, 38, 39, 6, 7, 40, 41, 42, 43, 44, 45, 46, 47, 48, 49, 50, 51, 52, 53, 54, 136, 137, 138, 139, 140, 141, 142, 143, 144, 145, 146, 147, 148, 149, 150, 151, 152, 153, 154, 155, 156, 157, 158, 159, 160, 161] (by decide +kernel) (by decide +kernel)
set_option maxRecDepth 20000 in
theorem gX10_digest_X10_rules : GoodIn wsX10_digest (wsV RX10 192 RX10 yX10_rules wsX10_rules) := goodIn_app (goodIn_of _ (by decide +kernel)) ggX10_digest_X10_rules
set_option maxRecDepth 20000 in
theorem ggX10_digest_X10_mix : GoodIn wsX10_digest wsX10_mix := goodIn_r _ [58, 59, 3, 136, 137, 138, 139, 140, 141, 142, 143, 144, 145, 146, 147, 148, 149, 150, 151, 152, 153, 154, 155, 156, 157, 158, 159, 160, 161] (by decide +kernel) (by decide +kernel)
set_option maxRecDepth 20000 in
theorem gX10_digest_X10_mix : GoodIn wsX10_digest (wsV RX10 251 RX10 yX10_mix wsX10_mix) := goodIn_app (goodIn_of _ (by decide +kernel)) ggX10_digest_X10_mix
set_option maxRecDepth 20000 in
theorem ggX10_digest_X10_fieldOf : GoodIn wsX10_digest wsX10_fieldOf := goodIn_r _ [63, 4, 136, 137, 138, 139, 140, 141, 142, 143, 144, 145, 146, 147, 148, 149, 150, 151, 152, 153, 154, 155, 156, 157, 158, 159, 160, 161] (by decide +kernel) (by decide +kernel)
set_option maxRecDepth 20000 in
theorem gX10_digest_X10_fieldOf : GoodIn wsX10_digest (wsV RX10 133 RX10 yX10_fieldOf wsX10_fieldOf) := goodIn_app (goodIn_of _ (by decide +kernel)) ggX10_digest_X10_fieldOf
set_option maxRecDepth 20000 in
theorem ggX10_digest_X10_bits : GoodIn wsX10_digest wsX10_bits := goodIn_r _ [66, 67, 68, 18, 69] (by decide +kernel) (by decide +kernel)
set_option maxRecDepth 20000 in
theorem gX10_digest_X10_bits : GoodIn wsX10_digest (va_wsS RX10 91 yX10_bits wsX10_bits) := goodIn_app (goodIn_of _ (by decide +kernel)) ggX10_digest_X10_bits
set_option maxRecDepth 20000 in
theorem ggX10_digest_X10_countOf : GoodIn wsX10_digest wsX10_countOf := goodIn_r _ [73, 5, 6, 136, 137, 138, 139, 140, 141, 142, 143, 144, 145, 146, 147, 148, 149, 150, 151, 152, 153, 154, 155, 156, 157, 158, 159, 160, 161] (by decide +kernel) (by decide +kernel)
set_option maxRecDepth 20000 in
theorem gX10_digest_X10_countOf : GoodIn wsX10_digest (wsV RX10 214 RX10 yX10_countOf wsX10_countOf) := goodIn_app (goodIn_of _ (by decide +kernel)) ggX10_digest_X10_countOf
set_option maxRecDepth 20000 in
theorem ggX10_digest_X10_covering : GoodIn wsX10_digest wsX10_covering := goodIn_r _ [77, 5, 39, 67, 68, 18, 69, 136, 137, 138, 139, 140, 141, 142, 143, 144, 145, 146, 147, 148, 149, 150, 151, 152, 153, 154, 155, 156, 157, 158, 159, 160, 161] (by decide +kernel) (by decide +kernel)
set_option maxRecDepth 20000 in
theorem gX10_digest_X10_covering : GoodIn wsX10_digest (wsV RX10 217 RX10 yX10_covering wsX10_covering) := goodIn_app (goodIn_of _ (by decide +kernel)) ggX10_digest_X10_covering
set_option maxRecDepth 20000 in
theorem ggX10_digest_X10_claiming : GoodIn wsX10_digest wsX10_claiming := goodIn_r _ [81, 5, 39, 6, 67, 68, 18, 69, 64, 65, 66, 136, 137, 138, 139, 140, 141, 142, 143, 144, 145, 146, 147, 148, 149, 150, 151, 152, 153, 154, 155, 156, 157, 158, 159, 160, 161] (by decide +kernel) (by decide +kernel)
set_option maxRecDepth 20000 in
theorem gX10_digest_X10_claiming : GoodIn wsX10_digest (wsV RX10 220 RX10 yX10_claiming wsX10_claiming) := goodIn_app (goodIn_of _ (by decide +kernel)) ggX10_digest_X10_claiming
set_option maxRecDepth 20000 in
theorem ggX10_digest_X10_leftIn : GoodIn wsX10_digest wsX10_leftIn := goodIn_r _ [85, 5, 6, 20, 136, 137, 138, 139, 140, 141, 142, 143, 144, 145, 146, 147, 148, 149, 150, 151, 152, 153, 154, 155, 156, 157, 158, 159, 160, 161] (by decide +kernel) (by decide +kernel)
set_option maxRecDepth 20000 in
theorem gX10_digest_X10_leftIn : GoodIn wsX10_digest (wsV RX10 126 RX10 yX10_leftIn wsX10_leftIn) := goodIn_app (goodIn_of _ (by decide +kernel)) ggX10_digest_X10_leftIn
set_option maxRecDepth 20000 in
theorem ggX10_digest_X10_numbered : GoodIn wsX10_digest wsX10_numbered := goodIn_r _ [30, 4, 136, 137, 138, 139, 140, 141, 142, 143, 144, 145, 146, 147, 148, 149, 150, 151, 152, 153, 154, 155, 156, 157, 158, 159, 160, 161] (by decide +kernel) (by decide +kernel)
set_option maxRecDepth 20000 in
theorem gX10_digest_X10_numbered : GoodIn wsX10_digest (wsV RX10 84 RX10 yX10_numbered wsX10_numbered) := goodIn_app (goodIn_of _ (by decide +kernel)) ggX10_digest_X10_numbered
set_option maxRecDepth 20000 in
theorem ggX10_digest_X10_total : GoodIn wsX10_digest wsX10_total := goodIn_r _ [89, 4, 136, 137, 138, 139, 140, 141, 142, 143, 144, 145, 146, 147, 148, 149, 150, 151, 152, 153, 154, 155, 156, 157, 158, 159, 160, 161] (by decide +kernel) (by decide +kernel)
set_option maxRecDepth 20000 in
theorem gX10_digest_X10_total : GoodIn wsX10_digest (wsV RX10 211 RX10 yX10_total wsX10_total) := goodIn_app (goodIn_of _ (by decide +kernel)) ggX10_digest_X10_total
set_option maxRecDepth 20000 in
theorem ggX10_digest_X10_allFields : GoodIn wsX10_digest wsX10_allFields := goodIn_r _ [93, 4, 136, 137, 138, 139, 140, 141, 142, 143, 144, 145, 146, 147, 148, 149, 150, 151, 152, 153, 154, 155, 156, 157, 158, 159, 160, 161] (by decide +kernel) (by decide +kernel)
set_option maxRecDepth 20000 in
theorem gX10_digest_X10_allFields : GoodIn wsX10_digest (wsV RX10 188 RX10 yX10_allFields wsX10_allFields) := goodIn_app (goodIn_of _ (by decide +kernel)) ggX10_digest_X10_allFields
set_option maxRecDepth 20000 in
theorem ggX10_digest_X10_taken : GoodIn wsX10_digest wsX10_taken := goodIn_r _ [34, 4, 136, 137, 138, 139, 140, 141, 142, 143, 144, 145, 146, 147, 148, 149, 150, 151, 152, 153, 154, 155, 156, 157, 158, 159, 160, 161] (by decide +kernel) (by decide +kernel)
set_option maxRecDepth 20000 in
theorem gX10_digest_X10_taken : GoodIn wsX10_digest (wsV RX10 88 RX10 yX10_taken wsX10_taken) := goodIn_app (goodIn_of _ (by decide +kernel)) ggX10_digest_X10_taken
set_option maxRecDepth 20000 in
theorem ggX10_digest_X10_leftAll : GoodIn wsX10_digest wsX10_leftAll := goodIn_r _ [97, 5, 20, 136, 137, 138, 139, 140, 141, 142, 143, 144, 145, 146, 147, 148, 149, 150, 151, 152, 153, 154, 155, 156, 157, 158, 159, 160, 161] (by decide +kernel) (by decide +kernel)
set_option maxRecDepth 20000 in
theorem gX10_digest_X10_leftAll : GoodIn wsX10_digest (wsV RX10 223 RX10 yX10_leftAll wsX10_leftAll) := goodIn_app (goodIn_of _ (by decide +kernel)) ggX10_digest_X10_leftAll
set_option maxRecDepth 20000 in
theorem ggX10_digest_X10_isAgainst : GoodIn wsX10_digest wsX10_isAgainst := goodIn_r _ [101, 49, 4, 48, 31, 32, 33, 18, 34, 136, 137, 138, 139, 140, 141, 142, 143, 144, 145, 146, 147, 148, 149, 150, 151, 152, 153, 154, 155, 156, 157, 158, 159, 160, 161] (by decide +kernel) (by decide +kernel)
set_option maxRecDepth 20000 in
theorem gX10_digest_X10_isAgainst : GoodIn wsX10_digest (wsV RX10 195 RX10 yX10_isAgainst wsX10_isAgainst) := goodIn_app (goodIn_of _ (by decide +kernel)) ggX10_digest_X10_isAgainst
set_option maxRecDepth 20000 in
theorem ggX10_digest_X10_sure : GoodIn wsX10_digest wsX10_sure := goodIn_r _ [105, 106, 107, 108, 18, 109, 4, 82, 83, 84, 85, 5, 6, 20, 136, 137, 138, 139, 140, 141, 142, 143, 144, 145, 146, 147, 148, 149, 150, 151, 152, 153, 154, 155, 156, 157, 158, 159, 160, 161] (by decide +kernel) (by decide +kernel)
set_option maxRecDepth 20000 in
theorem gX10_digest_X10_sure : GoodIn wsX10_digest (wsV RX10 199 RX10 yX10_sure wsX10_sure) := goodIn_app (goodIn_of _ (by decide +kernel)) ggX10_digest_X10_sure
set_option maxRecDepth 20000 in
theorem ggX10_digest_X10_firstSure : GoodIn wsX10_digest wsX10_firstSure := goodIn_r _ [113, 106, 107, 108, 18, 109, 4, 82, 83, 84, 85, 5, 6, 20, 136, 137, 138, 139, 140, 141, 142, 143, 144, 145, 146, 147, 148, 149, 150, 151, 152, 153, 154, 155, 156, 157, 158, 159, 160, 161] (by decide +kernel) (by decide +kernel)
set_option maxRecDepth 20000 in
theorem gX10_digest_X10_firstSure : GoodIn wsX10_digest (wsV RX10 226 RX10 yX10_firstSure wsX10_firstSure) := goodIn_app (goodIn_of _ (by decide +kernel)) ggX10_digest_X10_firstSure
set_option maxRecDepth 20000 in
theorem ggX10_digest_X10_ways : GoodIn wsX10_digest wsX10_ways := goodIn_r _ [117, 118, 48, 54, 26, 39, 119, 22, 23, 24, 18, 25, 5, 4, 27, 28, 29, 30, 31, 32, 33, 34, 35, 36, 37, 38, 6, 7, 40, 41, 42, 120, 121, 122, 123, 10, 9, 60, 61, 62, 63, 64, 65, 66, 67, 68, 69, 124, 125, 126, 136, 137, 138, 139, 140, 141, 142, 143, 144, 145, 146, 147, 148, 149, 150, 151, 152, 153, 154, 155, 156, 157, 158, 159, 160, 161] (by decide +kernel) (by decide +kernel)
set_option maxRecDepth 20000 in
theorem gX10_digest_X10_ways : GoodIn wsX10_digest (wsV RX10 202 RX10 yX10_ways wsX10_ways) := goodIn_app (goodIn_of _ (by decide +kernel)) ggX10_digest_X10_ways
set_option maxRecDepth 20000 in
theorem ggX10_digest_X10_mean : GoodIn wsX10_digest wsX10_mean := goodIn_r _ [130, 54, 5, 27, 28, 29, 18, 30, 4, 31, 32, 33, 34, 64, 65, 66, 67, 68, 69, 136, 137, 138, 139, 140, 141, 142, 143, 144, 145, 146, 147, 148, 149, 150, 151, 152, 153, 154, 155, 156, 157, 158, 159, 160, 161] (by decide +kernel) (by decide +kernel)
set_option maxRecDepth 20000 in
theorem gX10_digest_X10_mean : GoodIn wsX10_digest (wsV RX10 236 RX10 yX10_mean wsX10_mean) := goodIn_app (goodIn_of _ (by decide +kernel)) ggX10_digest_X10_mean
set_option maxRecDepth 20000 in
theorem ggX10_digest_X10_bitsOf : GoodIn wsX10_digest wsX10_bitsOf := goodIn_r _ [133, 134, 135] (by decide +kernel) (by decide +kernel)
set_option maxRecDepth 20000 in
theorem gX10_digest_X10_bitsOf : GoodIn wsX10_digest (va_wsS RX10 254 yX10_bitsOf wsX10_bitsOf) := goodIn_app (goodIn_of _ (by decide +kernel)) ggX10_digest_X10_bitsOf
theorem dX10_digest_0 : decode cX10_digest 0 = .ok (.aload_n 0, 1) := by decide +kernel
theorem dX10_digest_1 : decode cX10_digest 1 = .ok (.iconst 0, 1) := by decide +kernel
theorem dX10_digest_2 : decode cX10_digest 2 = .ok (.putfield 69, 3) := by decide +kernel
theorem dX10_digest_5 : decode cX10_digest 5 = .ok (.aload_n 0, 1) := by decide +kernel
theorem dX10_digest_6 : decode cX10_digest 6 = .ok (.ldc2_w 249, 3) := by decide +kernel
theorem dX10_digest_9 : decode cX10_digest 9 = .ok (.putfield 246, 3) := by decide +kernel
theorem dX10_digest_12 : decode cX10_digest 12 = .ok (.aload_n 0, 1) := by decide +kernel
theorem dX10_digest_13 : decode cX10_digest 13 = .ok (.invokevirtual 192, 3) := by decide +kernel
theorem dX10_digest_16 : decode cX10_digest 16 = .ok (.iconst 0, 1) := by decide +kernel
theorem dX10_digest_17 : decode cX10_digest 17 = .ok (.istore_n 1, 1) := by decide +kernel
theorem dX10_digest_18 : decode cX10_digest 18 = .ok (.iload_n 1, 1) := by decide +kernel
theorem dX10_digest_19 : decode cX10_digest 19 = .ok (.bipush 42, 2) := by decide +kernel
theorem dX10_digest_21 : decode cX10_digest 21 = .ok (.if_icmp .ge 142, 3) := by decide +kernel
theorem dX10_digest_24 : decode cX10_digest 24 = .ok (.aload_n 0, 1) := by decide +kernel
theorem dX10_digest_25 : decode cX10_digest 25 = .ok (.aload_n 0, 1) := by decide +kernel
theorem dX10_digest_26 : decode cX10_digest 26 = .ok (.getfield 7, 3) := by decide +kernel
theorem dX10_digest_29 : decode cX10_digest 29 = .ok (.iload_n 1, 1) := by decide +kernel
theorem dX10_digest_30 : decode cX10_digest 30 = .ok (.iaload, 1) := by decide +kernel
theorem dX10_digest_31 : decode cX10_digest 31 = .ok (.i2l, 1) := by decide +kernel
theorem dX10_digest_32 : decode cX10_digest 32 = .ok (.invokevirtual 251, 3) := by decide +kernel
theorem dX10_digest_35 : decode cX10_digest 35 = .ok (.aload_n 0, 1) := by decide +kernel
theorem dX10_digest_36 : decode cX10_digest 36 = .ok (.aload_n 0, 1) := by decide +kernel
theorem dX10_digest_37 : decode cX10_digest 37 = .ok (.getfield 7, 3) := by decide +kernel
theorem dX10_digest_40 : decode cX10_digest 40 = .ok (.bipush 42, 2) := by decide +kernel
theorem dX10_digest_42 : decode cX10_digest 42 = .ok (.iload_n 1, 1) := by decide +kernel
theorem dX10_digest_43 : decode cX10_digest 43 = .ok (.iadd, 1) := by decide +kernel
theorem dX10_digest_44 : decode cX10_digest 44 = .ok (.iaload, 1) := by decide +kernel
theorem dX10_digest_45 : decode cX10_digest 45 = .ok (.ifCond .le 17, 3) := by decide +kernel
theorem dX10_digest_48 : decode cX10_digest 48 = .ok (.aload_n 0, 1) := by decide +kernel
theorem dX10_digest_49 : decode cX10_digest 49 = .ok (.iload_n 1, 1) := by decide +kernel
theorem dX10_digest_50 : decode cX10_digest 50 = .ok (.invokevirtual 133, 3) := by decide +kernel
theorem dX10_digest_53 : decode cX10_digest 53 = .ok (.invokestatic 91, 3) := by decide +kernel
theorem dX10_digest_56 : decode cX10_digest 56 = .ok (.iconst 1, 1) := by decide +kernel
theorem dX10_digest_57 : decode cX10_digest 57 = .ok (.iadd, 1) := by decide +kernel
theorem dX10_digest_58 : decode cX10_digest 58 = .ok (.i2l, 1) := by decide +kernel
theorem dX10_digest_59 : decode cX10_digest 59 = .ok (.goto 4, 3) := by decide +kernel
theorem dX10_digest_62 : decode cX10_digest 62 = .ok (.lconst 0, 1) := by decide +kernel
theorem dX10_digest_63 : decode cX10_digest 63 = .ok (.invokevirtual 251, 3) := by decide +kernel
theorem dX10_digest_66 : decode cX10_digest 66 = .ok (.aload_n 0, 1) := by decide +kernel
theorem dX10_digest_67 : decode cX10_digest 67 = .ok (.aload_n 0, 1) := by decide +kernel
theorem dX10_digest_68 : decode cX10_digest 68 = .ok (.getfield 7, 3) := by decide +kernel
theorem dX10_digest_71 : decode cX10_digest 71 = .ok (.bipush 42, 2) := by decide +kernel
theorem dX10_digest_73 : decode cX10_digest 73 = .ok (.iload_n 1, 1) := by decide +kernel
theorem dX10_digest_74 : decode cX10_digest 74 = .ok (.iadd, 1) := by decide +kernel
theorem dX10_digest_75 : decode cX10_digest 75 = .ok (.iaload, 1) := by decide +kernel
theorem dX10_digest_76 : decode cX10_digest 76 = .ok (.i2l, 1) := by decide +kernel
theorem dX10_digest_77 : decode cX10_digest 77 = .ok (.invokevirtual 251, 3) := by decide +kernel
theorem dX10_digest_80 : decode cX10_digest 80 = .ok (.aload_n 0, 1) := by decide +kernel
theorem dX10_digest_81 : decode cX10_digest 81 = .ok (.aload_n 0, 1) := by decide +kernel
theorem dX10_digest_82 : decode cX10_digest 82 = .ok (.iload_n 1, 1) := by decide +kernel
theorem dX10_digest_83 : decode cX10_digest 83 = .ok (.invokevirtual 214, 3) := by decide +kernel
theorem dX10_digest_86 : decode cX10_digest 86 = .ok (.i2l, 1) := by decide +kernel
theorem dX10_digest_87 : decode cX10_digest 87 = .ok (.invokevirtual 251, 3) := by decide +kernel
theorem dX10_digest_90 : decode cX10_digest 90 = .ok (.iconst 0, 1) := by decide +kernel
theorem dX10_digest_91 : decode cX10_digest 91 = .ok (.istore_n 2, 1) := by decide +kernel
theorem dX10_digest_92 : decode cX10_digest 92 = .ok (.iload_n 2, 1) := by decide +kernel
theorem dX10_digest_93 : decode cX10_digest 93 = .ok (.aload_n 0, 1) := by decide +kernel
theorem dX10_digest_94 : decode cX10_digest 94 = .ok (.getfield 102, 3) := by decide +kernel
theorem dX10_digest_97 : decode cX10_digest 97 = .ok (.if_icmp .ge 30, 3) := by decide +kernel
theorem dX10_digest_100 : decode cX10_digest 100 = .ok (.aload_n 0, 1) := by decide +kernel
theorem dX10_digest_101 : decode cX10_digest 101 = .ok (.getfield 30, 3) := by decide +kernel
theorem dX10_digest_104 : decode cX10_digest 104 = .ok (.iload_n 2, 1) := by decide +kernel
theorem dX10_digest_105 : decode cX10_digest 105 = .ok (.iaload, 1) := by decide +kernel
theorem dX10_digest_106 : decode cX10_digest 106 = .ok (.iload_n 1, 1) := by decide +kernel
theorem dX10_digest_107 : decode cX10_digest 107 = .ok (.if_icmp .ne 14, 3) := by decide +kernel
theorem dX10_digest_110 : decode cX10_digest 110 = .ok (.aload_n 0, 1) := by decide +kernel
theorem dX10_digest_111 : decode cX10_digest 111 = .ok (.aload_n 0, 1) := by decide +kernel
theorem dX10_digest_112 : decode cX10_digest 112 = .ok (.getfield 33, 3) := by decide +kernel
theorem dX10_digest_115 : decode cX10_digest 115 = .ok (.iload_n 2, 1) := by decide +kernel
theorem dX10_digest_116 : decode cX10_digest 116 = .ok (.iaload, 1) := by decide +kernel
theorem dX10_digest_117 : decode cX10_digest 117 = .ok (.i2l, 1) := by decide +kernel
theorem dX10_digest_118 : decode cX10_digest 118 = .ok (.invokevirtual 251, 3) := by decide +kernel
theorem dX10_digest_121 : decode cX10_digest 121 = .ok (.iinc 2 1, 3) := by decide +kernel
theorem dX10_digest_124 : decode cX10_digest 124 = .ok (.goto (-32), 3) := by decide +kernel
theorem dX10_digest_127 : decode cX10_digest 127 = .ok (.aload_n 0, 1) := by decide +kernel
theorem dX10_digest_128 : decode cX10_digest 128 = .ok (.aload_n 0, 1) := by decide +kernel
theorem dX10_digest_129 : decode cX10_digest 129 = .ok (.iload_n 1, 1) := by decide +kernel
theorem dX10_digest_130 : decode cX10_digest 130 = .ok (.invokevirtual 217, 3) := by decide +kernel
theorem dX10_digest_133 : decode cX10_digest 133 = .ok (.i2l, 1) := by decide +kernel
theorem dX10_digest_134 : decode cX10_digest 134 = .ok (.invokevirtual 251, 3) := by decide +kernel
theorem dX10_digest_137 : decode cX10_digest 137 = .ok (.aload_n 0, 1) := by decide +kernel
theorem dX10_digest_138 : decode cX10_digest 138 = .ok (.aload_n 0, 1) := by decide +kernel
theorem dX10_digest_139 : decode cX10_digest 139 = .ok (.iload_n 1, 1) := by decide +kernel
theorem dX10_digest_140 : decode cX10_digest 140 = .ok (.invokevirtual 220, 3) := by decide +kernel
theorem dX10_digest_143 : decode cX10_digest 143 = .ok (.i2l, 1) := by decide +kernel
theorem dX10_digest_144 : decode cX10_digest 144 = .ok (.invokevirtual 251, 3) := by decide +kernel
theorem dX10_digest_147 : decode cX10_digest 147 = .ok (.aload_n 0, 1) := by decide +kernel
theorem dX10_digest_148 : decode cX10_digest 148 = .ok (.aload_n 0, 1) := by decide +kernel
theorem dX10_digest_149 : decode cX10_digest 149 = .ok (.iload_n 1, 1) := by decide +kernel
theorem dX10_digest_150 : decode cX10_digest 150 = .ok (.invokevirtual 126, 3) := by decide +kernel
theorem dX10_digest_153 : decode cX10_digest 153 = .ok (.i2l, 1) := by decide +kernel
theorem dX10_digest_154 : decode cX10_digest 154 = .ok (.invokevirtual 251, 3) := by decide +kernel
theorem dX10_digest_157 : decode cX10_digest 157 = .ok (.iinc 1 1, 3) := by decide +kernel
theorem dX10_digest_160 : decode cX10_digest 160 = .ok (.goto (-142), 3) := by decide +kernel
theorem dX10_digest_163 : decode cX10_digest 163 = .ok (.aload_n 0, 1) := by decide +kernel
theorem dX10_digest_164 : decode cX10_digest 164 = .ok (.aload_n 0, 1) := by decide +kernel
theorem dX10_digest_165 : decode cX10_digest 165 = .ok (.invokevirtual 84, 3) := by decide +kernel
theorem dX10_digest_168 : decode cX10_digest 168 = .ok (.invokestatic 91, 3) := by decide +kernel
theorem dX10_digest_171 : decode cX10_digest 171 = .ok (.i2l, 1) := by decide +kernel
theorem dX10_digest_172 : decode cX10_digest 172 = .ok (.invokevirtual 251, 3) := by decide +kernel
theorem dX10_digest_175 : decode cX10_digest 175 = .ok (.aload_n 0, 1) := by decide +kernel
theorem dX10_digest_176 : decode cX10_digest 176 = .ok (.aload_n 0, 1) := by decide +kernel
theorem dX10_digest_177 : decode cX10_digest 177 = .ok (.invokevirtual 211, 3) := by decide +kernel
theorem dX10_digest_180 : decode cX10_digest 180 = .ok (.i2l, 1) := by decide +kernel
theorem dX10_digest_181 : decode cX10_digest 181 = .ok (.invokevirtual 251, 3) := by decide +kernel
theorem dX10_digest_184 : decode cX10_digest 184 = .ok (.aload_n 0, 1) := by decide +kernel
theorem dX10_digest_185 : decode cX10_digest 185 = .ok (.aload_n 0, 1) := by decide +kernel
theorem dX10_digest_186 : decode cX10_digest 186 = .ok (.invokevirtual 188, 3) := by decide +kernel
theorem dX10_digest_189 : decode cX10_digest 189 = .ok (.i2l, 1) := by decide +kernel
theorem dX10_digest_190 : decode cX10_digest 190 = .ok (.invokevirtual 251, 3) := by decide +kernel
theorem dX10_digest_193 : decode cX10_digest 193 = .ok (.aload_n 0, 1) := by decide +kernel
theorem dX10_digest_194 : decode cX10_digest 194 = .ok (.bipush 42, 2) := by decide +kernel
theorem dX10_digest_196 : decode cX10_digest 196 = .ok (.aload_n 0, 1) := by decide +kernel
theorem dX10_digest_197 : decode cX10_digest 197 = .ok (.invokevirtual 88, 3) := by decide +kernel
theorem dX10_digest_200 : decode cX10_digest 200 = .ok (.invokestatic 91, 3) := by decide +kernel
theorem dX10_digest_203 : decode cX10_digest 203 = .ok (.isub, 1) := by decide +kernel
theorem dX10_digest_204 : decode cX10_digest 204 = .ok (.i2l, 1) := by decide +kernel
theorem dX10_digest_205 : decode cX10_digest 205 = .ok (.invokevirtual 251, 3) := by decide +kernel
theorem dX10_digest_208 : decode cX10_digest 208 = .ok (.aload_n 0, 1) := by decide +kernel
theorem dX10_digest_209 : decode cX10_digest 209 = .ok (.aload_n 0, 1) := by decide +kernel
theorem dX10_digest_210 : decode cX10_digest 210 = .ok (.getfield 102, 3) := by decide +kernel
theorem dX10_digest_213 : decode cX10_digest 213 = .ok (.i2l, 1) := by decide +kernel
theorem dX10_digest_214 : decode cX10_digest 214 = .ok (.invokevirtual 251, 3) := by decide +kernel
theorem dX10_digest_217 : decode cX10_digest 217 = .ok (.aload_n 0, 1) := by decide +kernel
theorem dX10_digest_218 : decode cX10_digest 218 = .ok (.aload_n 0, 1) := by decide +kernel
theorem dX10_digest_219 : decode cX10_digest 219 = .ok (.getfield 116, 3) := by decide +kernel
theorem dX10_digest_222 : decode cX10_digest 222 = .ok (.i2l, 1) := by decide +kernel
theorem dX10_digest_223 : decode cX10_digest 223 = .ok (.invokevirtual 251, 3) := by decide +kernel
theorem dX10_digest_226 : decode cX10_digest 226 = .ok (.aload_n 0, 1) := by decide +kernel
theorem dX10_digest_227 : decode cX10_digest 227 = .ok (.aload_n 0, 1) := by decide +kernel
theorem dX10_digest_228 : decode cX10_digest 228 = .ok (.invokevirtual 223, 3) := by decide +kernel
theorem dX10_digest_231 : decode cX10_digest 231 = .ok (.i2l, 1) := by decide +kernel
theorem dX10_digest_232 : decode cX10_digest 232 = .ok (.invokevirtual 251, 3) := by decide +kernel
theorem dX10_digest_235 : decode cX10_digest 235 = .ok (.aload_n 0, 1) := by decide +kernel
theorem dX10_digest_236 : decode cX10_digest 236 = .ok (.invokevirtual 195, 3) := by decide +kernel
theorem dX10_digest_239 : decode cX10_digest 239 = .ok (.istore_n 1, 1) := by decide +kernel
theorem dX10_digest_240 : decode cX10_digest 240 = .ok (.aload_n 0, 1) := by decide +kernel
theorem dX10_digest_241 : decode cX10_digest 241 = .ok (.iload_n 1, 1) := by decide +kernel
theorem dX10_digest_242 : decode cX10_digest 242 = .ok (.ifCond .eq 7, 3) := by decide +kernel
theorem dX10_digest_245 : decode cX10_digest 245 = .ok (.lconst 1, 1) := by decide +kernel
theorem dX10_digest_246 : decode cX10_digest 246 = .ok (.goto 4, 3) := by decide +kernel
theorem dX10_digest_249 : decode cX10_digest 249 = .ok (.lconst 0, 1) := by decide +kernel
theorem dX10_digest_250 : decode cX10_digest 250 = .ok (.invokevirtual 251, 3) := by decide +kernel
theorem dX10_digest_253 : decode cX10_digest 253 = .ok (.aload_n 0, 1) := by decide +kernel
theorem dX10_digest_254 : decode cX10_digest 254 = .ok (.iload_n 1, 1) := by decide +kernel
theorem dX10_digest_255 : decode cX10_digest 255 = .ok (.ifCond .eq 7, 3) := by decide +kernel
theorem dX10_digest_258 : decode cX10_digest 258 = .ok (.lconst 0, 1) := by decide +kernel
theorem dX10_digest_259 : decode cX10_digest 259 = .ok (.goto 10, 3) := by decide +kernel
theorem dX10_digest_262 : decode cX10_digest 262 = .ok (.aload_n 0, 1) := by decide +kernel
theorem dX10_digest_263 : decode cX10_digest 263 = .ok (.invokevirtual 199, 3) := by decide +kernel
theorem dX10_digest_266 : decode cX10_digest 266 = .ok (.iconst 1, 1) := by decide +kernel
theorem dX10_digest_267 : decode cX10_digest 267 = .ok (.iadd, 1) := by decide +kernel
theorem dX10_digest_268 : decode cX10_digest 268 = .ok (.i2l, 1) := by decide +kernel
theorem dX10_digest_269 : decode cX10_digest 269 = .ok (.invokevirtual 251, 3) := by decide +kernel
theorem dX10_digest_272 : decode cX10_digest 272 = .ok (.aload_n 0, 1) := by decide +kernel
theorem dX10_digest_273 : decode cX10_digest 273 = .ok (.iload_n 1, 1) := by decide +kernel
theorem dX10_digest_274 : decode cX10_digest 274 = .ok (.ifCond .eq 7, 3) := by decide +kernel
theorem dX10_digest_277 : decode cX10_digest 277 = .ok (.lconst 0, 1) := by decide +kernel
theorem dX10_digest_278 : decode cX10_digest 278 = .ok (.goto 10, 3) := by decide +kernel
theorem dX10_digest_281 : decode cX10_digest 281 = .ok (.aload_n 0, 1) := by decide +kernel
theorem dX10_digest_282 : decode cX10_digest 282 = .ok (.invokevirtual 226, 3) := by decide +kernel
theorem dX10_digest_285 : decode cX10_digest 285 = .ok (.iconst 1, 1) := by decide +kernel
theorem dX10_digest_286 : decode cX10_digest 286 = .ok (.iadd, 1) := by decide +kernel
theorem dX10_digest_287 : decode cX10_digest 287 = .ok (.i2l, 1) := by decide +kernel
theorem dX10_digest_288 : decode cX10_digest 288 = .ok (.invokevirtual 251, 3) := by decide +kernel
theorem dX10_digest_291 : decode cX10_digest 291 = .ok (.aload_n 0, 1) := by decide +kernel
theorem dX10_digest_292 : decode cX10_digest 292 = .ok (.bipush 50, 2) := by decide +kernel
theorem dX10_digest_294 : decode cX10_digest 294 = .ok (.invokevirtual 202, 3) := by decide +kernel
theorem dX10_digest_297 : decode cX10_digest 297 = .ok (.istore_n 2, 1) := by decide +kernel
theorem dX10_digest_298 : decode cX10_digest 298 = .ok (.aload_n 0, 1) := by decide +kernel
theorem dX10_digest_299 : decode cX10_digest 299 = .ok (.iload_n 2, 1) := by decide +kernel
theorem dX10_digest_300 : decode cX10_digest 300 = .ok (.i2l, 1) := by decide +kernel
theorem dX10_digest_301 : decode cX10_digest 301 = .ok (.invokevirtual 251, 3) := by decide +kernel
theorem dX10_digest_304 : decode cX10_digest 304 = .ok (.aload_n 0, 1) := by decide +kernel
theorem dX10_digest_305 : decode cX10_digest 305 = .ok (.iload_n 2, 1) := by decide +kernel
theorem dX10_digest_306 : decode cX10_digest 306 = .ok (.i2l, 1) := by decide +kernel
theorem dX10_digest_307 : decode cX10_digest 307 = .ok (.invokevirtual 251, 3) := by decide +kernel
theorem dX10_digest_310 : decode cX10_digest 310 = .ok (.iconst 0, 1) := by decide +kernel
theorem dX10_digest_311 : decode cX10_digest 311 = .ok (.istore_n 3, 1) := by decide +kernel
theorem dX10_digest_312 : decode cX10_digest 312 = .ok (.iload_n 3, 1) := by decide +kernel
theorem dX10_digest_313 : decode cX10_digest 313 = .ok (.bipush 42, 2) := by decide +kernel
theorem dX10_digest_315 : decode cX10_digest 315 = .ok (.if_icmp .ge 35, 3) := by decide +kernel
theorem dX10_digest_318 : decode cX10_digest 318 = .ok (.iload_n 2, 1) := by decide +kernel
theorem dX10_digest_319 : decode cX10_digest 319 = .ok (.ifCond .le 31, 3) := by decide +kernel
theorem dX10_digest_322 : decode cX10_digest 322 = .ok (.aload_n 0, 1) := by decide +kernel
theorem dX10_digest_323 : decode cX10_digest 323 = .ok (.aload_n 0, 1) := by decide +kernel
theorem dX10_digest_324 : decode cX10_digest 324 = .ok (.getfield 60, 3) := by decide +kernel
theorem dX10_digest_327 : decode cX10_digest 327 = .ok (.iload_n 3, 1) := by decide +kernel
theorem dX10_digest_328 : decode cX10_digest 328 = .ok (.iaload, 1) := by decide +kernel
theorem dX10_digest_329 : decode cX10_digest 329 = .ok (.i2l, 1) := by decide +kernel
theorem dX10_digest_330 : decode cX10_digest 330 = .ok (.invokevirtual 251, 3) := by decide +kernel
theorem dX10_digest_333 : decode cX10_digest 333 = .ok (.aload_n 0, 1) := by decide +kernel
theorem dX10_digest_334 : decode cX10_digest 334 = .ok (.aload_n 0, 1) := by decide +kernel
theorem dX10_digest_335 : decode cX10_digest 335 = .ok (.getfield 57, 3) := by decide +kernel
theorem dX10_digest_338 : decode cX10_digest 338 = .ok (.iload_n 3, 1) := by decide +kernel
theorem dX10_digest_339 : decode cX10_digest 339 = .ok (.iaload, 1) := by decide +kernel
theorem dX10_digest_340 : decode cX10_digest 340 = .ok (.i2l, 1) := by decide +kernel
theorem dX10_digest_341 : decode cX10_digest 341 = .ok (.invokevirtual 251, 3) := by decide +kernel
theorem dX10_digest_344 : decode cX10_digest 344 = .ok (.iinc 3 1, 3) := by decide +kernel
theorem dX10_digest_347 : decode cX10_digest 347 = .ok (.goto (-35), 3) := by decide +kernel
theorem dX10_digest_350 : decode cX10_digest 350 = .ok (.aload_n 0, 1) := by decide +kernel
theorem dX10_digest_351 : decode cX10_digest 351 = .ok (.aload_n 0, 1) := by decide +kernel
theorem dX10_digest_352 : decode cX10_digest 352 = .ok (.getfield 77, 3) := by decide +kernel
theorem dX10_digest_355 : decode cX10_digest 355 = .ok (.i2l, 1) := by decide +kernel
theorem dX10_digest_356 : decode cX10_digest 356 = .ok (.invokevirtual 251, 3) := by decide +kernel
theorem dX10_digest_359 : decode cX10_digest 359 = .ok (.aload_n 0, 1) := by decide +kernel
theorem dX10_digest_360 : decode cX10_digest 360 = .ok (.aload_n 0, 1) := by decide +kernel
theorem dX10_digest_361 : decode cX10_digest 361 = .ok (.invokevirtual 236, 3) := by decide +kernel
theorem dX10_digest_364 : decode cX10_digest 364 = .ok (.bipush 52, 2) := by decide +kernel
theorem dX10_digest_366 : decode cX10_digest 366 = .ok (.sipush 1023, 3) := by decide +kernel
theorem dX10_digest_369 : decode cX10_digest 369 = .ok (.invokestatic 254, 3) := by decide +kernel
theorem dX10_digest_372 : decode cX10_digest 372 = .ok (.invokevirtual 251, 3) := by decide +kernel
theorem dX10_digest_375 : decode cX10_digest 375 = .ok (.aload_n 0, 1) := by decide +kernel
theorem dX10_digest_376 : decode cX10_digest 376 = .ok (.aload_n 0, 1) := by decide +kernel
theorem dX10_digest_377 : decode cX10_digest 377 = .ok (.getfield 19, 3) := by decide +kernel
theorem dX10_digest_380 : decode cX10_digest 380 = .ok (.iconst 0, 1) := by decide +kernel
theorem dX10_digest_381 : decode cX10_digest 381 = .ok (.baload, 1) := by decide +kernel
theorem dX10_digest_382 : decode cX10_digest 382 = .ok (.ifCond .eq 7, 3) := by decide +kernel
theorem dX10_digest_385 : decode cX10_digest 385 = .ok (.lconst 1, 1) := by decide +kernel
theorem dX10_digest_386 : decode cX10_digest 386 = .ok (.goto 4, 3) := by decide +kernel
theorem dX10_digest_389 : decode cX10_digest 389 = .ok (.lconst 0, 1) := by decide +kernel
theorem dX10_digest_390 : decode cX10_digest 390 = .ok (.invokevirtual 251, 3) := by decide +kernel
theorem dX10_digest_393 : decode cX10_digest 393 = .ok (.aload_n 0, 1) := by decide +kernel
theorem dX10_digest_394 : decode cX10_digest 394 = .ok (.aload_n 0, 1) := by decide +kernel
theorem dX10_digest_395 : decode cX10_digest 395 = .ok (.getfield 19, 3) := by decide +kernel
theorem dX10_digest_398 : decode cX10_digest 398 = .ok (.iconst 1, 1) := by decide +kernel
theorem dX10_digest_399 : decode cX10_digest 399 = .ok (.baload, 1) := by decide +kernel
theorem dX10_digest_400 : decode cX10_digest 400 = .ok (.ifCond .eq 7, 3) := by decide +kernel
theorem dX10_digest_403 : decode cX10_digest 403 = .ok (.lconst 1, 1) := by decide +kernel
theorem dX10_digest_404 : decode cX10_digest 404 = .ok (.goto 4, 3) := by decide +kernel
theorem dX10_digest_407 : decode cX10_digest 407 = .ok (.lconst 0, 1) := by decide +kernel
theorem dX10_digest_408 : decode cX10_digest 408 = .ok (.invokevirtual 251, 3) := by decide +kernel
theorem dX10_digest_411 : decode cX10_digest 411 = .ok (.aload_n 0, 1) := by decide +kernel
theorem dX10_digest_412 : decode cX10_digest 412 = .ok (.aload_n 0, 1) := by decide +kernel
theorem dX10_digest_413 : decode cX10_digest 413 = .ok (.getfield 205, 3) := by decide +kernel
theorem dX10_digest_416 : decode cX10_digest 416 = .ok (.i2l, 1) := by decide +kernel
theorem dX10_digest_417 : decode cX10_digest 417 = .ok (.invokevirtual 251, 3) := by decide +kernel
theorem dX10_digest_420 : decode cX10_digest 420 = .ok (.iconst 0, 1) := by decide +kernel
theorem dX10_digest_421 : decode cX10_digest 421 = .ok (.istore_n 3, 1) := by decide +kernel
theorem dX10_digest_422 : decode cX10_digest 422 = .ok (.iload_n 3, 1) := by decide +kernel
theorem dX10_digest_423 : decode cX10_digest 423 = .ok (.aload_n 0, 1) := by decide +kernel
theorem dX10_digest_424 : decode cX10_digest 424 = .ok (.getfield 205, 3) := by decide +kernel
theorem dX10_digest_427 : decode cX10_digest 427 = .ok (.if_icmp .ge 20, 3) := by decide +kernel
theorem dX10_digest_430 : decode cX10_digest 430 = .ok (.aload_n 0, 1) := by decide +kernel
theorem dX10_digest_431 : decode cX10_digest 431 = .ok (.aload_n 0, 1) := by decide +kernel
theorem dX10_digest_432 : decode cX10_digest 432 = .ok (.getfield 23, 3) := by decide +kernel
theorem dX10_digest_435 : decode cX10_digest 435 = .ok (.iload_n 3, 1) := by decide +kernel
theorem dX10_digest_436 : decode cX10_digest 436 = .ok (.iaload, 1) := by decide +kernel
theorem dX10_digest_437 : decode cX10_digest 437 = .ok (.i2l, 1) := by decide +kernel
theorem dX10_digest_438 : decode cX10_digest 438 = .ok (.invokevirtual 251, 3) := by decide +kernel
theorem dX10_digest_441 : decode cX10_digest 441 = .ok (.iinc 3 1, 3) := by decide +kernel
theorem dX10_digest_444 : decode cX10_digest 444 = .ok (.goto (-22), 3) := by decide +kernel
theorem dX10_digest_447 : decode cX10_digest 447 = .ok (.aload_n 0, 1) := by decide +kernel
theorem dX10_digest_448 : decode cX10_digest 448 = .ok (.getfield 246, 3) := by decide +kernel
theorem dX10_digest_451 : decode cX10_digest 451 = .ok (.lreturn, 1) := by decide +kernel
