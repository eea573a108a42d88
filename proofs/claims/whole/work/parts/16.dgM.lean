theorem dX10_init_0 : decode cX10_init 0 = .ok (.aload_n 0, 1) := by decide +kernel
theorem dX10_init_1 : decode cX10_init 1 = .ok (.invokespecial 1, 3) := by decide +kernel
theorem dX10_init_4 : decode cX10_init 4 = .ok (.aload_n 0, 1) := by decide +kernel
theorem dX10_init_5 : decode cX10_init 5 = .ok (.bipush 84, 2) := by decide +kernel
theorem dX10_init_7 : decode cX10_init 7 = .ok (.newarray .int, 2) := by decide +kernel
theorem dX10_init_9 : decode cX10_init 9 = .ok (.putfield 7, 3) := by decide +kernel
theorem dX10_init_12 : decode cX10_init 12 = .ok (.aload_n 0, 1) := by decide +kernel
theorem dX10_init_13 : decode cX10_init 13 = .ok (.sipush 504, 3) := by decide +kernel
theorem dX10_init_16 : decode cX10_init 16 = .ok (.newarray .int, 2) := by decide +kernel
theorem dX10_init_18 : decode cX10_init 18 = .ok (.putfield 13, 3) := by decide +kernel
theorem dX10_init_21 : decode cX10_init 21 = .ok (.aload_n 0, 1) := by decide +kernel
theorem dX10_init_22 : decode cX10_init 22 = .ok (.sipush 168, 3) := by decide +kernel
theorem dX10_init_25 : decode cX10_init 25 = .ok (.newarray .int, 2) := by decide +kernel
theorem dX10_init_27 : decode cX10_init 27 = .ok (.putfield 16, 3) := by decide +kernel
theorem dX10_init_30 : decode cX10_init 30 = .ok (.aload_n 0, 1) := by decide +kernel
theorem dX10_init_31 : decode cX10_init 31 = .ok (.iconst 2, 1) := by decide +kernel
theorem dX10_init_32 : decode cX10_init 32 = .ok (.newarray .boolean, 2) := by decide +kernel
theorem dX10_init_34 : decode cX10_init 34 = .ok (.putfield 19, 3) := by decide +kernel
theorem dX10_init_37 : decode cX10_init 37 = .ok (.aload_n 0, 1) := by decide +kernel
theorem dX10_init_38 : decode cX10_init 38 = .ok (.bipush 60, 2) := by decide +kernel
theorem dX10_init_40 : decode cX10_init 40 = .ok (.newarray .int, 2) := by decide +kernel
theorem dX10_init_42 : decode cX10_init 42 = .ok (.putfield 23, 3) := by decide +kernel
theorem dX10_init_45 : decode cX10_init 45 = .ok (.aload_n 0, 1) := by decide +kernel
theorem dX10_init_46 : decode cX10_init 46 = .ok (.sipush 1200, 3) := by decide +kernel
theorem dX10_init_49 : decode cX10_init 49 = .ok (.newarray .long, 2) := by decide +kernel
theorem dX10_init_51 : decode cX10_init 51 = .ok (.putfield 26, 3) := by decide +kernel
theorem dX10_init_54 : decode cX10_init 54 = .ok (.aload_n 0, 1) := by decide +kernel
theorem dX10_init_55 : decode cX10_init 55 = .ok (.sipush 1200, 3) := by decide +kernel
theorem dX10_init_58 : decode cX10_init 58 = .ok (.newarray .int, 2) := by decide +kernel
theorem dX10_init_60 : decode cX10_init 60 = .ok (.putfield 30, 3) := by decide +kernel
theorem dX10_init_63 : decode cX10_init 63 = .ok (.aload_n 0, 1) := by decide +kernel
theorem dX10_init_64 : decode cX10_init 64 = .ok (.sipush 1200, 3) := by decide +kernel
theorem dX10_init_67 : decode cX10_init 67 = .ok (.newarray .int, 2) := by decide +kernel
theorem dX10_init_69 : decode cX10_init 69 = .ok (.putfield 33, 3) := by decide +kernel
theorem dX10_init_72 : decode cX10_init 72 = .ok (.aload_n 0, 1) := by decide +kernel
theorem dX10_init_73 : decode cX10_init 73 = .ok (.sipush 252, 3) := by decide +kernel
theorem dX10_init_76 : decode cX10_init 76 = .ok (.newarray .int, 2) := by decide +kernel
theorem dX10_init_78 : decode cX10_init 78 = .ok (.putfield 36, 3) := by decide +kernel
theorem dX10_init_81 : decode cX10_init 81 = .ok (.aload_n 0, 1) := by decide +kernel
theorem dX10_init_82 : decode cX10_init 82 = .ok (.sipush 1200, 3) := by decide +kernel
theorem dX10_init_85 : decode cX10_init 85 = .ok (.newarray .boolean, 2) := by decide +kernel
theorem dX10_init_87 : decode cX10_init 87 = .ok (.putfield 39, 3) := by decide +kernel
theorem dX10_init_90 : decode cX10_init 90 = .ok (.aload_n 0, 1) := by decide +kernel
theorem dX10_init_91 : decode cX10_init 91 = .ok (.sipush 1200, 3) := by decide +kernel
theorem dX10_init_94 : decode cX10_init 94 = .ok (.newarray .boolean, 2) := by decide +kernel
theorem dX10_init_96 : decode cX10_init 96 = .ok (.putfield 42, 3) := by decide +kernel
theorem dX10_init_99 : decode cX10_init 99 = .ok (.aload_n 0, 1) := by decide +kernel
theorem dX10_init_100 : decode cX10_init 100 = .ok (.bipush 42, 2) := by decide +kernel
theorem dX10_init_102 : decode cX10_init 102 = .ok (.newarray .long, 2) := by decide +kernel
theorem dX10_init_104 : decode cX10_init 104 = .ok (.putfield 45, 3) := by decide +kernel
theorem dX10_init_107 : decode cX10_init 107 = .ok (.aload_n 0, 1) := by decide +kernel
theorem dX10_init_108 : decode cX10_init 108 = .ok (.bipush 42, 2) := by decide +kernel
theorem dX10_init_110 : decode cX10_init 110 = .ok (.newarray .long, 2) := by decide +kernel
theorem dX10_init_112 : decode cX10_init 112 = .ok (.putfield 48, 3) := by decide +kernel
theorem dX10_init_115 : decode cX10_init 115 = .ok (.aload_n 0, 1) := by decide +kernel
theorem dX10_init_116 : decode cX10_init 116 = .ok (.bipush 43, 2) := by decide +kernel
theorem dX10_init_118 : decode cX10_init 118 = .ok (.newarray .int, 2) := by decide +kernel
theorem dX10_init_120 : decode cX10_init 120 = .ok (.putfield 51, 3) := by decide +kernel
theorem dX10_init_123 : decode cX10_init 123 = .ok (.aload_n 0, 1) := by decide +kernel
theorem dX10_init_124 : decode cX10_init 124 = .ok (.bipush 43, 2) := by decide +kernel
theorem dX10_init_126 : decode cX10_init 126 = .ok (.newarray .int, 2) := by decide +kernel
theorem dX10_init_128 : decode cX10_init 128 = .ok (.putfield 54, 3) := by decide +kernel
theorem dX10_init_131 : decode cX10_init 131 = .ok (.aload_n 0, 1) := by decide +kernel
theorem dX10_init_132 : decode cX10_init 132 = .ok (.bipush 42, 2) := by decide +kernel
theorem dX10_init_134 : decode cX10_init 134 = .ok (.newarray .int, 2) := by decide +kernel
theorem dX10_init_136 : decode cX10_init 136 = .ok (.putfield 57, 3) := by decide +kernel
theorem dX10_init_139 : decode cX10_init 139 = .ok (.aload_n 0, 1) := by decide +kernel
theorem dX10_init_140 : decode cX10_init 140 = .ok (.bipush 42, 2) := by decide +kernel
theorem dX10_init_142 : decode cX10_init 142 = .ok (.newarray .int, 2) := by decide +kernel
theorem dX10_init_144 : decode cX10_init 144 = .ok (.putfield 60, 3) := by decide +kernel
theorem dX10_init_147 : decode cX10_init 147 = .ok (.aload_n 0, 1) := by decide +kernel
theorem dX10_init_148 : decode cX10_init 148 = .ok (.sipush 168, 3) := by decide +kernel
theorem dX10_init_151 : decode cX10_init 151 = .ok (.newarray .int, 2) := by decide +kernel
theorem dX10_init_153 : decode cX10_init 153 = .ok (.putfield 63, 3) := by decide +kernel
theorem dX10_init_156 : decode cX10_init 156 = .ok (.aload_n 0, 1) := by decide +kernel
theorem dX10_init_157 : decode cX10_init 157 = .ok (.bipush 42, 2) := by decide +kernel
theorem dX10_init_159 : decode cX10_init 159 = .ok (.newarray .int, 2) := by decide +kernel
theorem dX10_init_161 : decode cX10_init 161 = .ok (.putfield 66, 3) := by decide +kernel
theorem dX10_init_164 : decode cX10_init 164 = .ok (.return_, 1) := by decide +kernel
theorem dX10_thrown_0 : decode cX10_thrown 0 = .ok (.aload_n 0, 1) := by decide +kernel
theorem dX10_thrown_1 : decode cX10_thrown 1 = .ok (.getfield 69, 3) := by decide +kernel
theorem dX10_thrown_4 : decode cX10_thrown 4 = .ok (.ireturn, 1) := by decide +kernel
theorem dX10_throwing_0 : decode cX10_throwing 0 = .ok (.aload_n 0, 1) := by decide +kernel
theorem dX10_throwing_1 : decode cX10_throwing 1 = .ok (.iload_n 1, 1) := by decide +kernel
theorem dX10_throwing_2 : decode cX10_throwing 2 = .ok (.putfield 69, 3) := by decide +kernel
theorem dX10_throwing_5 : decode cX10_throwing 5 = .ok (.iconst 0, 1) := by decide +kernel
theorem dX10_throwing_6 : decode cX10_throwing 6 = .ok (.ireturn, 1) := by decide +kernel
theorem dX10_in_0 : decode cX10_in 0 = .ok (.iload_n 0, 1) := by decide +kernel
theorem dX10_in_1 : decode cX10_in 1 = .ok (.iload_n 1, 1) := by decide +kernel
theorem dX10_in_2 : decode cX10_in 2 = .ok (.if_icmp .lt 12, 3) := by decide +kernel
theorem dX10_in_5 : decode cX10_in 5 = .ok (.iload_n 0, 1) := by decide +kernel
theorem dX10_in_6 : decode cX10_in 6 = .ok (.iload_n 2, 1) := by decide +kernel
theorem dX10_in_7 : decode cX10_in 7 = .ok (.if_icmp .gt 7, 3) := by decide +kernel
theorem dX10_in_10 : decode cX10_in 10 = .ok (.iconst 1, 1) := by decide +kernel
theorem dX10_in_11 : decode cX10_in 11 = .ok (.goto 4, 3) := by decide +kernel
theorem dX10_in_14 : decode cX10_in 14 = .ok (.iconst 0, 1) := by decide +kernel
theorem dX10_in_15 : decode cX10_in 15 = .ok (.ireturn, 1) := by decide +kernel
set_option maxRecDepth 20000 in
theorem ggX10_isCell_X10_in : GoodIn wsX10_isCell wsX10_in := goodIn_r _ [4] (by decide +kernel) (by decide +kernel)
set_option maxRecDepth 20000 in
theorem gX10_isCell_X10_in : GoodIn wsX10_isCell (va_wsS RX10 73 yX10_in wsX10_in) := goodIn_app (goodIn_of _ (by decide +kernel)) ggX10_isCell_X10_in
theorem dX10_isCell_0 : decode cX10_isCell 0 = .ok (.iload_n 0, 1) := by decide +kernel
theorem dX10_isCell_1 : decode cX10_isCell 1 = .ok (.iconst 0, 1) := by decide +kernel
theorem dX10_isCell_2 : decode cX10_isCell 2 = .ok (.iconst 5, 1) := by decide +kernel
theorem dX10_isCell_3 : decode cX10_isCell 3 = .ok (.invokestatic 73, 3) := by decide +kernel
theorem dX10_isCell_6 : decode cX10_isCell 6 = .ok (.ifCond .eq 17, 3) := by decide +kernel
theorem dX10_isCell_9 : decode cX10_isCell 9 = .ok (.iload_n 1, 1) := by decide +kernel
theorem dX10_isCell_10 : decode cX10_isCell 10 = .ok (.iconst 0, 1) := by decide +kernel
theorem dX10_isCell_11 : decode cX10_isCell 11 = .ok (.bipush 6, 2) := by decide +kernel
theorem dX10_isCell_13 : decode cX10_isCell 13 = .ok (.invokestatic 73, 3) := by decide +kernel
theorem dX10_isCell_16 : decode cX10_isCell 16 = .ok (.ifCond .eq 7, 3) := by decide +kernel
theorem dX10_isCell_19 : decode cX10_isCell 19 = .ok (.iconst 1, 1) := by decide +kernel
theorem dX10_isCell_20 : decode cX10_isCell 20 = .ok (.goto 4, 3) := by decide +kernel
theorem dX10_isCell_23 : decode cX10_isCell 23 = .ok (.iconst 0, 1) := by decide +kernel
theorem dX10_isCell_24 : decode cX10_isCell 24 = .ok (.ireturn, 1) := by decide +kernel
theorem dX10_save_0 : decode cX10_save 0 = .ok (.aload_n 0, 1) := by decide +kernel
theorem dX10_save_1 : decode cX10_save 1 = .ok (.getfield 77, 3) := by decide +kernel
theorem dX10_save_4 : decode cX10_save 4 = .ok (.bipush 6, 2) := by decide +kernel
theorem dX10_save_6 : decode cX10_save 6 = .ok (.if_icmp .ne 43, 3) := by decide +kernel
theorem dX10_save_9 : decode cX10_save 9 = .ok (.iconst 0, 1) := by decide +kernel
theorem dX10_save_10 : decode cX10_save 10 = .ok (.istore_n 1, 1) := by decide +kernel
theorem dX10_save_11 : decode cX10_save 11 = .ok (.iload_n 1, 1) := by decide +kernel
theorem dX10_save_12 : decode cX10_save 12 = .ok (.sipush 420, 3) := by decide +kernel
theorem dX10_save_15 : decode cX10_save 15 = .ok (.if_icmp .ge 24, 3) := by decide +kernel
theorem dX10_save_18 : decode cX10_save 18 = .ok (.aload_n 0, 1) := by decide +kernel
theorem dX10_save_19 : decode cX10_save 19 = .ok (.getfield 13, 3) := by decide +kernel
theorem dX10_save_22 : decode cX10_save 22 = .ok (.iload_n 1, 1) := by decide +kernel
theorem dX10_save_23 : decode cX10_save 23 = .ok (.aload_n 0, 1) := by decide +kernel
theorem dX10_save_24 : decode cX10_save 24 = .ok (.getfield 13, 3) := by decide +kernel
theorem dX10_save_27 : decode cX10_save 27 = .ok (.bipush 84, 2) := by decide +kernel
theorem dX10_save_29 : decode cX10_save 29 = .ok (.iload_n 1, 1) := by decide +kernel
theorem dX10_save_30 : decode cX10_save 30 = .ok (.iadd, 1) := by decide +kernel
theorem dX10_save_31 : decode cX10_save 31 = .ok (.iaload, 1) := by decide +kernel
theorem dX10_save_32 : decode cX10_save 32 = .ok (.iastore, 1) := by decide +kernel
theorem dX10_save_33 : decode cX10_save 33 = .ok (.iinc 1 1, 3) := by decide +kernel
theorem dX10_save_36 : decode cX10_save 36 = .ok (.goto (-25), 3) := by decide +kernel
theorem dX10_save_39 : decode cX10_save 39 = .ok (.aload_n 0, 1) := by decide +kernel
theorem dX10_save_40 : decode cX10_save 40 = .ok (.dup, 1) := by decide +kernel
theorem dX10_save_41 : decode cX10_save 41 = .ok (.getfield 77, 3) := by decide +kernel
theorem dX10_save_44 : decode cX10_save 44 = .ok (.iconst 1, 1) := by decide +kernel
theorem dX10_save_45 : decode cX10_save 45 = .ok (.isub, 1) := by decide +kernel
theorem dX10_save_46 : decode cX10_save 46 = .ok (.putfield 77, 3) := by decide +kernel
theorem dX10_save_49 : decode cX10_save 49 = .ok (.iconst 0, 1) := by decide +kernel
theorem dX10_save_50 : decode cX10_save 50 = .ok (.istore_n 1, 1) := by decide +kernel
theorem dX10_save_51 : decode cX10_save 51 = .ok (.iload_n 1, 1) := by decide +kernel
theorem dX10_save_52 : decode cX10_save 52 = .ok (.bipush 84, 2) := by decide +kernel
theorem dX10_save_54 : decode cX10_save 54 = .ok (.if_icmp .ge 29, 3) := by decide +kernel
theorem dX10_save_57 : decode cX10_save 57 = .ok (.aload_n 0, 1) := by decide +kernel
theorem dX10_save_58 : decode cX10_save 58 = .ok (.getfield 13, 3) := by decide +kernel
theorem dX10_save_61 : decode cX10_save 61 = .ok (.bipush 84, 2) := by decide +kernel
theorem dX10_save_63 : decode cX10_save 63 = .ok (.aload_n 0, 1) := by decide +kernel
theorem dX10_save_64 : decode cX10_save 64 = .ok (.getfield 77, 3) := by decide +kernel
theorem dX10_save_67 : decode cX10_save 67 = .ok (.imul, 1) := by decide +kernel
theorem dX10_save_68 : decode cX10_save 68 = .ok (.iload_n 1, 1) := by decide +kernel
theorem dX10_save_69 : decode cX10_save 69 = .ok (.iadd, 1) := by decide +kernel
theorem dX10_save_70 : decode cX10_save 70 = .ok (.aload_n 0, 1) := by decide +kernel
theorem dX10_save_71 : decode cX10_save 71 = .ok (.getfield 7, 3) := by decide +kernel
theorem dX10_save_74 : decode cX10_save 74 = .ok (.iload_n 1, 1) := by decide +kernel
theorem dX10_save_75 : decode cX10_save 75 = .ok (.iaload, 1) := by decide +kernel
theorem dX10_save_76 : decode cX10_save 76 = .ok (.iastore, 1) := by decide +kernel
theorem dX10_save_77 : decode cX10_save 77 = .ok (.iinc 1 1, 3) := by decide +kernel
theorem dX10_save_80 : decode cX10_save 80 = .ok (.goto (-29), 3) := by decide +kernel
theorem dX10_save_83 : decode cX10_save 83 = .ok (.aload_n 0, 1) := by decide +kernel
theorem dX10_save_84 : decode cX10_save 84 = .ok (.dup, 1) := by decide +kernel
theorem dX10_save_85 : decode cX10_save 85 = .ok (.getfield 77, 3) := by decide +kernel
theorem dX10_save_88 : decode cX10_save 88 = .ok (.iconst 1, 1) := by decide +kernel
theorem dX10_save_89 : decode cX10_save 89 = .ok (.iadd, 1) := by decide +kernel
theorem dX10_save_90 : decode cX10_save 90 = .ok (.putfield 77, 3) := by decide +kernel
theorem dX10_save_93 : decode cX10_save 93 = .ok (.return_, 1) := by decide +kernel
theorem dX10_rectangle_0 : decode cX10_rectangle 0 = .ok (.lconst 0, 1) := by decide +kernel
theorem dX10_rectangle_1 : decode cX10_rectangle 1 = .ok (.lstore 4, 2) := by decide +kernel
theorem dX10_rectangle_3 : decode cX10_rectangle 3 = .ok (.iload_n 0, 1) := by decide +kernel
theorem dX10_rectangle_4 : decode cX10_rectangle 4 = .ok (.istore 6, 2) := by decide +kernel
theorem dX10_rectangle_6 : decode cX10_rectangle 6 = .ok (.iload 6, 2) := by decide +kernel
theorem dX10_rectangle_8 : decode cX10_rectangle 8 = .ok (.iload_n 2, 1) := by decide +kernel
theorem dX10_rectangle_9 : decode cX10_rectangle 9 = .ok (.if_icmp .gt 39, 3) := by decide +kernel
theorem dX10_rectangle_12 : decode cX10_rectangle 12 = .ok (.iload_n 1, 1) := by decide +kernel
theorem dX10_rectangle_13 : decode cX10_rectangle 13 = .ok (.istore 7, 2) := by decide +kernel
theorem dX10_rectangle_15 : decode cX10_rectangle 15 = .ok (.iload 7, 2) := by decide +kernel
theorem dX10_rectangle_17 : decode cX10_rectangle 17 = .ok (.iload_n 3, 1) := by decide +kernel
theorem dX10_rectangle_18 : decode cX10_rectangle 18 = .ok (.if_icmp .gt 24, 3) := by decide +kernel
theorem dX10_rectangle_21 : decode cX10_rectangle 21 = .ok (.lload 4, 2) := by decide +kernel
theorem dX10_rectangle_23 : decode cX10_rectangle 23 = .ok (.lconst 1, 1) := by decide +kernel
theorem dX10_rectangle_24 : decode cX10_rectangle 24 = .ok (.bipush 7, 2) := by decide +kernel
theorem dX10_rectangle_26 : decode cX10_rectangle 26 = .ok (.iload 6, 2) := by decide +kernel
theorem dX10_rectangle_28 : decode cX10_rectangle 28 = .ok (.imul, 1) := by decide +kernel
theorem dX10_rectangle_29 : decode cX10_rectangle 29 = .ok (.iload 7, 2) := by decide +kernel
theorem dX10_rectangle_31 : decode cX10_rectangle 31 = .ok (.iadd, 1) := by decide +kernel
theorem dX10_rectangle_32 : decode cX10_rectangle 32 = .ok (.lshl, 1) := by decide +kernel
theorem dX10_rectangle_33 : decode cX10_rectangle 33 = .ok (.lor, 1) := by decide +kernel
theorem dX10_rectangle_34 : decode cX10_rectangle 34 = .ok (.lstore 4, 2) := by decide +kernel
theorem dX10_rectangle_36 : decode cX10_rectangle 36 = .ok (.iinc 7 1, 3) := by decide +kernel
theorem dX10_rectangle_39 : decode cX10_rectangle 39 = .ok (.goto (-24), 3) := by decide +kernel
theorem dX10_rectangle_42 : decode cX10_rectangle 42 = .ok (.iinc 6 1, 3) := by decide +kernel
theorem dX10_rectangle_45 : decode cX10_rectangle 45 = .ok (.goto (-39), 3) := by decide +kernel
theorem dX10_rectangle_48 : decode cX10_rectangle 48 = .ok (.lload 4, 2) := by decide +kernel
theorem dX10_rectangle_50 : decode cX10_rectangle 50 = .ok (.lreturn, 1) := by decide +kernel
theorem dX10_has_0 : decode cX10_has 0 = .ok (.lload_n 0, 1) := by decide +kernel
theorem dX10_has_1 : decode cX10_has 1 = .ok (.iload_n 2, 1) := by decide +kernel
theorem dX10_has_2 : decode cX10_has 2 = .ok (.lshr, 1) := by decide +kernel
theorem dX10_has_3 : decode cX10_has 3 = .ok (.lconst 1, 1) := by decide +kernel
theorem dX10_has_4 : decode cX10_has 4 = .ok (.land, 1) := by decide +kernel
theorem dX10_has_5 : decode cX10_has 5 = .ok (.lconst 1, 1) := by decide +kernel
theorem dX10_has_6 : decode cX10_has 6 = .ok (.lcmp, 1) := by decide +kernel
theorem dX10_has_7 : decode cX10_has 7 = .ok (.ifCond .ne 7, 3) := by decide +kernel
theorem dX10_has_10 : decode cX10_has 10 = .ok (.iconst 1, 1) := by decide +kernel
theorem dX10_has_11 : decode cX10_has 11 = .ok (.goto 4, 3) := by decide +kernel
theorem dX10_has_14 : decode cX10_has 14 = .ok (.iconst 0, 1) := by decide +kernel
theorem dX10_has_15 : decode cX10_has 15 = .ok (.ireturn, 1) := by decide +kernel
set_option maxRecDepth 20000 in
theorem ggX10_bits_X10_has : GoodIn wsX10_bits wsX10_has := goodIn_r _ [4] (by decide +kernel) (by decide +kernel)
set_option maxRecDepth 20000 in
theorem gX10_bits_X10_has : GoodIn wsX10_bits (va_wsS RX10 80 yX10_has wsX10_has) := goodIn_app (goodIn_of _ (by decide +kernel)) ggX10_bits_X10_has
theorem dX10_bits_0 : decode cX10_bits 0 = .ok (.iconst 0, 1) := by decide +kernel
theorem dX10_bits_1 : decode cX10_bits 1 = .ok (.istore_n 2, 1) := by decide +kernel
theorem dX10_bits_2 : decode cX10_bits 2 = .ok (.iconst 0, 1) := by decide +kernel
theorem dX10_bits_3 : decode cX10_bits 3 = .ok (.istore_n 3, 1) := by decide +kernel
theorem dX10_bits_4 : decode cX10_bits 4 = .ok (.iload_n 3, 1) := by decide +kernel
theorem dX10_bits_5 : decode cX10_bits 5 = .ok (.bipush 42, 2) := by decide +kernel
theorem dX10_bits_7 : decode cX10_bits 7 = .ok (.if_icmp .ge 25, 3) := by decide +kernel
theorem dX10_bits_10 : decode cX10_bits 10 = .ok (.iload_n 2, 1) := by decide +kernel
theorem dX10_bits_11 : decode cX10_bits 11 = .ok (.lload_n 0, 1) := by decide +kernel
theorem dX10_bits_12 : decode cX10_bits 12 = .ok (.iload_n 3, 1) := by decide +kernel
theorem dX10_bits_13 : decode cX10_bits 13 = .ok (.invokestatic 80, 3) := by decide +kernel
theorem dX10_bits_16 : decode cX10_bits 16 = .ok (.ifCond .eq 7, 3) := by decide +kernel
theorem dX10_bits_19 : decode cX10_bits 19 = .ok (.iconst 1, 1) := by decide +kernel
theorem dX10_bits_20 : decode cX10_bits 20 = .ok (.goto 4, 3) := by decide +kernel
theorem dX10_bits_23 : decode cX10_bits 23 = .ok (.iconst 0, 1) := by decide +kernel
theorem dX10_bits_24 : decode cX10_bits 24 = .ok (.iadd, 1) := by decide +kernel
theorem dX10_bits_25 : decode cX10_bits 25 = .ok (.istore_n 2, 1) := by decide +kernel
theorem dX10_bits_26 : decode cX10_bits 26 = .ok (.iinc 3 1, 3) := by decide +kernel
theorem dX10_bits_29 : decode cX10_bits 29 = .ok (.goto (-25), 3) := by decide +kernel
theorem dX10_bits_32 : decode cX10_bits 32 = .ok (.iload_n 2, 1) := by decide +kernel
theorem dX10_bits_33 : decode cX10_bits 33 = .ok (.ireturn, 1) := by decide +kernel
set_option maxRecDepth 20000 in
theorem ggX10_lowest_X10_has : GoodIn wsX10_lowest wsX10_has := goodIn_r _ [4] (by decide +kernel) (by decide +kernel)
set_option maxRecDepth 20000 in
theorem gX10_lowest_X10_has : GoodIn wsX10_lowest (va_wsS RX10 80 yX10_has wsX10_has) := goodIn_app (goodIn_of _ (by decide +kernel)) ggX10_lowest_X10_has
theorem dX10_lowest_0 : decode cX10_lowest 0 = .ok (.iconst 0, 1) := by decide +kernel
theorem dX10_lowest_1 : decode cX10_lowest 1 = .ok (.istore_n 2, 1) := by decide +kernel
theorem dX10_lowest_2 : decode cX10_lowest 2 = .ok (.iload_n 2, 1) := by decide +kernel
theorem dX10_lowest_3 : decode cX10_lowest 3 = .ok (.bipush 42, 2) := by decide +kernel
theorem dX10_lowest_5 : decode cX10_lowest 5 = .ok (.if_icmp .ge 17, 3) := by decide +kernel
theorem dX10_lowest_8 : decode cX10_lowest 8 = .ok (.lload_n 0, 1) := by decide +kernel
theorem dX10_lowest_9 : decode cX10_lowest 9 = .ok (.iload_n 2, 1) := by decide +kernel
theorem dX10_lowest_10 : decode cX10_lowest 10 = .ok (.invokestatic 80, 3) := by decide +kernel
theorem dX10_lowest_13 : decode cX10_lowest 13 = .ok (.ifCond .ne 9, 3) := by decide +kernel
theorem dX10_lowest_16 : decode cX10_lowest 16 = .ok (.iinc 2 1, 3) := by decide +kernel
theorem dX10_lowest_19 : decode cX10_lowest 19 = .ok (.goto (-17), 3) := by decide +kernel
theorem dX10_lowest_22 : decode cX10_lowest 22 = .ok (.iload_n 2, 1) := by decide +kernel
theorem dX10_lowest_23 : decode cX10_lowest 23 = .ok (.ireturn, 1) := by decide +kernel
theorem dX10_taken_0 : decode cX10_taken 0 = .ok (.lconst 0, 1) := by decide +kernel
theorem dX10_taken_1 : decode cX10_taken 1 = .ok (.lstore_n 1, 1) := by decide +kernel
theorem dX10_taken_2 : decode cX10_taken 2 = .ok (.iconst 0, 1) := by decide +kernel
theorem dX10_taken_3 : decode cX10_taken 3 = .ok (.istore_n 3, 1) := by decide +kernel
theorem dX10_taken_4 : decode cX10_taken 4 = .ok (.iload_n 3, 1) := by decide +kernel
theorem dX10_taken_5 : decode cX10_taken 5 = .ok (.bipush 42, 2) := by decide +kernel
theorem dX10_taken_7 : decode cX10_taken 7 = .ok (.if_icmp .ge 31, 3) := by decide +kernel
theorem dX10_taken_10 : decode cX10_taken 10 = .ok (.lload_n 1, 1) := by decide +kernel
theorem dX10_taken_11 : decode cX10_taken 11 = .ok (.aload_n 0, 1) := by decide +kernel
theorem dX10_taken_12 : decode cX10_taken 12 = .ok (.getfield 7, 3) := by decide +kernel
theorem dX10_taken_15 : decode cX10_taken 15 = .ok (.bipush 42, 2) := by decide +kernel
theorem dX10_taken_17 : decode cX10_taken 17 = .ok (.iload_n 3, 1) := by decide +kernel
theorem dX10_taken_18 : decode cX10_taken 18 = .ok (.iadd, 1) := by decide +kernel
theorem dX10_taken_19 : decode cX10_taken 19 = .ok (.iaload, 1) := by decide +kernel
theorem dX10_taken_20 : decode cX10_taken 20 = .ok (.ifCond .le 9, 3) := by decide +kernel
theorem dX10_taken_23 : decode cX10_taken 23 = .ok (.lconst 1, 1) := by decide +kernel
theorem dX10_taken_24 : decode cX10_taken 24 = .ok (.iload_n 3, 1) := by decide +kernel
theorem dX10_taken_25 : decode cX10_taken 25 = .ok (.lshl, 1) := by decide +kernel
theorem dX10_taken_26 : decode cX10_taken 26 = .ok (.goto 4, 3) := by decide +kernel
theorem dX10_taken_29 : decode cX10_taken 29 = .ok (.lconst 0, 1) := by decide +kernel
theorem dX10_taken_30 : decode cX10_taken 30 = .ok (.lor, 1) := by decide +kernel
theorem dX10_taken_31 : decode cX10_taken 31 = .ok (.lstore_n 1, 1) := by decide +kernel
theorem dX10_taken_32 : decode cX10_taken 32 = .ok (.iinc 3 1, 3) := by decide +kernel
theorem dX10_taken_35 : decode cX10_taken 35 = .ok (.goto (-31), 3) := by decide +kernel
theorem dX10_taken_38 : decode cX10_taken 38 = .ok (.lload_n 1, 1) := by decide +kernel
theorem dX10_taken_39 : decode cX10_taken 39 = .ok (.lreturn, 1) := by decide +kernel
theorem dX10_numbered_0 : decode cX10_numbered 0 = .ok (.lconst 0, 1) := by decide +kernel
theorem dX10_numbered_1 : decode cX10_numbered 1 = .ok (.lstore_n 1, 1) := by decide +kernel
theorem dX10_numbered_2 : decode cX10_numbered 2 = .ok (.iconst 0, 1) := by decide +kernel
theorem dX10_numbered_3 : decode cX10_numbered 3 = .ok (.istore_n 3, 1) := by decide +kernel
theorem dX10_numbered_4 : decode cX10_numbered 4 = .ok (.iload_n 3, 1) := by decide +kernel
theorem dX10_numbered_5 : decode cX10_numbered 5 = .ok (.bipush 42, 2) := by decide +kernel
theorem dX10_numbered_7 : decode cX10_numbered 7 = .ok (.if_icmp .ge 28, 3) := by decide +kernel
theorem dX10_numbered_10 : decode cX10_numbered 10 = .ok (.lload_n 1, 1) := by decide +kernel
theorem dX10_numbered_11 : decode cX10_numbered 11 = .ok (.aload_n 0, 1) := by decide +kernel
theorem dX10_numbered_12 : decode cX10_numbered 12 = .ok (.getfield 7, 3) := by decide +kernel
theorem dX10_numbered_15 : decode cX10_numbered 15 = .ok (.iload_n 3, 1) := by decide +kernel
theorem dX10_numbered_16 : decode cX10_numbered 16 = .ok (.iaload, 1) := by decide +kernel
theorem dX10_numbered_17 : decode cX10_numbered 17 = .ok (.ifCond .le 9, 3) := by decide +kernel
theorem dX10_numbered_20 : decode cX10_numbered 20 = .ok (.lconst 1, 1) := by decide +kernel
theorem dX10_numbered_21 : decode cX10_numbered 21 = .ok (.iload_n 3, 1) := by decide +kernel
theorem dX10_numbered_22 : decode cX10_numbered 22 = .ok (.lshl, 1) := by decide +kernel
theorem dX10_numbered_23 : decode cX10_numbered 23 = .ok (.goto 4, 3) := by decide +kernel
theorem dX10_numbered_26 : decode cX10_numbered 26 = .ok (.lconst 0, 1) := by decide +kernel
theorem dX10_numbered_27 : decode cX10_numbered 27 = .ok (.lor, 1) := by decide +kernel
theorem dX10_numbered_28 : decode cX10_numbered 28 = .ok (.lstore_n 1, 1) := by decide +kernel
theorem dX10_numbered_29 : decode cX10_numbered 29 = .ok (.iinc 3 1, 3) := by decide +kernel
theorem dX10_numbered_32 : decode cX10_numbered 32 = .ok (.goto (-28), 3) := by decide +kernel
theorem dX10_numbered_35 : decode cX10_numbered 35 = .ok (.lload_n 1, 1) := by decide +kernel
theorem dX10_numbered_36 : decode cX10_numbered 36 = .ok (.lreturn, 1) := by decide +kernel
theorem dX10_fieldOf_0 : decode cX10_fieldOf 0 = .ok (.lconst 0, 1) := by decide +kernel
theorem dX10_fieldOf_1 : decode cX10_fieldOf 1 = .ok (.lstore_n 2, 1) := by decide +kernel
theorem dX10_fieldOf_2 : decode cX10_fieldOf 2 = .ok (.iconst 0, 1) := by decide +kernel
theorem dX10_fieldOf_3 : decode cX10_fieldOf 3 = .ok (.istore 4, 2) := by decide +kernel
theorem dX10_fieldOf_5 : decode cX10_fieldOf 5 = .ok (.iload 4, 2) := by decide +kernel
theorem dX10_fieldOf_7 : decode cX10_fieldOf 7 = .ok (.bipush 42, 2) := by decide +kernel
theorem dX10_fieldOf_9 : decode cX10_fieldOf 9 = .ok (.if_icmp .ge 42, 3) := by decide +kernel
theorem dX10_fieldOf_12 : decode cX10_fieldOf 12 = .ok (.lload_n 2, 1) := by decide +kernel
theorem dX10_fieldOf_13 : decode cX10_fieldOf 13 = .ok (.aload_n 0, 1) := by decide +kernel
theorem dX10_fieldOf_14 : decode cX10_fieldOf 14 = .ok (.getfield 7, 3) := by decide +kernel
theorem dX10_fieldOf_17 : decode cX10_fieldOf 17 = .ok (.bipush 42, 2) := by decide +kernel
theorem dX10_fieldOf_19 : decode cX10_fieldOf 19 = .ok (.iload 4, 2) := by decide +kernel
theorem dX10_fieldOf_21 : decode cX10_fieldOf 21 = .ok (.iadd, 1) := by decide +kernel
theorem dX10_fieldOf_22 : decode cX10_fieldOf 22 = .ok (.iaload, 1) := by decide +kernel
theorem dX10_fieldOf_23 : decode cX10_fieldOf 23 = .ok (.aload_n 0, 1) := by decide +kernel
theorem dX10_fieldOf_24 : decode cX10_fieldOf 24 = .ok (.getfield 7, 3) := by decide +kernel
theorem dX10_fieldOf_27 : decode cX10_fieldOf 27 = .ok (.bipush 42, 2) := by decide +kernel
theorem dX10_fieldOf_29 : decode cX10_fieldOf 29 = .ok (.iload_n 1, 1) := by decide +kernel
theorem dX10_fieldOf_30 : decode cX10_fieldOf 30 = .ok (.iadd, 1) := by decide +kernel
theorem dX10_fieldOf_31 : decode cX10_fieldOf 31 = .ok (.iaload, 1) := by decide +kernel
theorem dX10_fieldOf_32 : decode cX10_fieldOf 32 = .ok (.if_icmp .ne 10, 3) := by decide +kernel
theorem dX10_fieldOf_35 : decode cX10_fieldOf 35 = .ok (.lconst 1, 1) := by decide +kernel
theorem dX10_fieldOf_36 : decode cX10_fieldOf 36 = .ok (.iload 4, 2) := by decide +kernel
theorem dX10_fieldOf_38 : decode cX10_fieldOf 38 = .ok (.lshl, 1) := by decide +kernel
theorem dX10_fieldOf_39 : decode cX10_fieldOf 39 = .ok (.goto 4, 3) := by decide +kernel
theorem dX10_fieldOf_42 : decode cX10_fieldOf 42 = .ok (.lconst 0, 1) := by decide +kernel
theorem dX10_fieldOf_43 : decode cX10_fieldOf 43 = .ok (.lor, 1) := by decide +kernel
theorem dX10_fieldOf_44 : decode cX10_fieldOf 44 = .ok (.lstore_n 2, 1) := by decide +kernel
theorem dX10_fieldOf_45 : decode cX10_fieldOf 45 = .ok (.iinc 4 1, 3) := by decide +kernel
theorem dX10_fieldOf_48 : decode cX10_fieldOf 48 = .ok (.goto (-43), 3) := by decide +kernel
theorem dX10_fieldOf_51 : decode cX10_fieldOf 51 = .ok (.lload_n 2, 1) := by decide +kernel
theorem dX10_fieldOf_52 : decode cX10_fieldOf 52 = .ok (.lreturn, 1) := by decide +kernel
theorem dX10_allFields_0 : decode cX10_allFields 0 = .ok (.iconst 0, 1) := by decide +kernel
theorem dX10_allFields_1 : decode cX10_allFields 1 = .ok (.istore_n 1, 1) := by decide +kernel
theorem dX10_allFields_2 : decode cX10_allFields 2 = .ok (.iconst 0, 1) := by decide +kernel
theorem dX10_allFields_3 : decode cX10_allFields 3 = .ok (.istore_n 2, 1) := by decide +kernel
theorem dX10_allFields_4 : decode cX10_allFields 4 = .ok (.iload_n 2, 1) := by decide +kernel
theorem dX10_allFields_5 : decode cX10_allFields 5 = .ok (.bipush 42, 2) := by decide +kernel
theorem dX10_allFields_7 : decode cX10_allFields 7 = .ok (.if_icmp .ge 32, 3) := by decide +kernel
theorem dX10_allFields_10 : decode cX10_allFields 10 = .ok (.iload_n 1, 1) := by decide +kernel
theorem dX10_allFields_11 : decode cX10_allFields 11 = .ok (.aload_n 0, 1) := by decide +kernel
theorem dX10_allFields_12 : decode cX10_allFields 12 = .ok (.getfield 7, 3) := by decide +kernel
theorem dX10_allFields_15 : decode cX10_allFields 15 = .ok (.bipush 42, 2) := by decide +kernel
theorem dX10_allFields_17 : decode cX10_allFields 17 = .ok (.iload_n 2, 1) := by decide +kernel
theorem dX10_allFields_18 : decode cX10_allFields 18 = .ok (.iadd, 1) := by decide +kernel
theorem dX10_allFields_19 : decode cX10_allFields 19 = .ok (.iaload, 1) := by decide +kernel
theorem dX10_allFields_20 : decode cX10_allFields 20 = .ok (.iload_n 2, 1) := by decide +kernel
theorem dX10_allFields_21 : decode cX10_allFields 21 = .ok (.iconst 1, 1) := by decide +kernel
theorem dX10_allFields_22 : decode cX10_allFields 22 = .ok (.iadd, 1) := by decide +kernel
theorem dX10_allFields_23 : decode cX10_allFields 23 = .ok (.if_icmp .ne 7, 3) := by decide +kernel
theorem dX10_allFields_26 : decode cX10_allFields 26 = .ok (.iconst 1, 1) := by decide +kernel
theorem dX10_allFields_27 : decode cX10_allFields 27 = .ok (.goto 4, 3) := by decide +kernel
theorem dX10_allFields_30 : decode cX10_allFields 30 = .ok (.iconst 0, 1) := by decide +kernel
theorem dX10_allFields_31 : decode cX10_allFields 31 = .ok (.iadd, 1) := by decide +kernel
theorem dX10_allFields_32 : decode cX10_allFields 32 = .ok (.istore_n 1, 1) := by decide +kernel
theorem dX10_allFields_33 : decode cX10_allFields 33 = .ok (.iinc 2 1, 3) := by decide +kernel
theorem dX10_allFields_36 : decode cX10_allFields 36 = .ok (.goto (-32), 3) := by decide +kernel
theorem dX10_allFields_39 : decode cX10_allFields 39 = .ok (.iload_n 1, 1) := by decide +kernel
theorem dX10_allFields_40 : decode cX10_allFields 40 = .ok (.ireturn, 1) := by decide +kernel
set_option maxRecDepth 20000 in
theorem ggX10_against_X10_numbered : GoodIn wsX10_against wsX10_numbered := goodIn_r _ [6, 1, 20, 21, 22, 23, 24, 25, 26, 27, 28, 29, 30, 31, 32, 33, 34, 35, 36, 37, 38, 39, 40, 41, 42, 43, 44, 45] (by decide +kernel) (by decide +kernel)
set_option maxRecDepth 20000 in
theorem gX10_against_X10_numbered : GoodIn wsX10_against (wsV RX10 84 RX10 yX10_numbered wsX10_numbered) := goodIn_app (goodIn_of _ (by decide +kernel)) ggX10_against_X10_numbered
set_option maxRecDepth 20000 in
theorem ggX10_against_X10_taken : GoodIn wsX10_against wsX10_taken := goodIn_r _ [10, 1, 20, 21, 22, 23, 24, 25, 26, 27, 28, 29, 30, 31, 32, 33, 34, 35, 36, 37, 38, 39, 40, 41, 42, 43, 44, 45] (by decide +kernel) (by decide +kernel)
set_option maxRecDepth 20000 in
theorem gX10_against_X10_taken : GoodIn wsX10_against (wsV RX10 88 RX10 yX10_taken wsX10_taken) := goodIn_app (goodIn_of _ (by decide +kernel)) ggX10_against_X10_taken
set_option maxRecDepth 20000 in
theorem ggX10_against_X10_bits : GoodIn wsX10_against wsX10_bits := goodIn_r _ [13, 14, 15, 5, 16] (by decide +kernel) (by decide +kernel)
set_option maxRecDepth 20000 in
theorem gX10_against_X10_bits : GoodIn wsX10_against (va_wsS RX10 91 yX10_bits wsX10_bits) := goodIn_app (goodIn_of _ (by decide +kernel)) ggX10_against_X10_bits
set_option maxRecDepth 20000 in
theorem ggX10_against_X10_lowest : GoodIn wsX10_against wsX10_lowest := goodIn_r _ [19, 14, 15, 5, 16] (by decide +kernel) (by decide +kernel)
set_option maxRecDepth 20000 in
theorem gX10_against_X10_lowest : GoodIn wsX10_against (va_wsS RX10 95 yX10_lowest wsX10_lowest) := goodIn_app (goodIn_of _ (by decide +kernel)) ggX10_against_X10_lowest
theorem dX10_against_0 : decode cX10_against 0 = .ok (.lload_n 1, 1) := by decide +kernel
theorem dX10_against_1 : decode cX10_against 1 = .ok (.aload_n 0, 1) := by decide +kernel
theorem dX10_against_2 : decode cX10_against 2 = .ok (.invokevirtual 84, 3) := by decide +kernel
theorem dX10_against_5 : decode cX10_against 5 = .ok (.land, 1) := by decide +kernel
theorem dX10_against_6 : decode cX10_against 6 = .ok (.lstore_n 3, 1) := by decide +kernel
theorem dX10_against_7 : decode cX10_against 7 = .ok (.lload_n 1, 1) := by decide +kernel
theorem dX10_against_8 : decode cX10_against 8 = .ok (.aload_n 0, 1) := by decide +kernel
theorem dX10_against_9 : decode cX10_against 9 = .ok (.invokevirtual 88, 3) := by decide +kernel
theorem dX10_against_12 : decode cX10_against 12 = .ok (.land, 1) := by decide +kernel
theorem dX10_against_13 : decode cX10_against 13 = .ok (.lconst 0, 1) := by decide +kernel
theorem dX10_against_14 : decode cX10_against 14 = .ok (.lcmp, 1) := by decide +kernel
theorem dX10_against_15 : decode cX10_against 15 = .ok (.ifCond .eq 7, 3) := by decide +kernel
theorem dX10_against_18 : decode cX10_against 18 = .ok (.iconst 1, 1) := by decide +kernel
theorem dX10_against_19 : decode cX10_against 19 = .ok (.goto 46, 3) := by decide +kernel
theorem dX10_against_22 : decode cX10_against 22 = .ok (.lload_n 3, 1) := by decide +kernel
theorem dX10_against_23 : decode cX10_against 23 = .ok (.lconst 0, 1) := by decide +kernel
theorem dX10_against_24 : decode cX10_against 24 = .ok (.lcmp, 1) := by decide +kernel
theorem dX10_against_25 : decode cX10_against 25 = .ok (.ifCond .ne 7, 3) := by decide +kernel
theorem dX10_against_28 : decode cX10_against 28 = .ok (.iconst 2, 1) := by decide +kernel
theorem dX10_against_29 : decode cX10_against 29 = .ok (.goto 36, 3) := by decide +kernel
theorem dX10_against_32 : decode cX10_against 32 = .ok (.lload_n 3, 1) := by decide +kernel
theorem dX10_against_33 : decode cX10_against 33 = .ok (.invokestatic 91, 3) := by decide +kernel
theorem dX10_against_36 : decode cX10_against 36 = .ok (.iconst 1, 1) := by decide +kernel
theorem dX10_against_37 : decode cX10_against 37 = .ok (.if_icmp .le 7, 3) := by decide +kernel
theorem dX10_against_40 : decode cX10_against 40 = .ok (.iconst 3, 1) := by decide +kernel
theorem dX10_against_41 : decode cX10_against 41 = .ok (.goto 24, 3) := by decide +kernel
theorem dX10_against_44 : decode cX10_against 44 = .ok (.aload_n 0, 1) := by decide +kernel
theorem dX10_against_45 : decode cX10_against 45 = .ok (.getfield 7, 3) := by decide +kernel
theorem dX10_against_48 : decode cX10_against 48 = .ok (.lload_n 3, 1) := by decide +kernel
theorem dX10_against_49 : decode cX10_against 49 = .ok (.invokestatic 95, 3) := by decide +kernel
theorem dX10_against_52 : decode cX10_against 52 = .ok (.iaload, 1) := by decide +kernel
theorem dX10_against_53 : decode cX10_against 53 = .ok (.lload_n 1, 1) := by decide +kernel
theorem dX10_against_54 : decode cX10_against 54 = .ok (.invokestatic 91, 3) := by decide +kernel
theorem dX10_against_57 : decode cX10_against 57 = .ok (.if_icmp .eq 7, 3) := by decide +kernel
theorem dX10_against_60 : decode cX10_against 60 = .ok (.iconst 4, 1) := by decide +kernel
theorem dX10_against_61 : decode cX10_against 61 = .ok (.goto 4, 3) := by decide +kernel
theorem dX10_against_64 : decode cX10_against 64 = .ok (.iconst 0, 1) := by decide +kernel
theorem dX10_against_65 : decode cX10_against 65 = .ok (.ireturn, 1) := by decide +kernel
set_option maxRecDepth 20000 in
theorem ggX10_draws_X10_lowest : GoodIn wsX10_draws wsX10_lowest := goodIn_r _ [5, 6, 7, 4, 8] (by decide +kernel) (by decide +kernel)
set_option maxRecDepth 20000 in
theorem gX10_draws_X10_lowest : GoodIn wsX10_draws (va_wsS RX10 95 yX10_lowest wsX10_lowest) := goodIn_app (goodIn_of _ (by decide +kernel)) ggX10_draws_X10_lowest
set_option maxRecDepth 20000 in
theorem ggX10_draws_X10_has : GoodIn wsX10_draws wsX10_has := goodIn_r _ [8] (by decide +kernel) (by decide +kernel)
set_option maxRecDepth 20000 in
theorem gX10_draws_X10_has : GoodIn wsX10_draws (va_wsS RX10 80 yX10_has wsX10_has) := goodIn_app (goodIn_of _ (by decide +kernel)) ggX10_draws_X10_has
theorem dX10_draws_0 : decode cX10_draws 0 = .ok (.lload_n 1, 1) := by decide +kernel
theorem dX10_draws_1 : decode cX10_draws 1 = .ok (.invokestatic 95, 3) := by decide +kernel
theorem dX10_draws_4 : decode cX10_draws 4 = .ok (.istore_n 3, 1) := by decide +kernel
theorem dX10_draws_5 : decode cX10_draws 5 = .ok (.iconst 0, 1) := by decide +kernel
theorem dX10_draws_6 : decode cX10_draws 6 = .ok (.istore 4, 2) := by decide +kernel
theorem dX10_draws_8 : decode cX10_draws 8 = .ok (.iload 4, 2) := by decide +kernel
theorem dX10_draws_10 : decode cX10_draws 10 = .ok (.bipush 42, 2) := by decide +kernel
theorem dX10_draws_12 : decode cX10_draws 12 = .ok (.if_icmp .ge 44, 3) := by decide +kernel
theorem dX10_draws_15 : decode cX10_draws 15 = .ok (.aload_n 0, 1) := by decide +kernel
theorem dX10_draws_16 : decode cX10_draws 16 = .ok (.getfield 7, 3) := by decide +kernel
theorem dX10_draws_19 : decode cX10_draws 19 = .ok (.bipush 42, 2) := by decide +kernel
theorem dX10_draws_21 : decode cX10_draws 21 = .ok (.iload 4, 2) := by decide +kernel
theorem dX10_draws_23 : decode cX10_draws 23 = .ok (.iadd, 1) := by decide +kernel
theorem dX10_draws_24 : decode cX10_draws 24 = .ok (.lload_n 1, 1) := by decide +kernel
theorem dX10_draws_25 : decode cX10_draws 25 = .ok (.iload 4, 2) := by decide +kernel
theorem dX10_draws_27 : decode cX10_draws 27 = .ok (.invokestatic 80, 3) := by decide +kernel
theorem dX10_draws_30 : decode cX10_draws 30 = .ok (.ifCond .eq 9, 3) := by decide +kernel
theorem dX10_draws_33 : decode cX10_draws 33 = .ok (.iload_n 3, 1) := by decide +kernel
theorem dX10_draws_34 : decode cX10_draws 34 = .ok (.iconst 1, 1) := by decide +kernel
theorem dX10_draws_35 : decode cX10_draws 35 = .ok (.iadd, 1) := by decide +kernel
theorem dX10_draws_36 : decode cX10_draws 36 = .ok (.goto 13, 3) := by decide +kernel
theorem dX10_draws_39 : decode cX10_draws 39 = .ok (.aload_n 0, 1) := by decide +kernel
theorem dX10_draws_40 : decode cX10_draws 40 = .ok (.getfield 7, 3) := by decide +kernel
theorem dX10_draws_43 : decode cX10_draws 43 = .ok (.bipush 42, 2) := by decide +kernel
theorem dX10_draws_45 : decode cX10_draws 45 = .ok (.iload 4, 2) := by decide +kernel
theorem dX10_draws_47 : decode cX10_draws 47 = .ok (.iadd, 1) := by decide +kernel
theorem dX10_draws_48 : decode cX10_draws 48 = .ok (.iaload, 1) := by decide +kernel
theorem dX10_draws_49 : decode cX10_draws 49 = .ok (.iastore, 1) := by decide +kernel
theorem dX10_draws_50 : decode cX10_draws 50 = .ok (.iinc 4 1, 3) := by decide +kernel
theorem dX10_draws_53 : decode cX10_draws 53 = .ok (.goto (-45), 3) := by decide +kernel
theorem dX10_draws_56 : decode cX10_draws 56 = .ok (.return_, 1) := by decide +kernel
set_option maxRecDepth 20000 in
theorem ggX10_lists_X10_rectangle : GoodIn wsX10_lists wsX10_rectangle := goodIn_r _ [10] (by decide +kernel) (by decide +kernel)
set_option maxRecDepth 20000 in
theorem gX10_lists_X10_rectangle : GoodIn wsX10_lists (va_wsS RX10 98 yX10_rectangle wsX10_rectangle) := goodIn_app (goodIn_of _ (by decide +kernel)) ggX10_lists_X10_rectangle
theorem dX10_lists_0 : decode cX10_lists 0 = .ok (.iload_n 1, 1) := by decide +kernel
theorem dX10_lists_1 : decode cX10_lists 1 = .ok (.bipush 7, 2) := by decide +kernel
theorem dX10_lists_3 : decode cX10_lists 3 = .ok (.idiv, 1) := by decide +kernel
theorem dX10_lists_4 : decode cX10_lists 4 = .ok (.istore 6, 2) := by decide +kernel
theorem dX10_lists_6 : decode cX10_lists 6 = .ok (.iload_n 1, 1) := by decide +kernel
theorem dX10_lists_7 : decode cX10_lists 7 = .ok (.bipush 7, 2) := by decide +kernel
theorem dX10_lists_9 : decode cX10_lists 9 = .ok (.irem, 1) := by decide +kernel
theorem dX10_lists_10 : decode cX10_lists 10 = .ok (.istore 7, 2) := by decide +kernel
theorem dX10_lists_12 : decode cX10_lists 12 = .ok (.iconst 0, 1) := by decide +kernel
theorem dX10_lists_13 : decode cX10_lists 13 = .ok (.istore 8, 2) := by decide +kernel
theorem dX10_lists_15 : decode cX10_lists 15 = .ok (.iload 8, 2) := by decide +kernel
theorem dX10_lists_17 : decode cX10_lists 17 = .ok (.iload 6, 2) := by decide +kernel
theorem dX10_lists_19 : decode cX10_lists 19 = .ok (.if_icmp .gt 238, 3) := by decide +kernel
theorem dX10_lists_22 : decode cX10_lists 22 = .ok (.iconst 0, 1) := by decide +kernel
theorem dX10_lists_23 : decode cX10_lists 23 = .ok (.istore 9, 2) := by decide +kernel
theorem dX10_lists_25 : decode cX10_lists 25 = .ok (.iload 9, 2) := by decide +kernel
theorem dX10_lists_27 : decode cX10_lists 27 = .ok (.iload 7, 2) := by decide +kernel
theorem dX10_lists_29 : decode cX10_lists 29 = .ok (.if_icmp .gt 222, 3) := by decide +kernel
theorem dX10_lists_32 : decode cX10_lists 32 = .ok (.iload 6, 2) := by decide +kernel
theorem dX10_lists_34 : decode cX10_lists 34 = .ok (.istore 10, 2) := by decide +kernel
theorem dX10_lists_36 : decode cX10_lists 36 = .ok (.iload 10, 2) := by decide +kernel
theorem dX10_lists_38 : decode cX10_lists 38 = .ok (.bipush 6, 2) := by decide +kernel
theorem dX10_lists_40 : decode cX10_lists 40 = .ok (.if_icmp .ge 205, 3) := by decide +kernel
theorem dX10_lists_43 : decode cX10_lists 43 = .ok (.aload_n 0, 1) := by decide +kernel
theorem dX10_lists_44 : decode cX10_lists 44 = .ok (.getfield 7, 3) := by decide +kernel
theorem dX10_lists_47 : decode cX10_lists 47 = .ok (.iload_n 1, 1) := by decide +kernel
theorem dX10_lists_48 : decode cX10_lists 48 = .ok (.iaload, 1) := by decide +kernel
theorem dX10_lists_49 : decode cX10_lists 49 = .ok (.iload 10, 2) := by decide +kernel
theorem dX10_lists_51 : decode cX10_lists 51 = .ok (.iload 8, 2) := by decide +kernel
theorem dX10_lists_53 : decode cX10_lists 53 = .ok (.isub, 1) := by decide +kernel
theorem dX10_lists_54 : decode cX10_lists 54 = .ok (.iconst 1, 1) := by decide +kernel
theorem dX10_lists_55 : decode cX10_lists 55 = .ok (.iadd, 1) := by decide +kernel
theorem dX10_lists_56 : decode cX10_lists 56 = .ok (.idiv, 1) := by decide +kernel
theorem dX10_lists_57 : decode cX10_lists 57 = .ok (.istore 11, 2) := by decide +kernel
theorem dX10_lists_59 : decode cX10_lists 59 = .ok (.iload 9, 2) := by decide +kernel
theorem dX10_lists_61 : decode cX10_lists 61 = .ok (.iload 11, 2) := by decide +kernel
theorem dX10_lists_63 : decode cX10_lists 63 = .ok (.iadd, 1) := by decide +kernel
theorem dX10_lists_64 : decode cX10_lists 64 = .ok (.iconst 1, 1) := by decide +kernel
theorem dX10_lists_65 : decode cX10_lists 65 = .ok (.isub, 1) := by decide +kernel
theorem dX10_lists_66 : decode cX10_lists 66 = .ok (.istore 12, 2) := by decide +kernel
theorem dX10_lists_68 : decode cX10_lists 68 = .ok (.iload 11, 2) := by decide +kernel
theorem dX10_lists_70 : decode cX10_lists 70 = .ok (.iload 10, 2) := by decide +kernel
theorem dX10_lists_72 : decode cX10_lists 72 = .ok (.iload 8, 2) := by decide +kernel
theorem dX10_lists_74 : decode cX10_lists 74 = .ok (.isub, 1) := by decide +kernel
theorem dX10_lists_75 : decode cX10_lists 75 = .ok (.iconst 1, 1) := by decide +kernel
theorem dX10_lists_76 : decode cX10_lists 76 = .ok (.iadd, 1) := by decide +kernel
theorem dX10_lists_77 : decode cX10_lists 77 = .ok (.imul, 1) := by decide +kernel
theorem dX10_lists_78 : decode cX10_lists 78 = .ok (.aload_n 0, 1) := by decide +kernel
theorem dX10_lists_79 : decode cX10_lists 79 = .ok (.getfield 7, 3) := by decide +kernel
theorem dX10_lists_82 : decode cX10_lists 82 = .ok (.iload_n 1, 1) := by decide +kernel
theorem dX10_lists_83 : decode cX10_lists 83 = .ok (.iaload, 1) := by decide +kernel
theorem dX10_lists_84 : decode cX10_lists 84 = .ok (.if_icmp .ne 21, 3) := by decide +kernel
theorem dX10_lists_87 : decode cX10_lists 87 = .ok (.iload 12, 2) := by decide +kernel
theorem dX10_lists_89 : decode cX10_lists 89 = .ok (.iload 7, 2) := by decide +kernel
theorem dX10_lists_91 : decode cX10_lists 91 = .ok (.if_icmp .lt 14, 3) := by decide +kernel
theorem dX10_lists_94 : decode cX10_lists 94 = .ok (.iload 12, 2) := by decide +kernel
theorem dX10_lists_96 : decode cX10_lists 96 = .ok (.bipush 7, 2) := by decide +kernel
theorem dX10_lists_98 : decode cX10_lists 98 = .ok (.if_icmp .ge 7, 3) := by decide +kernel
theorem dX10_lists_101 : decode cX10_lists 101 = .ok (.iconst 1, 1) := by decide +kernel
theorem dX10_lists_102 : decode cX10_lists 102 = .ok (.goto 4, 3) := by decide +kernel
theorem dX10_lists_105 : decode cX10_lists 105 = .ok (.iconst 0, 1) := by decide +kernel
theorem dX10_lists_106 : decode cX10_lists 106 = .ok (.istore 13, 2) := by decide +kernel
theorem dX10_lists_108 : decode cX10_lists 108 = .ok (.iload 13, 2) := by decide +kernel
theorem dX10_lists_110 : decode cX10_lists 110 = .ok (.ifCond .eq 17, 3) := by decide +kernel
theorem dX10_lists_113 : decode cX10_lists 113 = .ok (.iload 8, 2) := by decide +kernel
theorem dX10_lists_115 : decode cX10_lists 115 = .ok (.iload 9, 2) := by decide +kernel
theorem dX10_lists_117 : decode cX10_lists 117 = .ok (.iload 10, 2) := by decide +kernel
theorem dX10_lists_119 : decode cX10_lists 119 = .ok (.iload 12, 2) := by decide +kernel
theorem dX10_lists_121 : decode cX10_lists 121 = .ok (.invokestatic 98, 3) := by decide +kernel
theorem dX10_lists_124 : decode cX10_lists 124 = .ok (.goto 4, 3) := by decide +kernel
theorem dX10_lists_127 : decode cX10_lists 127 = .ok (.lconst 0, 1) := by decide +kernel
theorem dX10_lists_128 : decode cX10_lists 128 = .ok (.lstore 14, 2) := by decide +kernel
theorem dX10_lists_130 : decode cX10_lists 130 = .ok (.iload 13, 2) := by decide +kernel
theorem dX10_lists_132 : decode cX10_lists 132 = .ok (.ifCond .eq 107, 3) := by decide +kernel
theorem dX10_lists_135 : decode cX10_lists 135 = .ok (.lload 14, 2) := by decide +kernel
theorem dX10_lists_137 : decode cX10_lists 137 = .ok (.lload_n 2, 1) := by decide +kernel
theorem dX10_lists_138 : decode cX10_lists 138 = .ok (.land, 1) := by decide +kernel
theorem dX10_lists_139 : decode cX10_lists 139 = .ok (.lconst 1, 1) := by decide +kernel
theorem dX10_lists_140 : decode cX10_lists 140 = .ok (.iload_n 1, 1) := by decide +kernel
theorem dX10_lists_141 : decode cX10_lists 141 = .ok (.lshl, 1) := by decide +kernel
theorem dX10_lists_142 : decode cX10_lists 142 = .ok (.lcmp, 1) := by decide +kernel
theorem dX10_lists_143 : decode cX10_lists 143 = .ok (.ifCond .ne 96, 3) := by decide +kernel
theorem dX10_lists_146 : decode cX10_lists 146 = .ok (.lload 14, 2) := by decide +kernel
theorem dX10_lists_148 : decode cX10_lists 148 = .ok (.lload 4, 2) := by decide +kernel
theorem dX10_lists_150 : decode cX10_lists 150 = .ok (.land, 1) := by decide +kernel
theorem dX10_lists_151 : decode cX10_lists 151 = .ok (.lconst 0, 1) := by decide +kernel
theorem dX10_lists_152 : decode cX10_lists 152 = .ok (.lcmp, 1) := by decide +kernel
theorem dX10_lists_153 : decode cX10_lists 153 = .ok (.ifCond .ne 86, 3) := by decide +kernel
theorem dX10_lists_156 : decode cX10_lists 156 = .ok (.aload_n 0, 1) := by decide +kernel
theorem dX10_lists_157 : decode cX10_lists 157 = .ok (.getfield 26, 3) := by decide +kernel
theorem dX10_lists_160 : decode cX10_lists 160 = .ok (.aload_n 0, 1) := by decide +kernel
theorem dX10_lists_161 : decode cX10_lists 161 = .ok (.getfield 102, 3) := by decide +kernel
theorem dX10_lists_164 : decode cX10_lists 164 = .ok (.lload 14, 2) := by decide +kernel
theorem dX10_lists_166 : decode cX10_lists 166 = .ok (.lastore, 1) := by decide +kernel
theorem dX10_lists_167 : decode cX10_lists 167 = .ok (.aload_n 0, 1) := by decide +kernel
theorem dX10_lists_168 : decode cX10_lists 168 = .ok (.getfield 30, 3) := by decide +kernel
theorem dX10_lists_171 : decode cX10_lists 171 = .ok (.aload_n 0, 1) := by decide +kernel
theorem dX10_lists_172 : decode cX10_lists 172 = .ok (.getfield 102, 3) := by decide +kernel
theorem dX10_lists_175 : decode cX10_lists 175 = .ok (.iload_n 1, 1) := by decide +kernel
theorem dX10_lists_176 : decode cX10_lists 176 = .ok (.iastore, 1) := by decide +kernel
theorem dX10_lists_177 : decode cX10_lists 177 = .ok (.aload_n 0, 1) := by decide +kernel
theorem dX10_lists_178 : decode cX10_lists 178 = .ok (.getfield 33, 3) := by decide +kernel
theorem dX10_lists_181 : decode cX10_lists 181 = .ok (.aload_n 0, 1) := by decide +kernel
theorem dX10_lists_182 : decode cX10_lists 182 = .ok (.getfield 102, 3) := by decide +kernel
theorem dX10_lists_185 : decode cX10_lists 185 = .ok (.bipush 42, 2) := by decide +kernel
theorem dX10_lists_187 : decode cX10_lists 187 = .ok (.bipush 7, 2) := by decide +kernel
theorem dX10_lists_189 : decode cX10_lists 189 = .ok (.iload 8, 2) := by decide +kernel
theorem dX10_lists_191 : decode cX10_lists 191 = .ok (.imul, 1) := by decide +kernel
theorem dX10_lists_192 : decode cX10_lists 192 = .ok (.iload 9, 2) := by decide +kernel
theorem dX10_lists_194 : decode cX10_lists 194 = .ok (.iadd, 1) := by decide +kernel
theorem dX10_lists_195 : decode cX10_lists 195 = .ok (.imul, 1) := by decide +kernel
theorem dX10_lists_196 : decode cX10_lists 196 = .ok (.bipush 7, 2) := by decide +kernel
theorem dX10_lists_198 : decode cX10_lists 198 = .ok (.iload 10, 2) := by decide +kernel
theorem dX10_lists_200 : decode cX10_lists 200 = .ok (.imul, 1) := by decide +kernel
theorem dX10_lists_201 : decode cX10_lists 201 = .ok (.iadd, 1) := by decide +kernel
theorem dX10_lists_202 : decode cX10_lists 202 = .ok (.iload 12, 2) := by decide +kernel
theorem dX10_lists_204 : decode cX10_lists 204 = .ok (.iadd, 1) := by decide +kernel
theorem dX10_lists_205 : decode cX10_lists 205 = .ok (.iastore, 1) := by decide +kernel
theorem dX10_lists_206 : decode cX10_lists 206 = .ok (.aload_n 0, 1) := by decide +kernel
theorem dX10_lists_207 : decode cX10_lists 207 = .ok (.getfield 36, 3) := by decide +kernel
theorem dX10_lists_210 : decode cX10_lists 210 = .ok (.bipush 6, 2) := by decide +kernel
theorem dX10_lists_212 : decode cX10_lists 212 = .ok (.bipush 7, 2) := by decide +kernel
theorem dX10_lists_214 : decode cX10_lists 214 = .ok (.iload 8, 2) := by decide +kernel
theorem dX10_lists_216 : decode cX10_lists 216 = .ok (.imul, 1) := by decide +kernel
theorem dX10_lists_217 : decode cX10_lists 217 = .ok (.iload 9, 2) := by decide +kernel
theorem dX10_lists_219 : decode cX10_lists 219 = .ok (.iadd, 1) := by decide +kernel
theorem dX10_lists_220 : decode cX10_lists 220 = .ok (.imul, 1) := by decide +kernel
theorem dX10_lists_221 : decode cX10_lists 221 = .ok (.iload 10, 2) := by decide +kernel
theorem dX10_lists_223 : decode cX10_lists 223 = .ok (.iadd, 1) := by decide +kernel
theorem dX10_lists_224 : decode cX10_lists 224 = .ok (.aload_n 0, 1) := by decide +kernel
theorem dX10_lists_225 : decode cX10_lists 225 = .ok (.getfield 102, 3) := by decide +kernel
theorem dX10_lists_228 : decode cX10_lists 228 = .ok (.iastore, 1) := by decide +kernel
theorem dX10_lists_229 : decode cX10_lists 229 = .ok (.aload_n 0, 1) := by decide +kernel
theorem dX10_lists_230 : decode cX10_lists 230 = .ok (.dup, 1) := by decide +kernel
theorem dX10_lists_231 : decode cX10_lists 231 = .ok (.getfield 102, 3) := by decide +kernel
theorem dX10_lists_234 : decode cX10_lists 234 = .ok (.iconst 1, 1) := by decide +kernel
theorem dX10_lists_235 : decode cX10_lists 235 = .ok (.iadd, 1) := by decide +kernel
theorem dX10_lists_236 : decode cX10_lists 236 = .ok (.putfield 102, 3) := by decide +kernel
theorem dX10_lists_239 : decode cX10_lists 239 = .ok (.iinc 10 1, 3) := by decide +kernel
theorem dX10_lists_242 : decode cX10_lists 242 = .ok (.goto (-206), 3) := by decide +kernel
theorem dX10_lists_245 : decode cX10_lists 245 = .ok (.iinc 9 1, 3) := by decide +kernel
theorem dX10_lists_248 : decode cX10_lists 248 = .ok (.goto (-223), 3) := by decide +kernel
theorem dX10_lists_251 : decode cX10_lists 251 = .ok (.iinc 8 1, 3) := by decide +kernel
theorem dX10_lists_254 : decode cX10_lists 254 = .ok (.goto (-239), 3) := by decide +kernel
theorem dX10_lists_257 : decode cX10_lists 257 = .ok (.return_, 1) := by decide +kernel
set_option maxRecDepth 20000 in
theorem ggX10_finds_X10_numbered : GoodIn wsX10_finds wsX10_numbered := goodIn_r _ [8, 3, 23, 24, 25, 26, 27, 28, 29, 30, 31, 32, 33, 34, 35, 36, 37, 38, 39, 40, 41, 42, 43, 44, 45, 46, 47, 48] (by decide +kernel) (by decide +kernel)
set_option maxRecDepth 20000 in
theorem gX10_finds_X10_numbered : GoodIn wsX10_finds (wsV RX10 84 RX10 yX10_numbered wsX10_numbered) := goodIn_app (goodIn_of _ (by decide +kernel)) ggX10_finds_X10_numbered
set_option maxRecDepth 20000 in
theorem ggX10_finds_X10_taken : GoodIn wsX10_finds wsX10_taken := goodIn_r _ [12, 3, 23, 24, 25, 26, 27, 28, 29, 30, 31, 32, 33, 34, 35, 36, 37, 38, 39, 40, 41, 42, 43, 44, 45, 46, 47, 48] (by decide +kernel) (by decide +kernel)
set_option maxRecDepth 20000 in
theorem gX10_finds_X10_taken : GoodIn wsX10_finds (wsV RX10 88 RX10 yX10_taken wsX10_taken) := goodIn_app (goodIn_of _ (by decide +kernel)) ggX10_finds_X10_taken
set_option maxRecDepth 20000 in
theorem ggX10_finds_X10_lists : GoodIn wsX10_finds wsX10_lists := goodIn_r _ [16, 3, 17, 1, 18, 19, 2, 20, 21, 7, 22, 23, 24, 25, 26, 27, 28, 29, 30, 31, 32, 33, 34, 35, 36, 37, 38, 39, 40, 41, 42, 43, 44, 45, 46, 47, 48] (by decide +kernel) (by decide +kernel)
set_option maxRecDepth 20000 in
theorem gX10_finds_X10_lists : GoodIn wsX10_finds (wsV RX10 105 RX10 yX10_lists wsX10_lists) := goodIn_app (goodIn_of _ (by decide +kernel)) ggX10_finds_X10_lists
theorem dX10_finds_0 : decode cX10_finds 0 = .ok (.aload_n 0, 1) := by decide +kernel
theorem dX10_finds_1 : decode cX10_finds 1 = .ok (.iconst 0, 1) := by decide +kernel
theorem dX10_finds_2 : decode cX10_finds 2 = .ok (.putfield 102, 3) := by decide +kernel
theorem dX10_finds_5 : decode cX10_finds 5 = .ok (.iconst 0, 1) := by decide +kernel
theorem dX10_finds_6 : decode cX10_finds 6 = .ok (.istore_n 1, 1) := by decide +kernel
theorem dX10_finds_7 : decode cX10_finds 7 = .ok (.iload_n 1, 1) := by decide +kernel
theorem dX10_finds_8 : decode cX10_finds 8 = .ok (.sipush 252, 3) := by decide +kernel
theorem dX10_finds_11 : decode cX10_finds 11 = .ok (.if_icmp .ge 16, 3) := by decide +kernel
theorem dX10_finds_14 : decode cX10_finds 14 = .ok (.aload_n 0, 1) := by decide +kernel
theorem dX10_finds_15 : decode cX10_finds 15 = .ok (.getfield 36, 3) := by decide +kernel
theorem dX10_finds_18 : decode cX10_finds 18 = .ok (.iload_n 1, 1) := by decide +kernel
theorem dX10_finds_19 : decode cX10_finds 19 = .ok (.iconst (-1), 1) := by decide +kernel
theorem dX10_finds_20 : decode cX10_finds 20 = .ok (.iastore, 1) := by decide +kernel
theorem dX10_finds_21 : decode cX10_finds 21 = .ok (.iinc 1 1, 3) := by decide +kernel
theorem dX10_finds_24 : decode cX10_finds 24 = .ok (.goto (-17), 3) := by decide +kernel
theorem dX10_finds_27 : decode cX10_finds 27 = .ok (.aload_n 0, 1) := by decide +kernel
theorem dX10_finds_28 : decode cX10_finds 28 = .ok (.invokevirtual 84, 3) := by decide +kernel
theorem dX10_finds_31 : decode cX10_finds 31 = .ok (.lstore_n 1, 1) := by decide +kernel
theorem dX10_finds_32 : decode cX10_finds 32 = .ok (.aload_n 0, 1) := by decide +kernel
theorem dX10_finds_33 : decode cX10_finds 33 = .ok (.invokevirtual 88, 3) := by decide +kernel
theorem dX10_finds_36 : decode cX10_finds 36 = .ok (.lstore_n 3, 1) := by decide +kernel
theorem dX10_finds_37 : decode cX10_finds 37 = .ok (.iconst 0, 1) := by decide +kernel
theorem dX10_finds_38 : decode cX10_finds 38 = .ok (.istore 5, 2) := by decide +kernel
theorem dX10_finds_40 : decode cX10_finds 40 = .ok (.iload 5, 2) := by decide +kernel
theorem dX10_finds_42 : decode cX10_finds 42 = .ok (.bipush 42, 2) := by decide +kernel
theorem dX10_finds_44 : decode cX10_finds 44 = .ok (.if_icmp .ge 40, 3) := by decide +kernel
theorem dX10_finds_47 : decode cX10_finds 47 = .ok (.aload_n 0, 1) := by decide +kernel
theorem dX10_finds_48 : decode cX10_finds 48 = .ok (.getfield 7, 3) := by decide +kernel
theorem dX10_finds_51 : decode cX10_finds 51 = .ok (.iload 5, 2) := by decide +kernel
theorem dX10_finds_53 : decode cX10_finds 53 = .ok (.iaload, 1) := by decide +kernel
theorem dX10_finds_54 : decode cX10_finds 54 = .ok (.ifCond .le 24, 3) := by decide +kernel
theorem dX10_finds_57 : decode cX10_finds 57 = .ok (.aload_n 0, 1) := by decide +kernel
theorem dX10_finds_58 : decode cX10_finds 58 = .ok (.getfield 7, 3) := by decide +kernel
theorem dX10_finds_61 : decode cX10_finds 61 = .ok (.bipush 42, 2) := by decide +kernel
theorem dX10_finds_63 : decode cX10_finds 63 = .ok (.iload 5, 2) := by decide +kernel
theorem dX10_finds_65 : decode cX10_finds 65 = .ok (.iadd, 1) := by decide +kernel
theorem dX10_finds_66 : decode cX10_finds 66 = .ok (.iaload, 1) := by decide +kernel
theorem dX10_finds_67 : decode cX10_finds 67 = .ok (.ifCond .ne 11, 3) := by decide +kernel
theorem dX10_finds_70 : decode cX10_finds 70 = .ok (.aload_n 0, 1) := by decide +kernel
theorem dX10_finds_71 : decode cX10_finds 71 = .ok (.iload 5, 2) := by decide +kernel
theorem dX10_finds_73 : decode cX10_finds 73 = .ok (.lload_n 1, 1) := by decide +kernel
theorem dX10_finds_74 : decode cX10_finds 74 = .ok (.lload_n 3, 1) := by decide +kernel
theorem dX10_finds_75 : decode cX10_finds 75 = .ok (.invokevirtual 105, 3) := by decide +kernel
theorem dX10_finds_78 : decode cX10_finds 78 = .ok (.iinc 5 1, 3) := by decide +kernel
theorem dX10_finds_81 : decode cX10_finds 81 = .ok (.goto (-41), 3) := by decide +kernel
theorem dX10_finds_84 : decode cX10_finds 84 = .ok (.return_, 1) := by decide +kernel
theorem dX10_tellsNumbers_0 : decode cX10_tellsNumbers 0 = .ok (.iconst 0, 1) := by decide +kernel
theorem dX10_tellsNumbers_1 : decode cX10_tellsNumbers 1 = .ok (.istore_n 1, 1) := by decide +kernel
theorem dX10_tellsNumbers_2 : decode cX10_tellsNumbers 2 = .ok (.iload_n 1, 1) := by decide +kernel
theorem dX10_tellsNumbers_3 : decode cX10_tellsNumbers 3 = .ok (.bipush 42, 2) := by decide +kernel
theorem dX10_tellsNumbers_5 : decode cX10_tellsNumbers 5 = .ok (.if_icmp .ge 25, 3) := by decide +kernel
theorem dX10_tellsNumbers_8 : decode cX10_tellsNumbers 8 = .ok (.aload_n 0, 1) := by decide +kernel
theorem dX10_tellsNumbers_9 : decode cX10_tellsNumbers 9 = .ok (.getfield 45, 3) := by decide +kernel
theorem dX10_tellsNumbers_12 : decode cX10_tellsNumbers 12 = .ok (.iload_n 1, 1) := by decide +kernel
theorem dX10_tellsNumbers_13 : decode cX10_tellsNumbers 13 = .ok (.ldc2_w 109, 3) := by decide +kernel
theorem dX10_tellsNumbers_16 : decode cX10_tellsNumbers 16 = .ok (.lastore, 1) := by decide +kernel
theorem dX10_tellsNumbers_17 : decode cX10_tellsNumbers 17 = .ok (.aload_n 0, 1) := by decide +kernel
theorem dX10_tellsNumbers_18 : decode cX10_tellsNumbers 18 = .ok (.getfield 48, 3) := by decide +kernel
theorem dX10_tellsNumbers_21 : decode cX10_tellsNumbers 21 = .ok (.iload_n 1, 1) := by decide +kernel
theorem dX10_tellsNumbers_22 : decode cX10_tellsNumbers 22 = .ok (.lconst 0, 1) := by decide +kernel
theorem dX10_tellsNumbers_23 : decode cX10_tellsNumbers 23 = .ok (.lastore, 1) := by decide +kernel
theorem dX10_tellsNumbers_24 : decode cX10_tellsNumbers 24 = .ok (.iinc 1 1, 3) := by decide +kernel
theorem dX10_tellsNumbers_27 : decode cX10_tellsNumbers 27 = .ok (.goto (-25), 3) := by decide +kernel
theorem dX10_tellsNumbers_30 : decode cX10_tellsNumbers 30 = .ok (.iconst 0, 1) := by decide +kernel
theorem dX10_tellsNumbers_31 : decode cX10_tellsNumbers 31 = .ok (.istore_n 1, 1) := by decide +kernel
theorem dX10_tellsNumbers_32 : decode cX10_tellsNumbers 32 = .ok (.iload_n 1, 1) := by decide +kernel
theorem dX10_tellsNumbers_33 : decode cX10_tellsNumbers 33 = .ok (.aload_n 0, 1) := by decide +kernel
theorem dX10_tellsNumbers_34 : decode cX10_tellsNumbers 34 = .ok (.getfield 102, 3) := by decide +kernel
theorem dX10_tellsNumbers_37 : decode cX10_tellsNumbers 37 = .ok (.if_icmp .ge 58, 3) := by decide +kernel
theorem dX10_tellsNumbers_40 : decode cX10_tellsNumbers 40 = .ok (.aload_n 0, 1) := by decide +kernel
theorem dX10_tellsNumbers_41 : decode cX10_tellsNumbers 41 = .ok (.getfield 39, 3) := by decide +kernel
theorem dX10_tellsNumbers_44 : decode cX10_tellsNumbers 44 = .ok (.iload_n 1, 1) := by decide +kernel
theorem dX10_tellsNumbers_45 : decode cX10_tellsNumbers 45 = .ok (.baload, 1) := by decide +kernel
theorem dX10_tellsNumbers_46 : decode cX10_tellsNumbers 46 = .ok (.ifCond .ne 43, 3) := by decide +kernel
theorem dX10_tellsNumbers_49 : decode cX10_tellsNumbers 49 = .ok (.aload_n 0, 1) := by decide +kernel
theorem dX10_tellsNumbers_50 : decode cX10_tellsNumbers 50 = .ok (.getfield 45, 3) := by decide +kernel
theorem dX10_tellsNumbers_53 : decode cX10_tellsNumbers 53 = .ok (.aload_n 0, 1) := by decide +kernel
theorem dX10_tellsNumbers_54 : decode cX10_tellsNumbers 54 = .ok (.getfield 30, 3) := by decide +kernel
theorem dX10_tellsNumbers_57 : decode cX10_tellsNumbers 57 = .ok (.iload_n 1, 1) := by decide +kernel
theorem dX10_tellsNumbers_58 : decode cX10_tellsNumbers 58 = .ok (.iaload, 1) := by decide +kernel
theorem dX10_tellsNumbers_59 : decode cX10_tellsNumbers 59 = .ok (.dup2, 1) := by decide +kernel
theorem dX10_tellsNumbers_60 : decode cX10_tellsNumbers 60 = .ok (.laload, 1) := by decide +kernel
theorem dX10_tellsNumbers_61 : decode cX10_tellsNumbers 61 = .ok (.aload_n 0, 1) := by decide +kernel
theorem dX10_tellsNumbers_62 : decode cX10_tellsNumbers 62 = .ok (.getfield 26, 3) := by decide +kernel
theorem dX10_tellsNumbers_65 : decode cX10_tellsNumbers 65 = .ok (.iload_n 1, 1) := by decide +kernel
theorem dX10_tellsNumbers_66 : decode cX10_tellsNumbers 66 = .ok (.laload, 1) := by decide +kernel
theorem dX10_tellsNumbers_67 : decode cX10_tellsNumbers 67 = .ok (.land, 1) := by decide +kernel
theorem dX10_tellsNumbers_68 : decode cX10_tellsNumbers 68 = .ok (.lastore, 1) := by decide +kernel
theorem dX10_tellsNumbers_69 : decode cX10_tellsNumbers 69 = .ok (.aload_n 0, 1) := by decide +kernel
theorem dX10_tellsNumbers_70 : decode cX10_tellsNumbers 70 = .ok (.getfield 48, 3) := by decide +kernel
theorem dX10_tellsNumbers_73 : decode cX10_tellsNumbers 73 = .ok (.aload_n 0, 1) := by decide +kernel
theorem dX10_tellsNumbers_74 : decode cX10_tellsNumbers 74 = .ok (.getfield 30, 3) := by decide +kernel
theorem dX10_tellsNumbers_77 : decode cX10_tellsNumbers 77 = .ok (.iload_n 1, 1) := by decide +kernel
theorem dX10_tellsNumbers_78 : decode cX10_tellsNumbers 78 = .ok (.iaload, 1) := by decide +kernel
theorem dX10_tellsNumbers_79 : decode cX10_tellsNumbers 79 = .ok (.dup2, 1) := by decide +kernel
theorem dX10_tellsNumbers_80 : decode cX10_tellsNumbers 80 = .ok (.laload, 1) := by decide +kernel
theorem dX10_tellsNumbers_81 : decode cX10_tellsNumbers 81 = .ok (.aload_n 0, 1) := by decide +kernel
theorem dX10_tellsNumbers_82 : decode cX10_tellsNumbers 82 = .ok (.getfield 26, 3) := by decide +kernel
theorem dX10_tellsNumbers_85 : decode cX10_tellsNumbers 85 = .ok (.iload_n 1, 1) := by decide +kernel
theorem dX10_tellsNumbers_86 : decode cX10_tellsNumbers 86 = .ok (.laload, 1) := by decide +kernel
theorem dX10_tellsNumbers_87 : decode cX10_tellsNumbers 87 = .ok (.lor, 1) := by decide +kernel
theorem dX10_tellsNumbers_88 : decode cX10_tellsNumbers 88 = .ok (.lastore, 1) := by decide +kernel
theorem dX10_tellsNumbers_89 : decode cX10_tellsNumbers 89 = .ok (.iinc 1 1, 3) := by decide +kernel
theorem dX10_tellsNumbers_92 : decode cX10_tellsNumbers 92 = .ok (.goto (-60), 3) := by decide +kernel
theorem dX10_tellsNumbers_95 : decode cX10_tellsNumbers 95 = .ok (.return_, 1) := by decide +kernel
theorem dX10_isOut_0 : decode cX10_isOut 0 = .ok (.lconst 0, 1) := by decide +kernel
theorem dX10_isOut_1 : decode cX10_isOut 1 = .ok (.lstore_n 2, 1) := by decide +kernel
theorem dX10_isOut_2 : decode cX10_isOut 2 = .ok (.iconst 0, 1) := by decide +kernel
theorem dX10_isOut_3 : decode cX10_isOut 3 = .ok (.istore 4, 2) := by decide +kernel
theorem dX10_isOut_5 : decode cX10_isOut 5 = .ok (.iconst 0, 1) := by decide +kernel
theorem dX10_isOut_6 : decode cX10_isOut 6 = .ok (.istore 5, 2) := by decide +kernel
theorem dX10_isOut_8 : decode cX10_isOut 8 = .ok (.iload 5, 2) := by decide +kernel
theorem dX10_isOut_10 : decode cX10_isOut 10 = .ok (.bipush 42, 2) := by decide +kernel
theorem dX10_isOut_12 : decode cX10_isOut 12 = .ok (.if_icmp .ge 73, 3) := by decide +kernel
theorem dX10_isOut_15 : decode cX10_isOut 15 = .ok (.iload 5, 2) := by decide +kernel
theorem dX10_isOut_17 : decode cX10_isOut 17 = .ok (.aload_n 0, 1) := by decide +kernel
theorem dX10_isOut_18 : decode cX10_isOut 18 = .ok (.getfield 30, 3) := by decide +kernel
theorem dX10_isOut_21 : decode cX10_isOut 21 = .ok (.iload_n 1, 1) := by decide +kernel
theorem dX10_isOut_22 : decode cX10_isOut 22 = .ok (.iaload, 1) := by decide +kernel
theorem dX10_isOut_23 : decode cX10_isOut 23 = .ok (.if_icmp .eq 56, 3) := by decide +kernel
theorem dX10_isOut_26 : decode cX10_isOut 26 = .ok (.lload_n 2, 1) := by decide +kernel
theorem dX10_isOut_27 : decode cX10_isOut 27 = .ok (.aload_n 0, 1) := by decide +kernel
theorem dX10_isOut_28 : decode cX10_isOut 28 = .ok (.getfield 48, 3) := by decide +kernel
theorem dX10_isOut_31 : decode cX10_isOut 31 = .ok (.iload 5, 2) := by decide +kernel
theorem dX10_isOut_33 : decode cX10_isOut 33 = .ok (.laload, 1) := by decide +kernel
theorem dX10_isOut_34 : decode cX10_isOut 34 = .ok (.lor, 1) := by decide +kernel
theorem dX10_isOut_35 : decode cX10_isOut 35 = .ok (.lstore_n 2, 1) := by decide +kernel
theorem dX10_isOut_36 : decode cX10_isOut 36 = .ok (.iload 4, 2) := by decide +kernel
theorem dX10_isOut_38 : decode cX10_isOut 38 = .ok (.ifCond .ne 34, 3) := by decide +kernel
theorem dX10_isOut_41 : decode cX10_isOut 41 = .ok (.aload_n 0, 1) := by decide +kernel
theorem dX10_isOut_42 : decode cX10_isOut 42 = .ok (.getfield 48, 3) := by decide +kernel
theorem dX10_isOut_45 : decode cX10_isOut 45 = .ok (.iload 5, 2) := by decide +kernel
theorem dX10_isOut_47 : decode cX10_isOut 47 = .ok (.laload, 1) := by decide +kernel
theorem dX10_isOut_48 : decode cX10_isOut 48 = .ok (.lconst 0, 1) := by decide +kernel
theorem dX10_isOut_49 : decode cX10_isOut 49 = .ok (.lcmp, 1) := by decide +kernel
theorem dX10_isOut_50 : decode cX10_isOut 50 = .ok (.ifCond .eq 26, 3) := by decide +kernel
theorem dX10_isOut_53 : decode cX10_isOut 53 = .ok (.aload_n 0, 1) := by decide +kernel
theorem dX10_isOut_54 : decode cX10_isOut 54 = .ok (.getfield 45, 3) := by decide +kernel
theorem dX10_isOut_57 : decode cX10_isOut 57 = .ok (.iload 5, 2) := by decide +kernel
theorem dX10_isOut_59 : decode cX10_isOut 59 = .ok (.laload, 1) := by decide +kernel
theorem dX10_isOut_60 : decode cX10_isOut 60 = .ok (.aload_n 0, 1) := by decide +kernel
theorem dX10_isOut_61 : decode cX10_isOut 61 = .ok (.getfield 26, 3) := by decide +kernel
theorem dX10_isOut_64 : decode cX10_isOut 64 = .ok (.iload_n 1, 1) := by decide +kernel
theorem dX10_isOut_65 : decode cX10_isOut 65 = .ok (.laload, 1) := by decide +kernel
theorem dX10_isOut_66 : decode cX10_isOut 66 = .ok (.land, 1) := by decide +kernel
theorem dX10_isOut_67 : decode cX10_isOut 67 = .ok (.lconst 0, 1) := by decide +kernel
theorem dX10_isOut_68 : decode cX10_isOut 68 = .ok (.lcmp, 1) := by decide +kernel
theorem dX10_isOut_69 : decode cX10_isOut 69 = .ok (.ifCond .eq 7, 3) := by decide +kernel
theorem dX10_isOut_72 : decode cX10_isOut 72 = .ok (.iconst 1, 1) := by decide +kernel
theorem dX10_isOut_73 : decode cX10_isOut 73 = .ok (.goto 4, 3) := by decide +kernel
theorem dX10_isOut_76 : decode cX10_isOut 76 = .ok (.iconst 0, 1) := by decide +kernel
theorem dX10_isOut_77 : decode cX10_isOut 77 = .ok (.istore 4, 2) := by decide +kernel
theorem dX10_isOut_79 : decode cX10_isOut 79 = .ok (.iinc 5 1, 3) := by decide +kernel
theorem dX10_isOut_82 : decode cX10_isOut 82 = .ok (.goto (-74), 3) := by decide +kernel
theorem dX10_isOut_85 : decode cX10_isOut 85 = .ok (.iload 4, 2) := by decide +kernel
theorem dX10_isOut_87 : decode cX10_isOut 87 = .ok (.ifCond .ne 36, 3) := by decide +kernel
theorem dX10_isOut_90 : decode cX10_isOut 90 = .ok (.aload_n 0, 1) := by decide +kernel
theorem dX10_isOut_91 : decode cX10_isOut 91 = .ok (.getfield 48, 3) := by decide +kernel
theorem dX10_isOut_94 : decode cX10_isOut 94 = .ok (.aload_n 0, 1) := by decide +kernel
theorem dX10_isOut_95 : decode cX10_isOut 95 = .ok (.getfield 30, 3) := by decide +kernel
theorem dX10_isOut_98 : decode cX10_isOut 98 = .ok (.iload_n 1, 1) := by decide +kernel
theorem dX10_isOut_99 : decode cX10_isOut 99 = .ok (.iaload, 1) := by decide +kernel
theorem dX10_isOut_100 : decode cX10_isOut 100 = .ok (.laload, 1) := by decide +kernel
theorem dX10_isOut_101 : decode cX10_isOut 101 = .ok (.lload_n 2, 1) := by decide +kernel
theorem dX10_isOut_102 : decode cX10_isOut 102 = .ok (.ldc2_w 111, 3) := by decide +kernel
theorem dX10_isOut_105 : decode cX10_isOut 105 = .ok (.lxor, 1) := by decide +kernel
theorem dX10_isOut_106 : decode cX10_isOut 106 = .ok (.land, 1) := by decide +kernel
theorem dX10_isOut_107 : decode cX10_isOut 107 = .ok (.aload_n 0, 1) := by decide +kernel
theorem dX10_isOut_108 : decode cX10_isOut 108 = .ok (.getfield 26, 3) := by decide +kernel
theorem dX10_isOut_111 : decode cX10_isOut 111 = .ok (.iload_n 1, 1) := by decide +kernel
theorem dX10_isOut_112 : decode cX10_isOut 112 = .ok (.laload, 1) := by decide +kernel
theorem dX10_isOut_113 : decode cX10_isOut 113 = .ok (.ldc2_w 111, 3) := by decide +kernel
theorem dX10_isOut_116 : decode cX10_isOut 116 = .ok (.lxor, 1) := by decide +kernel
theorem dX10_isOut_117 : decode cX10_isOut 117 = .ok (.land, 1) := by decide +kernel
theorem dX10_isOut_118 : decode cX10_isOut 118 = .ok (.lconst 0, 1) := by decide +kernel
theorem dX10_isOut_119 : decode cX10_isOut 119 = .ok (.lcmp, 1) := by decide +kernel
theorem dX10_isOut_120 : decode cX10_isOut 120 = .ok (.ifCond .eq 7, 3) := by decide +kernel
theorem dX10_isOut_123 : decode cX10_isOut 123 = .ok (.iconst 1, 1) := by decide +kernel
theorem dX10_isOut_124 : decode cX10_isOut 124 = .ok (.goto 4, 3) := by decide +kernel
theorem dX10_isOut_127 : decode cX10_isOut 127 = .ok (.iconst 0, 1) := by decide +kernel
theorem dX10_isOut_128 : decode cX10_isOut 128 = .ok (.ireturn, 1) := by decide +kernel
set_option maxRecDepth 20000 in
theorem ggX10_rules_X10_finds : GoodIn wsX10_rules wsX10_finds := goodIn_r _ [9, 1, 10, 11, 12, 13, 14, 8, 15, 16, 17, 18, 19, 20, 21, 22, 23, 24, 25, 26, 27, 28, 29, 42, 43, 44, 45, 46, 47, 48, 49, 50, 51, 52, 53, 54, 55, 56, 57, 58, 59, 60, 61, 62, 63, 64, 65, 66, 67] (by decide +kernel) (by decide +kernel)
set_option maxRecDepth 20000 in
theorem gX10_rules_X10_finds : GoodIn wsX10_rules (wsV RX10 113 RX10 yX10_finds wsX10_finds) := goodIn_app (goodIn_of _ (by decide +kernel)) ggX10_rules_X10_finds
set_option maxRecDepth 20000 in
theorem ggX10_rules_X10_tellsNumbers : GoodIn wsX10_rules wsX10_tellsNumbers := goodIn_r _ [33, 34, 35, 36, 1, 2, 25, 24, 42, 43, 44, 45, 46, 47, 48, 49, 50, 51, 52, 53, 54, 55, 56, 57, 58, 59, 60, 61, 62, 63, 64, 65, 66, 67] (by decide +kernel) (by decide +kernel)
set_option maxRecDepth 20000 in
theorem gX10_rules_X10_tellsNumbers : GoodIn wsX10_rules (wsV RX10 119 RX10 yX10_tellsNumbers wsX10_tellsNumbers) := goodIn_app (goodIn_of _ (by decide +kernel)) ggX10_rules_X10_tellsNumbers
set_option maxRecDepth 20000 in
theorem ggX10_rules_X10_isOut : GoodIn wsX10_rules wsX10_isOut := goodIn_r _ [40, 25, 36, 34, 24, 41, 42, 43, 44, 45, 46, 47, 48, 49, 50, 51, 52, 53, 54, 55, 56, 57, 58, 59, 60, 61, 62, 63, 64, 65, 66, 67] (by decide +kernel) (by decide +kernel)
set_option maxRecDepth 20000 in
theorem gX10_rules_X10_isOut : GoodIn wsX10_rules (wsV RX10 122 RX10 yX10_isOut wsX10_isOut) := goodIn_app (goodIn_of _ (by decide +kernel)) ggX10_rules_X10_isOut
theorem dX10_rules_0 : decode cX10_rules 0 = .ok (.aload_n 0, 1) := by decide +kernel
theorem dX10_rules_1 : decode cX10_rules 1 = .ok (.invokevirtual 113, 3) := by decide +kernel
theorem dX10_rules_4 : decode cX10_rules 4 = .ok (.iconst 0, 1) := by decide +kernel
theorem dX10_rules_5 : decode cX10_rules 5 = .ok (.istore_n 1, 1) := by decide +kernel
theorem dX10_rules_6 : decode cX10_rules 6 = .ok (.iload_n 1, 1) := by decide +kernel
theorem dX10_rules_7 : decode cX10_rules 7 = .ok (.aload_n 0, 1) := by decide +kernel
theorem dX10_rules_8 : decode cX10_rules 8 = .ok (.getfield 102, 3) := by decide +kernel
theorem dX10_rules_11 : decode cX10_rules 11 = .ok (.if_icmp .ge 16, 3) := by decide +kernel
theorem dX10_rules_14 : decode cX10_rules 14 = .ok (.aload_n 0, 1) := by decide +kernel
theorem dX10_rules_15 : decode cX10_rules 15 = .ok (.getfield 39, 3) := by decide +kernel
theorem dX10_rules_18 : decode cX10_rules 18 = .ok (.iload_n 1, 1) := by decide +kernel
theorem dX10_rules_19 : decode cX10_rules 19 = .ok (.iconst 0, 1) := by decide +kernel
theorem dX10_rules_20 : decode cX10_rules 20 = .ok (.bastore, 1) := by decide +kernel
theorem dX10_rules_21 : decode cX10_rules 21 = .ok (.iinc 1 1, 3) := by decide +kernel
theorem dX10_rules_24 : decode cX10_rules 24 = .ok (.goto (-18), 3) := by decide +kernel
theorem dX10_rules_27 : decode cX10_rules 27 = .ok (.aload_n 0, 1) := by decide +kernel
theorem dX10_rules_28 : decode cX10_rules 28 = .ok (.iconst 0, 1) := by decide +kernel
theorem dX10_rules_29 : decode cX10_rules 29 = .ok (.putfield 116, 3) := by decide +kernel
theorem dX10_rules_32 : decode cX10_rules 32 = .ok (.iconst 1, 1) := by decide +kernel
theorem dX10_rules_33 : decode cX10_rules 33 = .ok (.istore_n 1, 1) := by decide +kernel
theorem dX10_rules_34 : decode cX10_rules 34 = .ok (.iload_n 1, 1) := by decide +kernel
theorem dX10_rules_35 : decode cX10_rules 35 = .ok (.ifCond .eq 138, 3) := by decide +kernel
theorem dX10_rules_38 : decode cX10_rules 38 = .ok (.aload_n 0, 1) := by decide +kernel
theorem dX10_rules_39 : decode cX10_rules 39 = .ok (.invokevirtual 119, 3) := by decide +kernel
theorem dX10_rules_42 : decode cX10_rules 42 = .ok (.iconst 0, 1) := by decide +kernel
theorem dX10_rules_43 : decode cX10_rules 43 = .ok (.istore_n 1, 1) := by decide +kernel
theorem dX10_rules_44 : decode cX10_rules 44 = .ok (.iconst 0, 1) := by decide +kernel
theorem dX10_rules_45 : decode cX10_rules 45 = .ok (.istore_n 2, 1) := by decide +kernel
theorem dX10_rules_46 : decode cX10_rules 46 = .ok (.iload_n 2, 1) := by decide +kernel
theorem dX10_rules_47 : decode cX10_rules 47 = .ok (.aload_n 0, 1) := by decide +kernel
theorem dX10_rules_48 : decode cX10_rules 48 = .ok (.getfield 102, 3) := by decide +kernel
theorem dX10_rules_51 : decode cX10_rules 51 = .ok (.if_icmp .ge 56, 3) := by decide +kernel
theorem dX10_rules_54 : decode cX10_rules 54 = .ok (.aload_n 0, 1) := by decide +kernel
theorem dX10_rules_55 : decode cX10_rules 55 = .ok (.getfield 42, 3) := by decide +kernel
theorem dX10_rules_58 : decode cX10_rules 58 = .ok (.iload_n 2, 1) := by decide +kernel
theorem dX10_rules_59 : decode cX10_rules 59 = .ok (.aload_n 0, 1) := by decide +kernel
theorem dX10_rules_60 : decode cX10_rules 60 = .ok (.getfield 39, 3) := by decide +kernel
theorem dX10_rules_63 : decode cX10_rules 63 = .ok (.iload_n 2, 1) := by decide +kernel
theorem dX10_rules_64 : decode cX10_rules 64 = .ok (.baload, 1) := by decide +kernel
theorem dX10_rules_65 : decode cX10_rules 65 = .ok (.ifCond .ne 15, 3) := by decide +kernel
theorem dX10_rules_68 : decode cX10_rules 68 = .ok (.aload_n 0, 1) := by decide +kernel
theorem dX10_rules_69 : decode cX10_rules 69 = .ok (.iload_n 2, 1) := by decide +kernel
theorem dX10_rules_70 : decode cX10_rules 70 = .ok (.invokevirtual 122, 3) := by decide +kernel
theorem dX10_rules_73 : decode cX10_rules 73 = .ok (.ifCond .eq 7, 3) := by decide +kernel
theorem dX10_rules_76 : decode cX10_rules 76 = .ok (.iconst 1, 1) := by decide +kernel
theorem dX10_rules_77 : decode cX10_rules 77 = .ok (.goto 4, 3) := by decide +kernel
theorem dX10_rules_80 : decode cX10_rules 80 = .ok (.iconst 0, 1) := by decide +kernel
theorem dX10_rules_81 : decode cX10_rules 81 = .ok (.bastore, 1) := by decide +kernel
theorem dX10_rules_82 : decode cX10_rules 82 = .ok (.iload_n 1, 1) := by decide +kernel
theorem dX10_rules_83 : decode cX10_rules 83 = .ok (.ifCond .ne 12, 3) := by decide +kernel
theorem dX10_rules_86 : decode cX10_rules 86 = .ok (.aload_n 0, 1) := by decide +kernel
theorem dX10_rules_87 : decode cX10_rules 87 = .ok (.getfield 42, 3) := by decide +kernel
theorem dX10_rules_90 : decode cX10_rules 90 = .ok (.iload_n 2, 1) := by decide +kernel
theorem dX10_rules_91 : decode cX10_rules 91 = .ok (.baload, 1) := by decide +kernel
theorem dX10_rules_92 : decode cX10_rules 92 = .ok (.ifCond .eq 7, 3) := by decide +kernel
theorem dX10_rules_95 : decode cX10_rules 95 = .ok (.iconst 1, 1) := by decide +kernel
theorem dX10_rules_96 : decode cX10_rules 96 = .ok (.goto 4, 3) := by decide +kernel
theorem dX10_rules_99 : decode cX10_rules 99 = .ok (.iconst 0, 1) := by decide +kernel
theorem dX10_rules_100 : decode cX10_rules 100 = .ok (.istore_n 1, 1) := by decide +kernel
theorem dX10_rules_101 : decode cX10_rules 101 = .ok (.iinc 2 1, 3) := by decide +kernel
theorem dX10_rules_104 : decode cX10_rules 104 = .ok (.goto (-58), 3) := by decide +kernel
theorem dX10_rules_107 : decode cX10_rules 107 = .ok (.iconst 0, 1) := by decide +kernel
theorem dX10_rules_108 : decode cX10_rules 108 = .ok (.istore_n 2, 1) := by decide +kernel
theorem dX10_rules_109 : decode cX10_rules 109 = .ok (.iload_n 2, 1) := by decide +kernel
theorem dX10_rules_110 : decode cX10_rules 110 = .ok (.aload_n 0, 1) := by decide +kernel
theorem dX10_rules_111 : decode cX10_rules 111 = .ok (.getfield 102, 3) := by decide +kernel
theorem dX10_rules_114 : decode cX10_rules 114 = .ok (.if_icmp .ge 38, 3) := by decide +kernel
theorem dX10_rules_117 : decode cX10_rules 117 = .ok (.aload_n 0, 1) := by decide +kernel
theorem dX10_rules_118 : decode cX10_rules 118 = .ok (.getfield 39, 3) := by decide +kernel
theorem dX10_rules_121 : decode cX10_rules 121 = .ok (.iload_n 2, 1) := by decide +kernel
theorem dX10_rules_122 : decode cX10_rules 122 = .ok (.aload_n 0, 1) := by decide +kernel
theorem dX10_rules_123 : decode cX10_rules 123 = .ok (.getfield 39, 3) := by decide +kernel
theorem dX10_rules_126 : decode cX10_rules 126 = .ok (.iload_n 2, 1) := by decide +kernel
theorem dX10_rules_127 : decode cX10_rules 127 = .ok (.baload, 1) := by decide +kernel
theorem dX10_rules_128 : decode cX10_rules 128 = .ok (.ifCond .ne 12, 3) := by decide +kernel
theorem dX10_rules_131 : decode cX10_rules 131 = .ok (.aload_n 0, 1) := by decide +kernel
theorem dX10_rules_132 : decode cX10_rules 132 = .ok (.getfield 42, 3) := by decide +kernel
theorem dX10_rules_135 : decode cX10_rules 135 = .ok (.iload_n 2, 1) := by decide +kernel
theorem dX10_rules_136 : decode cX10_rules 136 = .ok (.baload, 1) := by decide +kernel
theorem dX10_rules_137 : decode cX10_rules 137 = .ok (.ifCond .eq 7, 3) := by decide +kernel
theorem dX10_rules_140 : decode cX10_rules 140 = .ok (.iconst 1, 1) := by decide +kernel
theorem dX10_rules_141 : decode cX10_rules 141 = .ok (.goto 4, 3) := by decide +kernel
theorem dX10_rules_144 : decode cX10_rules 144 = .ok (.iconst 0, 1) := by decide +kernel
theorem dX10_rules_145 : decode cX10_rules 145 = .ok (.bastore, 1) := by decide +kernel
theorem dX10_rules_146 : decode cX10_rules 146 = .ok (.iinc 2 1, 3) := by decide +kernel
theorem dX10_rules_149 : decode cX10_rules 149 = .ok (.goto (-40), 3) := by decide +kernel
theorem dX10_rules_152 : decode cX10_rules 152 = .ok (.aload_n 0, 1) := by decide +kernel
theorem dX10_rules_153 : decode cX10_rules 153 = .ok (.dup, 1) := by decide +kernel
theorem dX10_rules_154 : decode cX10_rules 154 = .ok (.getfield 116, 3) := by decide +kernel
theorem dX10_rules_157 : decode cX10_rules 157 = .ok (.iload_n 1, 1) := by decide +kernel
theorem dX10_rules_158 : decode cX10_rules 158 = .ok (.ifCond .eq 7, 3) := by decide +kernel
theorem dX10_rules_161 : decode cX10_rules 161 = .ok (.iconst 1, 1) := by decide +kernel
theorem dX10_rules_162 : decode cX10_rules 162 = .ok (.goto 4, 3) := by decide +kernel
theorem dX10_rules_165 : decode cX10_rules 165 = .ok (.iconst 0, 1) := by decide +kernel
theorem dX10_rules_166 : decode cX10_rules 166 = .ok (.iadd, 1) := by decide +kernel
theorem dX10_rules_167 : decode cX10_rules 167 = .ok (.putfield 116, 3) := by decide +kernel
theorem dX10_rules_170 : decode cX10_rules 170 = .ok (.goto (-136), 3) := by decide +kernel
theorem dX10_rules_173 : decode cX10_rules 173 = .ok (.return_, 1) := by decide +kernel
set_option maxRecDepth 20000 in
theorem ggX10_isAgainst_X10_taken : GoodIn wsX10_isAgainst wsX10_taken := goodIn_r _ [8, 2, 9, 10, 11, 12, 13, 14, 15, 16, 17, 18, 19, 20, 21, 22, 23, 24, 25, 26, 27, 28, 29, 30, 31, 32, 33, 34] (by decide +kernel) (by decide +kernel)
set_option maxRecDepth 20000 in
theorem gX10_isAgainst_X10_taken : GoodIn wsX10_isAgainst (wsV RX10 88 RX10 yX10_taken wsX10_taken) := goodIn_app (goodIn_of _ (by decide +kernel)) ggX10_isAgainst_X10_taken
theorem dX10_isAgainst_0 : decode cX10_isAgainst 0 = .ok (.aload_n 0, 1) := by decide +kernel
theorem dX10_isAgainst_1 : decode cX10_isAgainst 1 = .ok (.invokevirtual 88, 3) := by decide +kernel
theorem dX10_isAgainst_4 : decode cX10_isAgainst 4 = .ok (.lstore_n 1, 1) := by decide +kernel
theorem dX10_isAgainst_5 : decode cX10_isAgainst 5 = .ok (.iconst 0, 1) := by decide +kernel
theorem dX10_isAgainst_6 : decode cX10_isAgainst 6 = .ok (.istore_n 3, 1) := by decide +kernel
theorem dX10_isAgainst_7 : decode cX10_isAgainst 7 = .ok (.iconst 0, 1) := by decide +kernel
theorem dX10_isAgainst_8 : decode cX10_isAgainst 8 = .ok (.istore 4, 2) := by decide +kernel
theorem dX10_isAgainst_10 : decode cX10_isAgainst 10 = .ok (.iload 4, 2) := by decide +kernel
theorem dX10_isAgainst_12 : decode cX10_isAgainst 12 = .ok (.bipush 42, 2) := by decide +kernel
theorem dX10_isAgainst_14 : decode cX10_isAgainst 14 = .ok (.if_icmp .ge 64, 3) := by decide +kernel
theorem dX10_isAgainst_17 : decode cX10_isAgainst 17 = .ok (.lload_n 1, 1) := by decide +kernel
theorem dX10_isAgainst_18 : decode cX10_isAgainst 18 = .ok (.aload_n 0, 1) := by decide +kernel
theorem dX10_isAgainst_19 : decode cX10_isAgainst 19 = .ok (.getfield 48, 3) := by decide +kernel
theorem dX10_isAgainst_22 : decode cX10_isAgainst 22 = .ok (.iload 4, 2) := by decide +kernel
theorem dX10_isAgainst_24 : decode cX10_isAgainst 24 = .ok (.laload, 1) := by decide +kernel
theorem dX10_isAgainst_25 : decode cX10_isAgainst 25 = .ok (.lor, 1) := by decide +kernel
theorem dX10_isAgainst_26 : decode cX10_isAgainst 26 = .ok (.lstore_n 1, 1) := by decide +kernel
theorem dX10_isAgainst_27 : decode cX10_isAgainst 27 = .ok (.iload_n 3, 1) := by decide +kernel
theorem dX10_isAgainst_28 : decode cX10_isAgainst 28 = .ok (.ifCond .ne 38, 3) := by decide +kernel
theorem dX10_isAgainst_31 : decode cX10_isAgainst 31 = .ok (.aload_n 0, 1) := by decide +kernel
theorem dX10_isAgainst_32 : decode cX10_isAgainst 32 = .ok (.getfield 7, 3) := by decide +kernel
theorem dX10_isAgainst_35 : decode cX10_isAgainst 35 = .ok (.iload 4, 2) := by decide +kernel
theorem dX10_isAgainst_37 : decode cX10_isAgainst 37 = .ok (.iaload, 1) := by decide +kernel
theorem dX10_isAgainst_38 : decode cX10_isAgainst 38 = .ok (.ifCond .le 32, 3) := by decide +kernel
theorem dX10_isAgainst_41 : decode cX10_isAgainst 41 = .ok (.aload_n 0, 1) := by decide +kernel
theorem dX10_isAgainst_42 : decode cX10_isAgainst 42 = .ok (.getfield 7, 3) := by decide +kernel
theorem dX10_isAgainst_45 : decode cX10_isAgainst 45 = .ok (.bipush 42, 2) := by decide +kernel
theorem dX10_isAgainst_47 : decode cX10_isAgainst 47 = .ok (.iload 4, 2) := by decide +kernel
theorem dX10_isAgainst_49 : decode cX10_isAgainst 49 = .ok (.iadd, 1) := by decide +kernel
theorem dX10_isAgainst_50 : decode cX10_isAgainst 50 = .ok (.iaload, 1) := by decide +kernel
theorem dX10_isAgainst_51 : decode cX10_isAgainst 51 = .ok (.ifCond .ne 19, 3) := by decide +kernel
theorem dX10_isAgainst_54 : decode cX10_isAgainst 54 = .ok (.aload_n 0, 1) := by decide +kernel
theorem dX10_isAgainst_55 : decode cX10_isAgainst 55 = .ok (.getfield 48, 3) := by decide +kernel
theorem dX10_isAgainst_58 : decode cX10_isAgainst 58 = .ok (.iload 4, 2) := by decide +kernel
theorem dX10_isAgainst_60 : decode cX10_isAgainst 60 = .ok (.laload, 1) := by decide +kernel
theorem dX10_isAgainst_61 : decode cX10_isAgainst 61 = .ok (.lconst 0, 1) := by decide +kernel
theorem dX10_isAgainst_62 : decode cX10_isAgainst 62 = .ok (.lcmp, 1) := by decide +kernel
theorem dX10_isAgainst_63 : decode cX10_isAgainst 63 = .ok (.ifCond .ne 7, 3) := by decide +kernel
theorem dX10_isAgainst_66 : decode cX10_isAgainst 66 = .ok (.iconst 1, 1) := by decide +kernel
theorem dX10_isAgainst_67 : decode cX10_isAgainst 67 = .ok (.goto 4, 3) := by decide +kernel
theorem dX10_isAgainst_70 : decode cX10_isAgainst 70 = .ok (.iconst 0, 1) := by decide +kernel
theorem dX10_isAgainst_71 : decode cX10_isAgainst 71 = .ok (.istore_n 3, 1) := by decide +kernel
theorem dX10_isAgainst_72 : decode cX10_isAgainst 72 = .ok (.iinc 4 1, 3) := by decide +kernel
theorem dX10_isAgainst_75 : decode cX10_isAgainst 75 = .ok (.goto (-65), 3) := by decide +kernel
theorem dX10_isAgainst_78 : decode cX10_isAgainst 78 = .ok (.iload_n 3, 1) := by decide +kernel
theorem dX10_isAgainst_79 : decode cX10_isAgainst 79 = .ok (.ifCond .ne 11, 3) := by decide +kernel
theorem dX10_isAgainst_82 : decode cX10_isAgainst 82 = .ok (.lload_n 1, 1) := by decide +kernel
theorem dX10_isAgainst_83 : decode cX10_isAgainst 83 = .ok (.ldc2_w 109, 3) := by decide +kernel
theorem dX10_isAgainst_86 : decode cX10_isAgainst 86 = .ok (.lcmp, 1) := by decide +kernel
theorem dX10_isAgainst_87 : decode cX10_isAgainst 87 = .ok (.ifCond .eq 7, 3) := by decide +kernel
theorem dX10_isAgainst_90 : decode cX10_isAgainst 90 = .ok (.iconst 1, 1) := by decide +kernel
theorem dX10_isAgainst_91 : decode cX10_isAgainst 91 = .ok (.goto 4, 3) := by decide +kernel
theorem dX10_isAgainst_94 : decode cX10_isAgainst 94 = .ok (.iconst 0, 1) := by decide +kernel
theorem dX10_isAgainst_95 : decode cX10_isAgainst 95 = .ok (.ireturn, 1) := by decide +kernel
theorem dX10_leftIn_0 : decode cX10_leftIn 0 = .ok (.iconst 0, 1) := by decide +kernel
theorem dX10_leftIn_1 : decode cX10_leftIn 1 = .ok (.istore_n 2, 1) := by decide +kernel
theorem dX10_leftIn_2 : decode cX10_leftIn 2 = .ok (.iconst 0, 1) := by decide +kernel
theorem dX10_leftIn_3 : decode cX10_leftIn 3 = .ok (.istore_n 3, 1) := by decide +kernel
theorem dX10_leftIn_4 : decode cX10_leftIn 4 = .ok (.iload_n 3, 1) := by decide +kernel
theorem dX10_leftIn_5 : decode cX10_leftIn 5 = .ok (.aload_n 0, 1) := by decide +kernel
theorem dX10_leftIn_6 : decode cX10_leftIn 6 = .ok (.getfield 102, 3) := by decide +kernel
theorem dX10_leftIn_9 : decode cX10_leftIn 9 = .ok (.if_icmp .ge 36, 3) := by decide +kernel
theorem dX10_leftIn_12 : decode cX10_leftIn 12 = .ok (.iload_n 2, 1) := by decide +kernel
theorem dX10_leftIn_13 : decode cX10_leftIn 13 = .ok (.aload_n 0, 1) := by decide +kernel
theorem dX10_leftIn_14 : decode cX10_leftIn 14 = .ok (.getfield 30, 3) := by decide +kernel
theorem dX10_leftIn_17 : decode cX10_leftIn 17 = .ok (.iload_n 3, 1) := by decide +kernel
theorem dX10_leftIn_18 : decode cX10_leftIn 18 = .ok (.iaload, 1) := by decide +kernel
theorem dX10_leftIn_19 : decode cX10_leftIn 19 = .ok (.iload_n 1, 1) := by decide +kernel
theorem dX10_leftIn_20 : decode cX10_leftIn 20 = .ok (.if_icmp .ne 16, 3) := by decide +kernel
theorem dX10_leftIn_23 : decode cX10_leftIn 23 = .ok (.aload_n 0, 1) := by decide +kernel
theorem dX10_leftIn_24 : decode cX10_leftIn 24 = .ok (.getfield 39, 3) := by decide +kernel
theorem dX10_leftIn_27 : decode cX10_leftIn 27 = .ok (.iload_n 3, 1) := by decide +kernel
theorem dX10_leftIn_28 : decode cX10_leftIn 28 = .ok (.baload, 1) := by decide +kernel
theorem dX10_leftIn_29 : decode cX10_leftIn 29 = .ok (.ifCond .ne 7, 3) := by decide +kernel
theorem dX10_leftIn_32 : decode cX10_leftIn 32 = .ok (.iconst 1, 1) := by decide +kernel
theorem dX10_leftIn_33 : decode cX10_leftIn 33 = .ok (.goto 4, 3) := by decide +kernel
theorem dX10_leftIn_36 : decode cX10_leftIn 36 = .ok (.iconst 0, 1) := by decide +kernel
theorem dX10_leftIn_37 : decode cX10_leftIn 37 = .ok (.iadd, 1) := by decide +kernel
theorem dX10_leftIn_38 : decode cX10_leftIn 38 = .ok (.istore_n 2, 1) := by decide +kernel
theorem dX10_leftIn_39 : decode cX10_leftIn 39 = .ok (.iinc 3 1, 3) := by decide +kernel
theorem dX10_leftIn_42 : decode cX10_leftIn 42 = .ok (.goto (-38), 3) := by decide +kernel
theorem dX10_leftIn_45 : decode cX10_leftIn 45 = .ok (.iload_n 2, 1) := by decide +kernel
theorem dX10_leftIn_46 : decode cX10_leftIn 46 = .ok (.ireturn, 1) := by decide +kernel
theorem dX10_leftAll_0 : decode cX10_leftAll 0 = .ok (.iconst 0, 1) := by decide +kernel
theorem dX10_leftAll_1 : decode cX10_leftAll 1 = .ok (.istore_n 1, 1) := by decide +kernel
theorem dX10_leftAll_2 : decode cX10_leftAll 2 = .ok (.iconst 0, 1) := by decide +kernel
theorem dX10_leftAll_3 : decode cX10_leftAll 3 = .ok (.istore_n 2, 1) := by decide +kernel
theorem dX10_leftAll_4 : decode cX10_leftAll 4 = .ok (.iload_n 2, 1) := by decide +kernel
theorem dX10_leftAll_5 : decode cX10_leftAll 5 = .ok (.aload_n 0, 1) := by decide +kernel
theorem dX10_leftAll_6 : decode cX10_leftAll 6 = .ok (.getfield 102, 3) := by decide +kernel
theorem dX10_leftAll_9 : decode cX10_leftAll 9 = .ok (.if_icmp .ge 26, 3) := by decide +kernel
theorem dX10_leftAll_12 : decode cX10_leftAll 12 = .ok (.iload_n 1, 1) := by decide +kernel
theorem dX10_leftAll_13 : decode cX10_leftAll 13 = .ok (.aload_n 0, 1) := by decide +kernel
theorem dX10_leftAll_14 : decode cX10_leftAll 14 = .ok (.getfield 39, 3) := by decide +kernel
theorem dX10_leftAll_17 : decode cX10_leftAll 17 = .ok (.iload_n 2, 1) := by decide +kernel
theorem dX10_leftAll_18 : decode cX10_leftAll 18 = .ok (.baload, 1) := by decide +kernel
theorem dX10_leftAll_19 : decode cX10_leftAll 19 = .ok (.ifCond .eq 7, 3) := by decide +kernel
theorem dX10_leftAll_22 : decode cX10_leftAll 22 = .ok (.iconst 0, 1) := by decide +kernel
theorem dX10_leftAll_23 : decode cX10_leftAll 23 = .ok (.goto 4, 3) := by decide +kernel
theorem dX10_leftAll_26 : decode cX10_leftAll 26 = .ok (.iconst 1, 1) := by decide +kernel
theorem dX10_leftAll_27 : decode cX10_leftAll 27 = .ok (.iadd, 1) := by decide +kernel
theorem dX10_leftAll_28 : decode cX10_leftAll 28 = .ok (.istore_n 1, 1) := by decide +kernel
theorem dX10_leftAll_29 : decode cX10_leftAll 29 = .ok (.iinc 2 1, 3) := by decide +kernel
theorem dX10_leftAll_32 : decode cX10_leftAll 32 = .ok (.goto (-28), 3) := by decide +kernel
theorem dX10_leftAll_35 : decode cX10_leftAll 35 = .ok (.iload_n 1, 1) := by decide +kernel
theorem dX10_leftAll_36 : decode cX10_leftAll 36 = .ok (.ireturn, 1) := by decide +kernel
set_option maxRecDepth 20000 in
theorem ggX10_isSure_X10_leftIn : GoodIn wsX10_isSure wsX10_leftIn := goodIn_r _ [6, 7, 8, 9, 10, 11, 12, 13, 14, 15, 16, 17, 18, 19, 20, 21, 22, 23, 24, 25, 26, 27, 28, 29, 30, 31, 32, 33, 34, 35] (by decide +kernel) (by decide +kernel)
set_option maxRecDepth 20000 in
theorem gX10_isSure_X10_leftIn : GoodIn wsX10_isSure (wsV RX10 126 RX10 yX10_leftIn wsX10_leftIn) := goodIn_app (goodIn_of _ (by decide +kernel)) ggX10_isSure_X10_leftIn
theorem dX10_isSure_0 : decode cX10_isSure 0 = .ok (.aload_n 0, 1) := by decide +kernel
theorem dX10_isSure_1 : decode cX10_isSure 1 = .ok (.getfield 7, 3) := by decide +kernel
theorem dX10_isSure_4 : decode cX10_isSure 4 = .ok (.iload_n 1, 1) := by decide +kernel
theorem dX10_isSure_5 : decode cX10_isSure 5 = .ok (.iaload, 1) := by decide +kernel
theorem dX10_isSure_6 : decode cX10_isSure 6 = .ok (.ifCond .le 28, 3) := by decide +kernel
theorem dX10_isSure_9 : decode cX10_isSure 9 = .ok (.aload_n 0, 1) := by decide +kernel
theorem dX10_isSure_10 : decode cX10_isSure 10 = .ok (.getfield 7, 3) := by decide +kernel
theorem dX10_isSure_13 : decode cX10_isSure 13 = .ok (.bipush 42, 2) := by decide +kernel
theorem dX10_isSure_15 : decode cX10_isSure 15 = .ok (.iload_n 1, 1) := by decide +kernel
theorem dX10_isSure_16 : decode cX10_isSure 16 = .ok (.iadd, 1) := by decide +kernel
theorem dX10_isSure_17 : decode cX10_isSure 17 = .ok (.iaload, 1) := by decide +kernel
theorem dX10_isSure_18 : decode cX10_isSure 18 = .ok (.ifCond .ne 16, 3) := by decide +kernel
theorem dX10_isSure_21 : decode cX10_isSure 21 = .ok (.aload_n 0, 1) := by decide +kernel
theorem dX10_isSure_22 : decode cX10_isSure 22 = .ok (.iload_n 1, 1) := by decide +kernel
theorem dX10_isSure_23 : decode cX10_isSure 23 = .ok (.invokevirtual 126, 3) := by decide +kernel
theorem dX10_isSure_26 : decode cX10_isSure 26 = .ok (.iconst 1, 1) := by decide +kernel
theorem dX10_isSure_27 : decode cX10_isSure 27 = .ok (.if_icmp .ne 7, 3) := by decide +kernel
theorem dX10_isSure_30 : decode cX10_isSure 30 = .ok (.iconst 1, 1) := by decide +kernel
theorem dX10_isSure_31 : decode cX10_isSure 31 = .ok (.goto 4, 3) := by decide +kernel
theorem dX10_isSure_34 : decode cX10_isSure 34 = .ok (.iconst 0, 1) := by decide +kernel
theorem dX10_isSure_35 : decode cX10_isSure 35 = .ok (.ireturn, 1) := by decide +kernel
set_option maxRecDepth 20000 in
theorem ggX10_sure_X10_isSure : GoodIn wsX10_sure wsX10_isSure := goodIn_r _ [5, 6, 7, 8, 9, 4, 10, 11, 12, 13, 14, 15, 16, 17, 18, 19, 20, 21, 22, 23, 24, 25, 26, 27, 28, 29, 30, 31, 32, 33, 34, 35, 36, 37, 38, 39] (by decide +kernel) (by decide +kernel)
set_option maxRecDepth 20000 in
theorem gX10_sure_X10_isSure : GoodIn wsX10_sure (wsV RX10 130 RX10 yX10_isSure wsX10_isSure) := goodIn_app (goodIn_of _ (by decide +kernel)) ggX10_sure_X10_isSure
theorem dX10_sure_0 : decode cX10_sure 0 = .ok (.iconst 0, 1) := by decide +kernel
theorem dX10_sure_1 : decode cX10_sure 1 = .ok (.istore_n 1, 1) := by decide +kernel
theorem dX10_sure_2 : decode cX10_sure 2 = .ok (.iconst 0, 1) := by decide +kernel
theorem dX10_sure_3 : decode cX10_sure 3 = .ok (.istore_n 2, 1) := by decide +kernel
theorem dX10_sure_4 : decode cX10_sure 4 = .ok (.iload_n 2, 1) := by decide +kernel
theorem dX10_sure_5 : decode cX10_sure 5 = .ok (.bipush 42, 2) := by decide +kernel
theorem dX10_sure_7 : decode cX10_sure 7 = .ok (.if_icmp .ge 25, 3) := by decide +kernel
theorem dX10_sure_10 : decode cX10_sure 10 = .ok (.iload_n 1, 1) := by decide +kernel
theorem dX10_sure_11 : decode cX10_sure 11 = .ok (.aload_n 0, 1) := by decide +kernel
theorem dX10_sure_12 : decode cX10_sure 12 = .ok (.iload_n 2, 1) := by decide +kernel
theorem dX10_sure_13 : decode cX10_sure 13 = .ok (.invokevirtual 130, 3) := by decide +kernel
theorem dX10_sure_16 : decode cX10_sure 16 = .ok (.ifCond .eq 7, 3) := by decide +kernel
theorem dX10_sure_19 : decode cX10_sure 19 = .ok (.iconst 1, 1) := by decide +kernel
theorem dX10_sure_20 : decode cX10_sure 20 = .ok (.goto 4, 3) := by decide +kernel
theorem dX10_sure_23 : decode cX10_sure 23 = .ok (.iconst 0, 1) := by decide +kernel
theorem dX10_sure_24 : decode cX10_sure 24 = .ok (.iadd, 1) := by decide +kernel
theorem dX10_sure_25 : decode cX10_sure 25 = .ok (.istore_n 1, 1) := by decide +kernel
theorem dX10_sure_26 : decode cX10_sure 26 = .ok (.iinc 2 1, 3) := by decide +kernel
theorem dX10_sure_29 : decode cX10_sure 29 = .ok (.goto (-25), 3) := by decide +kernel
theorem dX10_sure_32 : decode cX10_sure 32 = .ok (.iload_n 1, 1) := by decide +kernel
theorem dX10_sure_33 : decode cX10_sure 33 = .ok (.ireturn, 1) := by decide +kernel
set_option maxRecDepth 20000 in
theorem ggX10_firstSure_X10_isSure : GoodIn wsX10_firstSure wsX10_isSure := goodIn_r _ [5, 6, 7, 8, 9, 4, 10, 11, 12, 13, 14, 15, 16, 17, 18, 19, 20, 21, 22, 23, 24, 25, 26, 27, 28, 29, 30, 31, 32, 33, 34, 35, 36, 37, 38, 39] (by decide +kernel) (by decide +kernel)
set_option maxRecDepth 20000 in
theorem gX10_firstSure_X10_isSure : GoodIn wsX10_firstSure (wsV RX10 130 RX10 yX10_isSure wsX10_isSure) := goodIn_app (goodIn_of _ (by decide +kernel)) ggX10_firstSure_X10_isSure
theorem dX10_firstSure_0 : decode cX10_firstSure 0 = .ok (.iconst 0, 1) := by decide +kernel
theorem dX10_firstSure_1 : decode cX10_firstSure 1 = .ok (.istore_n 1, 1) := by decide +kernel
theorem dX10_firstSure_2 : decode cX10_firstSure 2 = .ok (.iload_n 1, 1) := by decide +kernel
theorem dX10_firstSure_3 : decode cX10_firstSure 3 = .ok (.bipush 42, 2) := by decide +kernel
theorem dX10_firstSure_5 : decode cX10_firstSure 5 = .ok (.if_icmp .ge 19, 3) := by decide +kernel
theorem dX10_firstSure_8 : decode cX10_firstSure 8 = .ok (.aload_n 0, 1) := by decide +kernel
theorem dX10_firstSure_9 : decode cX10_firstSure 9 = .ok (.iload_n 1, 1) := by decide +kernel
theorem dX10_firstSure_10 : decode cX10_firstSure 10 = .ok (.invokevirtual 130, 3) := by decide +kernel
theorem dX10_firstSure_13 : decode cX10_firstSure 13 = .ok (.ifCond .eq 5, 3) := by decide +kernel
theorem dX10_firstSure_16 : decode cX10_firstSure 16 = .ok (.iload_n 1, 1) := by decide +kernel
theorem dX10_firstSure_17 : decode cX10_firstSure 17 = .ok (.ireturn, 1) := by decide +kernel
theorem dX10_firstSure_18 : decode cX10_firstSure 18 = .ok (.iinc 1 1, 3) := by decide +kernel
theorem dX10_firstSure_21 : decode cX10_firstSure 21 = .ok (.goto (-19), 3) := by decide +kernel
theorem dX10_firstSure_24 : decode cX10_firstSure 24 = .ok (.iconst (-1), 1) := by decide +kernel
theorem dX10_firstSure_25 : decode cX10_firstSure 25 = .ok (.ireturn, 1) := by decide +kernel
set_option maxRecDepth 20000 in
theorem ggX10_remembers_X10_fieldOf : GoodIn wsX10_remembers wsX10_fieldOf := goodIn_r _ [11, 2, 21, 22, 23, 24, 25, 26, 27, 28, 29, 30, 31, 32, 33, 34, 35, 36, 37, 38, 39, 40, 41, 42, 43, 44, 45, 46] (by decide +kernel) (by decide +kernel)
set_option maxRecDepth 20000 in
theorem gX10_remembers_X10_fieldOf : GoodIn wsX10_remembers (wsV RX10 133 RX10 yX10_fieldOf wsX10_fieldOf) := goodIn_app (goodIn_of _ (by decide +kernel)) ggX10_remembers_X10_fieldOf
set_option maxRecDepth 20000 in
theorem ggX10_remembers_X10_bits : GoodIn wsX10_remembers wsX10_bits := goodIn_r _ [14, 15, 16, 10, 17] (by decide +kernel) (by decide +kernel)
set_option maxRecDepth 20000 in
theorem gX10_remembers_X10_bits : GoodIn wsX10_remembers (va_wsS RX10 91 yX10_bits wsX10_bits) := goodIn_app (goodIn_of _ (by decide +kernel)) ggX10_remembers_X10_bits
set_option maxRecDepth 20000 in
theorem ggX10_remembers_X10_has : GoodIn wsX10_remembers wsX10_has := goodIn_r _ [17] (by decide +kernel) (by decide +kernel)
set_option maxRecDepth 20000 in
theorem gX10_remembers_X10_has : GoodIn wsX10_remembers (va_wsS RX10 80 yX10_has wsX10_has) := goodIn_app (goodIn_of _ (by decide +kernel)) ggX10_remembers_X10_has
set_option maxRecDepth 20000 in
theorem ggX10_remembers_X10_lowest : GoodIn wsX10_remembers wsX10_lowest := goodIn_r _ [20, 15, 16, 10, 17] (by decide +kernel) (by decide +kernel)
set_option maxRecDepth 20000 in
theorem gX10_remembers_X10_lowest : GoodIn wsX10_remembers (va_wsS RX10 95 yX10_lowest wsX10_lowest) := goodIn_app (goodIn_of _ (by decide +kernel)) ggX10_remembers_X10_lowest
theorem dX10_remembers_0 : decode cX10_remembers 0 = .ok (.iconst 0, 1) := by decide +kernel
theorem dX10_remembers_1 : decode cX10_remembers 1 = .ok (.istore_n 2, 1) := by decide +kernel
theorem dX10_remembers_2 : decode cX10_remembers 2 = .ok (.iload_n 2, 1) := by decide +kernel
theorem dX10_remembers_3 : decode cX10_remembers 3 = .ok (.bipush 42, 2) := by decide +kernel
theorem dX10_remembers_5 : decode cX10_remembers 5 = .ok (.if_icmp .ge 56, 3) := by decide +kernel
theorem dX10_remembers_8 : decode cX10_remembers 8 = .ok (.aload_n 0, 1) := by decide +kernel
theorem dX10_remembers_9 : decode cX10_remembers 9 = .ok (.getfield 57, 3) := by decide +kernel
theorem dX10_remembers_12 : decode cX10_remembers 12 = .ok (.iload_n 2, 1) := by decide +kernel
theorem dX10_remembers_13 : decode cX10_remembers 13 = .ok (.aload_n 0, 1) := by decide +kernel
theorem dX10_remembers_14 : decode cX10_remembers 14 = .ok (.getfield 7, 3) := by decide +kernel
theorem dX10_remembers_17 : decode cX10_remembers 17 = .ok (.bipush 42, 2) := by decide +kernel
theorem dX10_remembers_19 : decode cX10_remembers 19 = .ok (.iload_n 2, 1) := by decide +kernel
theorem dX10_remembers_20 : decode cX10_remembers 20 = .ok (.iadd, 1) := by decide +kernel
theorem dX10_remembers_21 : decode cX10_remembers 21 = .ok (.iaload, 1) := by decide +kernel
theorem dX10_remembers_22 : decode cX10_remembers 22 = .ok (.iconst 1, 1) := by decide +kernel
theorem dX10_remembers_23 : decode cX10_remembers 23 = .ok (.isub, 1) := by decide +kernel
theorem dX10_remembers_24 : decode cX10_remembers 24 = .ok (.iastore, 1) := by decide +kernel
theorem dX10_remembers_25 : decode cX10_remembers 25 = .ok (.aload_n 0, 1) := by decide +kernel
theorem dX10_remembers_26 : decode cX10_remembers 26 = .ok (.getfield 60, 3) := by decide +kernel
theorem dX10_remembers_29 : decode cX10_remembers 29 = .ok (.iload_n 2, 1) := by decide +kernel
theorem dX10_remembers_30 : decode cX10_remembers 30 = .ok (.aload_n 0, 1) := by decide +kernel
theorem dX10_remembers_31 : decode cX10_remembers 31 = .ok (.getfield 7, 3) := by decide +kernel
theorem dX10_remembers_34 : decode cX10_remembers 34 = .ok (.bipush 42, 2) := by decide +kernel
theorem dX10_remembers_36 : decode cX10_remembers 36 = .ok (.iload_n 2, 1) := by decide +kernel
theorem dX10_remembers_37 : decode cX10_remembers 37 = .ok (.iadd, 1) := by decide +kernel
theorem dX10_remembers_38 : decode cX10_remembers 38 = .ok (.iaload, 1) := by decide +kernel
theorem dX10_remembers_39 : decode cX10_remembers 39 = .ok (.ifCond .le 14, 3) := by decide +kernel
theorem dX10_remembers_42 : decode cX10_remembers 42 = .ok (.aload_n 0, 1) := by decide +kernel
theorem dX10_remembers_43 : decode cX10_remembers 43 = .ok (.iload_n 2, 1) := by decide +kernel
theorem dX10_remembers_44 : decode cX10_remembers 44 = .ok (.invokevirtual 133, 3) := by decide +kernel
theorem dX10_remembers_47 : decode cX10_remembers 47 = .ok (.invokestatic 91, 3) := by decide +kernel
theorem dX10_remembers_50 : decode cX10_remembers 50 = .ok (.goto 4, 3) := by decide +kernel
theorem dX10_remembers_53 : decode cX10_remembers 53 = .ok (.iconst 0, 1) := by decide +kernel
theorem dX10_remembers_54 : decode cX10_remembers 54 = .ok (.iastore, 1) := by decide +kernel
theorem dX10_remembers_55 : decode cX10_remembers 55 = .ok (.iinc 2 1, 3) := by decide +kernel
theorem dX10_remembers_58 : decode cX10_remembers 58 = .ok (.goto (-56), 3) := by decide +kernel
theorem dX10_remembers_61 : decode cX10_remembers 61 = .ok (.iconst 0, 1) := by decide +kernel
theorem dX10_remembers_62 : decode cX10_remembers 62 = .ok (.istore_n 2, 1) := by decide +kernel
theorem dX10_remembers_63 : decode cX10_remembers 63 = .ok (.iload_n 2, 1) := by decide +kernel
theorem dX10_remembers_64 : decode cX10_remembers 64 = .ok (.iload_n 1, 1) := by decide +kernel
theorem dX10_remembers_65 : decode cX10_remembers 65 = .ok (.if_icmp .ge 83, 3) := by decide +kernel
theorem dX10_remembers_68 : decode cX10_remembers 68 = .ok (.iconst 0, 1) := by decide +kernel
theorem dX10_remembers_69 : decode cX10_remembers 69 = .ok (.istore_n 3, 1) := by decide +kernel
theorem dX10_remembers_70 : decode cX10_remembers 70 = .ok (.iload_n 3, 1) := by decide +kernel
theorem dX10_remembers_71 : decode cX10_remembers 71 = .ok (.bipush 42, 2) := by decide +kernel
theorem dX10_remembers_73 : decode cX10_remembers 73 = .ok (.if_icmp .ge 69, 3) := by decide +kernel
theorem dX10_remembers_76 : decode cX10_remembers 76 = .ok (.aload_n 0, 1) := by decide +kernel
theorem dX10_remembers_77 : decode cX10_remembers 77 = .ok (.getfield 26, 3) := by decide +kernel
theorem dX10_remembers_80 : decode cX10_remembers 80 = .ok (.aload_n 0, 1) := by decide +kernel
theorem dX10_remembers_81 : decode cX10_remembers 81 = .ok (.getfield 51, 3) := by decide +kernel
theorem dX10_remembers_84 : decode cX10_remembers 84 = .ok (.iload_n 2, 1) := by decide +kernel
theorem dX10_remembers_85 : decode cX10_remembers 85 = .ok (.iaload, 1) := by decide +kernel
theorem dX10_remembers_86 : decode cX10_remembers 86 = .ok (.laload, 1) := by decide +kernel
theorem dX10_remembers_87 : decode cX10_remembers 87 = .ok (.iload_n 3, 1) := by decide +kernel
theorem dX10_remembers_88 : decode cX10_remembers 88 = .ok (.invokestatic 80, 3) := by decide +kernel
theorem dX10_remembers_91 : decode cX10_remembers 91 = .ok (.ifCond .eq 45, 3) := by decide +kernel
theorem dX10_remembers_94 : decode cX10_remembers 94 = .ok (.aload_n 0, 1) := by decide +kernel
theorem dX10_remembers_95 : decode cX10_remembers 95 = .ok (.getfield 57, 3) := by decide +kernel
theorem dX10_remembers_98 : decode cX10_remembers 98 = .ok (.iload_n 3, 1) := by decide +kernel
theorem dX10_remembers_99 : decode cX10_remembers 99 = .ok (.aload_n 0, 1) := by decide +kernel
theorem dX10_remembers_100 : decode cX10_remembers 100 = .ok (.getfield 26, 3) := by decide +kernel
theorem dX10_remembers_103 : decode cX10_remembers 103 = .ok (.aload_n 0, 1) := by decide +kernel
theorem dX10_remembers_104 : decode cX10_remembers 104 = .ok (.getfield 51, 3) := by decide +kernel
theorem dX10_remembers_107 : decode cX10_remembers 107 = .ok (.iload_n 2, 1) := by decide +kernel
theorem dX10_remembers_108 : decode cX10_remembers 108 = .ok (.iaload, 1) := by decide +kernel
theorem dX10_remembers_109 : decode cX10_remembers 109 = .ok (.laload, 1) := by decide +kernel
theorem dX10_remembers_110 : decode cX10_remembers 110 = .ok (.invokestatic 95, 3) := by decide +kernel
theorem dX10_remembers_113 : decode cX10_remembers 113 = .ok (.iastore, 1) := by decide +kernel
theorem dX10_remembers_114 : decode cX10_remembers 114 = .ok (.aload_n 0, 1) := by decide +kernel
theorem dX10_remembers_115 : decode cX10_remembers 115 = .ok (.getfield 60, 3) := by decide +kernel
theorem dX10_remembers_118 : decode cX10_remembers 118 = .ok (.iload_n 3, 1) := by decide +kernel
theorem dX10_remembers_119 : decode cX10_remembers 119 = .ok (.aload_n 0, 1) := by decide +kernel
theorem dX10_remembers_120 : decode cX10_remembers 120 = .ok (.getfield 7, 3) := by decide +kernel
theorem dX10_remembers_123 : decode cX10_remembers 123 = .ok (.aload_n 0, 1) := by decide +kernel
theorem dX10_remembers_124 : decode cX10_remembers 124 = .ok (.getfield 30, 3) := by decide +kernel
theorem dX10_remembers_127 : decode cX10_remembers 127 = .ok (.aload_n 0, 1) := by decide +kernel
theorem dX10_remembers_128 : decode cX10_remembers 128 = .ok (.getfield 51, 3) := by decide +kernel
theorem dX10_remembers_131 : decode cX10_remembers 131 = .ok (.iload_n 2, 1) := by decide +kernel
theorem dX10_remembers_132 : decode cX10_remembers 132 = .ok (.iaload, 1) := by decide +kernel
theorem dX10_remembers_133 : decode cX10_remembers 133 = .ok (.iaload, 1) := by decide +kernel
theorem dX10_remembers_134 : decode cX10_remembers 134 = .ok (.iaload, 1) := by decide +kernel
theorem dX10_remembers_135 : decode cX10_remembers 135 = .ok (.iastore, 1) := by decide +kernel
theorem dX10_remembers_136 : decode cX10_remembers 136 = .ok (.iinc 3 1, 3) := by decide +kernel
theorem dX10_remembers_139 : decode cX10_remembers 139 = .ok (.goto (-69), 3) := by decide +kernel
theorem dX10_remembers_142 : decode cX10_remembers 142 = .ok (.iinc 2 1, 3) := by decide +kernel
theorem dX10_remembers_145 : decode cX10_remembers 145 = .ok (.goto (-82), 3) := by decide +kernel
theorem dX10_remembers_148 : decode cX10_remembers 148 = .ok (.return_, 1) := by decide +kernel
set_option maxRecDepth 20000 in
theorem ggX10_ways_X10_finds : GoodIn wsX10_ways wsX10_finds := goodIn_r _ [11, 12, 4, 13, 14, 15, 16, 10, 17, 18, 19, 20, 21, 22, 23, 24, 25, 5, 26, 27, 28, 29, 30, 50, 51, 52, 53, 54, 55, 56, 57, 58, 59, 60, 61, 62, 63, 64, 65, 66, 67, 68, 69, 70, 71, 72, 73, 74, 75] (by decide +kernel) (by decide +kernel)
set_option maxRecDepth 20000 in
theorem gX10_ways_X10_finds : GoodIn wsX10_ways (wsV RX10 113 RX10 yX10_finds wsX10_finds) := goodIn_app (goodIn_of _ (by decide +kernel)) ggX10_ways_X10_finds
set_option maxRecDepth 20000 in
theorem ggX10_ways_X10_taken : GoodIn wsX10_ways wsX10_taken := goodIn_r _ [21, 13, 50, 51, 52, 53, 54, 55, 56, 57, 58, 59, 60, 61, 62, 63, 64, 65, 66, 67, 68, 69, 70, 71, 72, 73, 74, 75] (by decide +kernel) (by decide +kernel)
set_option maxRecDepth 20000 in
theorem gX10_ways_X10_taken : GoodIn wsX10_ways (wsV RX10 88 RX10 yX10_taken wsX10_taken) := goodIn_app (goodIn_of _ (by decide +kernel)) ggX10_ways_X10_taken
set_option maxRecDepth 20000 in
theorem ggX10_ways_X10_remembers : GoodIn wsX10_ways wsX10_remembers := goodIn_r _ [34, 35, 13, 36, 5, 6, 26, 37, 38, 39, 10, 40, 41, 42, 43, 44, 45, 46, 47, 48, 49, 50, 51, 52, 53, 54, 55, 56, 57, 58, 59, 60, 61, 62, 63, 64, 65, 66, 67, 68, 69, 70, 71, 72, 73, 74, 75] (by decide +kernel) (by decide +kernel)
set_option maxRecDepth 20000 in
theorem gX10_ways_X10_remembers : GoodIn wsX10_ways (wsV RX10 137 RX10 yX10_remembers wsX10_remembers) := goodIn_app (goodIn_of _ (by decide +kernel)) ggX10_ways_X10_remembers
set_option maxRecDepth 20000 in
theorem ggX10_ways_X10_lowest : GoodIn wsX10_ways wsX10_lowest := goodIn_r _ [49, 44, 45, 10, 46] (by decide +kernel) (by decide +kernel)
set_option maxRecDepth 20000 in
theorem gX10_ways_X10_lowest : GoodIn wsX10_ways (va_wsS RX10 95 yX10_lowest wsX10_lowest) := goodIn_app (goodIn_of _ (by decide +kernel)) ggX10_ways_X10_lowest
theorem dX10_ways_0 : decode cX10_ways 0 = .ok (.aload_n 0, 1) := by decide +kernel
theorem dX10_ways_1 : decode cX10_ways 1 = .ok (.invokevirtual 113, 3) := by decide +kernel
theorem dX10_ways_4 : decode cX10_ways 4 = .ok (.aload_n 0, 1) := by decide +kernel
theorem dX10_ways_5 : decode cX10_ways 5 = .ok (.invokevirtual 88, 3) := by decide +kernel
theorem dX10_ways_8 : decode cX10_ways 8 = .ok (.lstore_n 2, 1) := by decide +kernel
theorem dX10_ways_9 : decode cX10_ways 9 = .ok (.iconst 0, 1) := by decide +kernel
theorem dX10_ways_10 : decode cX10_ways 10 = .ok (.istore 4, 2) := by decide +kernel
theorem dX10_ways_12 : decode cX10_ways 12 = .ok (.iconst 0, 1) := by decide +kernel
theorem dX10_ways_13 : decode cX10_ways 13 = .ok (.istore 5, 2) := by decide +kernel
theorem dX10_ways_15 : decode cX10_ways 15 = .ok (.aload_n 0, 1) := by decide +kernel
theorem dX10_ways_16 : decode cX10_ways 16 = .ok (.getfield 54, 3) := by decide +kernel
theorem dX10_ways_19 : decode cX10_ways 19 = .ok (.iconst 0, 1) := by decide +kernel
theorem dX10_ways_20 : decode cX10_ways 20 = .ok (.iconst 0, 1) := by decide +kernel
theorem dX10_ways_21 : decode cX10_ways 21 = .ok (.iastore, 1) := by decide +kernel
theorem dX10_ways_22 : decode cX10_ways 22 = .ok (.iload 4, 2) := by decide +kernel
theorem dX10_ways_24 : decode cX10_ways 24 = .ok (.ifCond .lt 194, 3) := by decide +kernel
theorem dX10_ways_27 : decode cX10_ways 27 = .ok (.iconst 0, 1) := by decide +kernel
theorem dX10_ways_28 : decode cX10_ways 28 = .ok (.istore 6, 2) := by decide +kernel
theorem dX10_ways_30 : decode cX10_ways 30 = .ok (.lload_n 2, 1) := by decide +kernel
theorem dX10_ways_31 : decode cX10_ways 31 = .ok (.ldc2_w 109, 3) := by decide +kernel
theorem dX10_ways_34 : decode cX10_ways 34 = .ok (.lcmp, 1) := by decide +kernel
theorem dX10_ways_35 : decode cX10_ways 35 = .ok (.ifCond .ne 27, 3) := by decide +kernel
theorem dX10_ways_38 : decode cX10_ways 38 = .ok (.iinc 5 1, 3) := by decide +kernel
theorem dX10_ways_41 : decode cX10_ways 41 = .ok (.iload 5, 2) := by decide +kernel
theorem dX10_ways_43 : decode cX10_ways 43 = .ok (.iconst 1, 1) := by decide +kernel
theorem dX10_ways_44 : decode cX10_ways 44 = .ok (.if_icmp .ne 9, 3) := by decide +kernel
theorem dX10_ways_47 : decode cX10_ways 47 = .ok (.aload_n 0, 1) := by decide +kernel
theorem dX10_ways_48 : decode cX10_ways 48 = .ok (.iload 4, 2) := by decide +kernel
theorem dX10_ways_50 : decode cX10_ways 50 = .ok (.invokevirtual 137, 3) := by decide +kernel
theorem dX10_ways_53 : decode cX10_ways 53 = .ok (.iload 5, 2) := by decide +kernel
theorem dX10_ways_55 : decode cX10_ways 55 = .ok (.iload_n 1, 1) := by decide +kernel
theorem dX10_ways_56 : decode cX10_ways 56 = .ok (.if_icmp .ne 109, 3) := by decide +kernel
theorem dX10_ways_59 : decode cX10_ways 59 = .ok (.iload 5, 2) := by decide +kernel
theorem dX10_ways_61 : decode cX10_ways 61 = .ok (.ireturn, 1) := by decide +kernel
theorem dX10_ways_62 : decode cX10_ways 62 = .ok (.lload_n 2, 1) := by decide +kernel
theorem dX10_ways_63 : decode cX10_ways 63 = .ok (.ldc2_w 111, 3) := by decide +kernel
theorem dX10_ways_66 : decode cX10_ways 66 = .ok (.lxor, 1) := by decide +kernel
theorem dX10_ways_67 : decode cX10_ways 67 = .ok (.invokestatic 95, 3) := by decide +kernel
theorem dX10_ways_70 : decode cX10_ways 70 = .ok (.istore 7, 2) := by decide +kernel
theorem dX10_ways_72 : decode cX10_ways 72 = .ok (.aload_n 0, 1) := by decide +kernel
theorem dX10_ways_73 : decode cX10_ways 73 = .ok (.getfield 54, 3) := by decide +kernel
theorem dX10_ways_76 : decode cX10_ways 76 = .ok (.iload 4, 2) := by decide +kernel
theorem dX10_ways_78 : decode cX10_ways 78 = .ok (.iaload, 1) := by decide +kernel
theorem dX10_ways_79 : decode cX10_ways 79 = .ok (.bipush 6, 2) := by decide +kernel
theorem dX10_ways_81 : decode cX10_ways 81 = .ok (.if_icmp .ge 84, 3) := by decide +kernel
theorem dX10_ways_84 : decode cX10_ways 84 = .ok (.iload 6, 2) := by decide +kernel
theorem dX10_ways_86 : decode cX10_ways 86 = .ok (.ifCond .ne 79, 3) := by decide +kernel
theorem dX10_ways_89 : decode cX10_ways 89 = .ok (.aload_n 0, 1) := by decide +kernel
theorem dX10_ways_90 : decode cX10_ways 90 = .ok (.getfield 36, 3) := by decide +kernel
theorem dX10_ways_93 : decode cX10_ways 93 = .ok (.bipush 6, 2) := by decide +kernel
theorem dX10_ways_95 : decode cX10_ways 95 = .ok (.iload 7, 2) := by decide +kernel
theorem dX10_ways_97 : decode cX10_ways 97 = .ok (.imul, 1) := by decide +kernel
theorem dX10_ways_98 : decode cX10_ways 98 = .ok (.aload_n 0, 1) := by decide +kernel
theorem dX10_ways_99 : decode cX10_ways 99 = .ok (.getfield 54, 3) := by decide +kernel
theorem dX10_ways_102 : decode cX10_ways 102 = .ok (.iload 4, 2) := by decide +kernel
theorem dX10_ways_104 : decode cX10_ways 104 = .ok (.iaload, 1) := by decide +kernel
theorem dX10_ways_105 : decode cX10_ways 105 = .ok (.iadd, 1) := by decide +kernel
theorem dX10_ways_106 : decode cX10_ways 106 = .ok (.iaload, 1) := by decide +kernel
theorem dX10_ways_107 : decode cX10_ways 107 = .ok (.istore 8, 2) := by decide +kernel
theorem dX10_ways_109 : decode cX10_ways 109 = .ok (.aload_n 0, 1) := by decide +kernel
theorem dX10_ways_110 : decode cX10_ways 110 = .ok (.getfield 54, 3) := by decide +kernel
theorem dX10_ways_113 : decode cX10_ways 113 = .ok (.iload 4, 2) := by decide +kernel
theorem dX10_ways_115 : decode cX10_ways 115 = .ok (.dup2, 1) := by decide +kernel
theorem dX10_ways_116 : decode cX10_ways 116 = .ok (.iaload, 1) := by decide +kernel
theorem dX10_ways_117 : decode cX10_ways 117 = .ok (.iconst 1, 1) := by decide +kernel
theorem dX10_ways_118 : decode cX10_ways 118 = .ok (.iadd, 1) := by decide +kernel
theorem dX10_ways_119 : decode cX10_ways 119 = .ok (.iastore, 1) := by decide +kernel
theorem dX10_ways_120 : decode cX10_ways 120 = .ok (.iload 8, 2) := by decide +kernel
theorem dX10_ways_122 : decode cX10_ways 122 = .ok (.iconst (-1), 1) := by decide +kernel
theorem dX10_ways_123 : decode cX10_ways 123 = .ok (.if_icmp .eq 39, 3) := by decide +kernel
theorem dX10_ways_126 : decode cX10_ways 126 = .ok (.aload_n 0, 1) := by decide +kernel
theorem dX10_ways_127 : decode cX10_ways 127 = .ok (.getfield 26, 3) := by decide +kernel
theorem dX10_ways_130 : decode cX10_ways 130 = .ok (.iload 8, 2) := by decide +kernel
theorem dX10_ways_132 : decode cX10_ways 132 = .ok (.laload, 1) := by decide +kernel
theorem dX10_ways_133 : decode cX10_ways 133 = .ok (.lload_n 2, 1) := by decide +kernel
theorem dX10_ways_134 : decode cX10_ways 134 = .ok (.land, 1) := by decide +kernel
theorem dX10_ways_135 : decode cX10_ways 135 = .ok (.lconst 0, 1) := by decide +kernel
theorem dX10_ways_136 : decode cX10_ways 136 = .ok (.lcmp, 1) := by decide +kernel
theorem dX10_ways_137 : decode cX10_ways 137 = .ok (.ifCond .ne 25, 3) := by decide +kernel
theorem dX10_ways_140 : decode cX10_ways 140 = .ok (.aload_n 0, 1) := by decide +kernel
theorem dX10_ways_141 : decode cX10_ways 141 = .ok (.getfield 51, 3) := by decide +kernel
theorem dX10_ways_144 : decode cX10_ways 144 = .ok (.iload 4, 2) := by decide +kernel
theorem dX10_ways_146 : decode cX10_ways 146 = .ok (.iload 8, 2) := by decide +kernel
theorem dX10_ways_148 : decode cX10_ways 148 = .ok (.iastore, 1) := by decide +kernel
theorem dX10_ways_149 : decode cX10_ways 149 = .ok (.lload_n 2, 1) := by decide +kernel
theorem dX10_ways_150 : decode cX10_ways 150 = .ok (.aload_n 0, 1) := by decide +kernel
theorem dX10_ways_151 : decode cX10_ways 151 = .ok (.getfield 26, 3) := by decide +kernel
theorem dX10_ways_154 : decode cX10_ways 154 = .ok (.iload 8, 2) := by decide +kernel
theorem dX10_ways_156 : decode cX10_ways 156 = .ok (.laload, 1) := by decide +kernel
theorem dX10_ways_157 : decode cX10_ways 157 = .ok (.lor, 1) := by decide +kernel
theorem dX10_ways_158 : decode cX10_ways 158 = .ok (.lstore_n 2, 1) := by decide +kernel
theorem dX10_ways_159 : decode cX10_ways 159 = .ok (.iconst 1, 1) := by decide +kernel
theorem dX10_ways_160 : decode cX10_ways 160 = .ok (.istore 6, 2) := by decide +kernel
theorem dX10_ways_162 : decode cX10_ways 162 = .ok (.goto (-90), 3) := by decide +kernel
theorem dX10_ways_165 : decode cX10_ways 165 = .ok (.iload 6, 2) := by decide +kernel
theorem dX10_ways_167 : decode cX10_ways 167 = .ok (.ifCond .eq 17, 3) := by decide +kernel
theorem dX10_ways_170 : decode cX10_ways 170 = .ok (.iinc 4 1, 3) := by decide +kernel
theorem dX10_ways_173 : decode cX10_ways 173 = .ok (.aload_n 0, 1) := by decide +kernel
theorem dX10_ways_174 : decode cX10_ways 174 = .ok (.getfield 54, 3) := by decide +kernel
theorem dX10_ways_177 : decode cX10_ways 177 = .ok (.iload 4, 2) := by decide +kernel
theorem dX10_ways_179 : decode cX10_ways 179 = .ok (.iconst 0, 1) := by decide +kernel
theorem dX10_ways_180 : decode cX10_ways 180 = .ok (.iastore, 1) := by decide +kernel
theorem dX10_ways_181 : decode cX10_ways 181 = .ok (.goto 34, 3) := by decide +kernel
theorem dX10_ways_184 : decode cX10_ways 184 = .ok (.iinc 4 (-1), 3) := by decide +kernel
theorem dX10_ways_187 : decode cX10_ways 187 = .ok (.iload 4, 2) := by decide +kernel
theorem dX10_ways_189 : decode cX10_ways 189 = .ok (.ifCond .lt 24, 3) := by decide +kernel
theorem dX10_ways_192 : decode cX10_ways 192 = .ok (.lload_n 2, 1) := by decide +kernel
theorem dX10_ways_193 : decode cX10_ways 193 = .ok (.aload_n 0, 1) := by decide +kernel
theorem dX10_ways_194 : decode cX10_ways 194 = .ok (.getfield 26, 3) := by decide +kernel
theorem dX10_ways_197 : decode cX10_ways 197 = .ok (.aload_n 0, 1) := by decide +kernel
theorem dX10_ways_198 : decode cX10_ways 198 = .ok (.getfield 51, 3) := by decide +kernel
theorem dX10_ways_201 : decode cX10_ways 201 = .ok (.iload 4, 2) := by decide +kernel
theorem dX10_ways_203 : decode cX10_ways 203 = .ok (.iaload, 1) := by decide +kernel
theorem dX10_ways_204 : decode cX10_ways 204 = .ok (.laload, 1) := by decide +kernel
theorem dX10_ways_205 : decode cX10_ways 205 = .ok (.ldc2_w 111, 3) := by decide +kernel
theorem dX10_ways_208 : decode cX10_ways 208 = .ok (.lxor, 1) := by decide +kernel
theorem dX10_ways_209 : decode cX10_ways 209 = .ok (.land, 1) := by decide +kernel
theorem dX10_ways_210 : decode cX10_ways 210 = .ok (.goto 4, 3) := by decide +kernel
theorem dX10_ways_213 : decode cX10_ways 213 = .ok (.lload_n 2, 1) := by decide +kernel
theorem dX10_ways_214 : decode cX10_ways 214 = .ok (.lstore_n 2, 1) := by decide +kernel
theorem dX10_ways_215 : decode cX10_ways 215 = .ok (.goto (-193), 3) := by decide +kernel
theorem dX10_ways_218 : decode cX10_ways 218 = .ok (.iload 5, 2) := by decide +kernel
theorem dX10_ways_220 : decode cX10_ways 220 = .ok (.ireturn, 1) := by decide +kernel
set_option maxRecDepth 20000 in
theorem ggX10_write_X10_isCell : GoodIn wsX10_write wsX10_isCell := goodIn_r _ [6, 7, 8, 5, 9] (by decide +kernel) (by decide +kernel)
set_option maxRecDepth 20000 in
theorem gX10_write_X10_isCell : GoodIn wsX10_write (va_wsS RX10 141 yX10_isCell wsX10_isCell) := goodIn_app (goodIn_of _ (by decide +kernel)) ggX10_write_X10_isCell
set_option maxRecDepth 20000 in
theorem ggX10_write_X10_in : GoodIn wsX10_write wsX10_in := goodIn_r _ [9] (by decide +kernel) (by decide +kernel)
set_option maxRecDepth 20000 in
theorem gX10_write_X10_in : GoodIn wsX10_write (va_wsS RX10 73 yX10_in wsX10_in) := goodIn_app (goodIn_of _ (by decide +kernel)) ggX10_write_X10_in
set_option maxRecDepth 20000 in
theorem ggX10_write_X10_save : GoodIn wsX10_write wsX10_save := goodIn_r _ [13, 14, 15, 1, 16, 17, 18, 19, 20, 21, 22, 23, 24, 25, 26, 27, 28, 29, 30, 31, 32, 33, 34, 35, 36, 37, 38, 39, 40, 41] (by decide +kernel) (by decide +kernel)
set_option maxRecDepth 20000 in
theorem gX10_write_X10_save : GoodIn wsX10_write (wsV RX10 145 RX10 yX10_save wsX10_save) := goodIn_app (goodIn_of _ (by decide +kernel)) ggX10_write_X10_save
theorem dX10_write_0 : decode cX10_write 0 = .ok (.aload_n 0, 1) := by decide +kernel
theorem dX10_write_1 : decode cX10_write 1 = .ok (.iload_n 1, 1) := by decide +kernel
theorem dX10_write_2 : decode cX10_write 2 = .ok (.iload_n 2, 1) := by decide +kernel
theorem dX10_write_3 : decode cX10_write 3 = .ok (.invokestatic 141, 3) := by decide +kernel
theorem dX10_write_6 : decode cX10_write 6 = .ok (.ifCond .ne 7, 3) := by decide +kernel
theorem dX10_write_9 : decode cX10_write 9 = .ok (.iconst 1, 1) := by decide +kernel
theorem dX10_write_10 : decode cX10_write 10 = .ok (.goto 39, 3) := by decide +kernel
theorem dX10_write_13 : decode cX10_write 13 = .ok (.iload_n 3, 1) := by decide +kernel
theorem dX10_write_14 : decode cX10_write 14 = .ok (.iconst 0, 1) := by decide +kernel
theorem dX10_write_15 : decode cX10_write 15 = .ok (.bipush 20, 2) := by decide +kernel
theorem dX10_write_17 : decode cX10_write 17 = .ok (.invokestatic 73, 3) := by decide +kernel
theorem dX10_write_20 : decode cX10_write 20 = .ok (.ifCond .ne 7, 3) := by decide +kernel
theorem dX10_write_23 : decode cX10_write 23 = .ok (.iconst 2, 1) := by decide +kernel
theorem dX10_write_24 : decode cX10_write 24 = .ok (.goto 25, 3) := by decide +kernel
theorem dX10_write_27 : decode cX10_write 27 = .ok (.aload_n 0, 1) := by decide +kernel
theorem dX10_write_28 : decode cX10_write 28 = .ok (.getfield 7, 3) := by decide +kernel
theorem dX10_write_31 : decode cX10_write 31 = .ok (.bipush 42, 2) := by decide +kernel
theorem dX10_write_33 : decode cX10_write 33 = .ok (.bipush 7, 2) := by decide +kernel
theorem dX10_write_35 : decode cX10_write 35 = .ok (.iload_n 1, 1) := by decide +kernel
theorem dX10_write_36 : decode cX10_write 36 = .ok (.imul, 1) := by decide +kernel
theorem dX10_write_37 : decode cX10_write 37 = .ok (.iadd, 1) := by decide +kernel
theorem dX10_write_38 : decode cX10_write 38 = .ok (.iload_n 2, 1) := by decide +kernel
theorem dX10_write_39 : decode cX10_write 39 = .ok (.iadd, 1) := by decide +kernel
theorem dX10_write_40 : decode cX10_write 40 = .ok (.iaload, 1) := by decide +kernel
theorem dX10_write_41 : decode cX10_write 41 = .ok (.ifCond .le 7, 3) := by decide +kernel
theorem dX10_write_44 : decode cX10_write 44 = .ok (.iconst 3, 1) := by decide +kernel
theorem dX10_write_45 : decode cX10_write 45 = .ok (.goto 4, 3) := by decide +kernel
theorem dX10_write_48 : decode cX10_write 48 = .ok (.iconst 0, 1) := by decide +kernel
theorem dX10_write_49 : decode cX10_write 49 = .ok (.putfield 69, 3) := by decide +kernel
theorem dX10_write_52 : decode cX10_write 52 = .ok (.aload_n 0, 1) := by decide +kernel
theorem dX10_write_53 : decode cX10_write 53 = .ok (.getfield 69, 3) := by decide +kernel
theorem dX10_write_56 : decode cX10_write 56 = .ok (.ifCond .le 5, 3) := by decide +kernel
theorem dX10_write_59 : decode cX10_write 59 = .ok (.iconst 0, 1) := by decide +kernel
theorem dX10_write_60 : decode cX10_write 60 = .ok (.ireturn, 1) := by decide +kernel
theorem dX10_write_61 : decode cX10_write 61 = .ok (.aload_n 0, 1) := by decide +kernel
theorem dX10_write_62 : decode cX10_write 62 = .ok (.invokevirtual 145, 3) := by decide +kernel
theorem dX10_write_65 : decode cX10_write 65 = .ok (.aload_n 0, 1) := by decide +kernel
theorem dX10_write_66 : decode cX10_write 66 = .ok (.getfield 7, 3) := by decide +kernel
theorem dX10_write_69 : decode cX10_write 69 = .ok (.bipush 7, 2) := by decide +kernel
theorem dX10_write_71 : decode cX10_write 71 = .ok (.iload_n 1, 1) := by decide +kernel
theorem dX10_write_72 : decode cX10_write 72 = .ok (.imul, 1) := by decide +kernel
theorem dX10_write_73 : decode cX10_write 73 = .ok (.iload_n 2, 1) := by decide +kernel
theorem dX10_write_74 : decode cX10_write 74 = .ok (.iadd, 1) := by decide +kernel
theorem dX10_write_75 : decode cX10_write 75 = .ok (.iaload, 1) := by decide +kernel
theorem dX10_write_76 : decode cX10_write 76 = .ok (.istore 4, 2) := by decide +kernel
theorem dX10_write_78 : decode cX10_write 78 = .ok (.aload_n 0, 1) := by decide +kernel
theorem dX10_write_79 : decode cX10_write 79 = .ok (.getfield 7, 3) := by decide +kernel
theorem dX10_write_82 : decode cX10_write 82 = .ok (.bipush 7, 2) := by decide +kernel
theorem dX10_write_84 : decode cX10_write 84 = .ok (.iload_n 1, 1) := by decide +kernel
theorem dX10_write_85 : decode cX10_write 85 = .ok (.imul, 1) := by decide +kernel
theorem dX10_write_86 : decode cX10_write 86 = .ok (.iload_n 2, 1) := by decide +kernel
theorem dX10_write_87 : decode cX10_write 87 = .ok (.iadd, 1) := by decide +kernel
theorem dX10_write_88 : decode cX10_write 88 = .ok (.iload_n 3, 1) := by decide +kernel
theorem dX10_write_89 : decode cX10_write 89 = .ok (.iastore, 1) := by decide +kernel
theorem dX10_write_90 : decode cX10_write 90 = .ok (.iload 4, 2) := by decide +kernel
theorem dX10_write_92 : decode cX10_write 92 = .ok (.ireturn, 1) := by decide +kernel
theorem dX10_drawn_0 : decode cX10_drawn 0 = .ok (.aload_n 0, 1) := by decide +kernel
theorem dX10_drawn_1 : decode cX10_drawn 1 = .ok (.aload_n 0, 1) := by decide +kernel
theorem dX10_drawn_2 : decode cX10_drawn 2 = .ok (.getfield 148, 3) := by decide +kernel
theorem dX10_drawn_5 : decode cX10_drawn 5 = .ok (.ldc2_w 152, 3) := by decide +kernel
theorem dX10_drawn_8 : decode cX10_drawn 8 = .ok (.lmul, 1) := by decide +kernel
theorem dX10_drawn_9 : decode cX10_drawn 9 = .ok (.ldc2_w 154, 3) := by decide +kernel
theorem dX10_drawn_12 : decode cX10_drawn 12 = .ok (.ladd, 1) := by decide +kernel
theorem dX10_drawn_13 : decode cX10_drawn 13 = .ok (.ldc2_w 156, 3) := by decide +kernel
theorem dX10_drawn_16 : decode cX10_drawn 16 = .ok (.lrem, 1) := by decide +kernel
theorem dX10_drawn_17 : decode cX10_drawn 17 = .ok (.putfield 148, 3) := by decide +kernel
theorem dX10_drawn_20 : decode cX10_drawn 20 = .ok (.aload_n 0, 1) := by decide +kernel
theorem dX10_drawn_21 : decode cX10_drawn 21 = .ok (.getfield 148, 3) := by decide +kernel
theorem dX10_drawn_24 : decode cX10_drawn 24 = .ok (.ldc2_w 158, 3) := by decide +kernel
theorem dX10_drawn_27 : decode cX10_drawn 27 = .ok (.ldiv, 1) := by decide +kernel
theorem dX10_drawn_28 : decode cX10_drawn 28 = .ok (.iload_n 1, 1) := by decide +kernel
theorem dX10_drawn_29 : decode cX10_drawn 29 = .ok (.i2l, 1) := by decide +kernel
theorem dX10_drawn_30 : decode cX10_drawn 30 = .ok (.lrem, 1) := by decide +kernel
theorem dX10_drawn_31 : decode cX10_drawn 31 = .ok (.l2i, 1) := by decide +kernel
theorem dX10_drawn_32 : decode cX10_drawn 32 = .ok (.ireturn, 1) := by decide +kernel
theorem dX10_area_0 : decode cX10_area 0 = .ok (.aload_n 0, 1) := by decide +kernel
theorem dX10_area_1 : decode cX10_area 1 = .ok (.getfield 63, 3) := by decide +kernel
theorem dX10_area_4 : decode cX10_area 4 = .ok (.iload_n 1, 1) := by decide +kernel
theorem dX10_area_5 : decode cX10_area 5 = .ok (.iconst 2, 1) := by decide +kernel
theorem dX10_area_6 : decode cX10_area 6 = .ok (.iadd, 1) := by decide +kernel
theorem dX10_area_7 : decode cX10_area 7 = .ok (.iaload, 1) := by decide +kernel
theorem dX10_area_8 : decode cX10_area 8 = .ok (.aload_n 0, 1) := by decide +kernel
theorem dX10_area_9 : decode cX10_area 9 = .ok (.getfield 63, 3) := by decide +kernel
theorem dX10_area_12 : decode cX10_area 12 = .ok (.iload_n 1, 1) := by decide +kernel
theorem dX10_area_13 : decode cX10_area 13 = .ok (.iaload, 1) := by decide +kernel
theorem dX10_area_14 : decode cX10_area 14 = .ok (.isub, 1) := by decide +kernel
theorem dX10_area_15 : decode cX10_area 15 = .ok (.iconst 1, 1) := by decide +kernel
theorem dX10_area_16 : decode cX10_area 16 = .ok (.iadd, 1) := by decide +kernel
theorem dX10_area_17 : decode cX10_area 17 = .ok (.aload_n 0, 1) := by decide +kernel
theorem dX10_area_18 : decode cX10_area 18 = .ok (.getfield 63, 3) := by decide +kernel
theorem dX10_area_21 : decode cX10_area 21 = .ok (.iload_n 1, 1) := by decide +kernel
theorem dX10_area_22 : decode cX10_area 22 = .ok (.iconst 3, 1) := by decide +kernel
theorem dX10_area_23 : decode cX10_area 23 = .ok (.iadd, 1) := by decide +kernel
theorem dX10_area_24 : decode cX10_area 24 = .ok (.iaload, 1) := by decide +kernel
theorem dX10_area_25 : decode cX10_area 25 = .ok (.aload_n 0, 1) := by decide +kernel
theorem dX10_area_26 : decode cX10_area 26 = .ok (.getfield 63, 3) := by decide +kernel
theorem dX10_area_29 : decode cX10_area 29 = .ok (.iload_n 1, 1) := by decide +kernel
theorem dX10_area_30 : decode cX10_area 30 = .ok (.iconst 1, 1) := by decide +kernel
theorem dX10_area_31 : decode cX10_area 31 = .ok (.iadd, 1) := by decide +kernel
theorem dX10_area_32 : decode cX10_area 32 = .ok (.iaload, 1) := by decide +kernel
theorem dX10_area_33 : decode cX10_area 33 = .ok (.isub, 1) := by decide +kernel
theorem dX10_area_34 : decode cX10_area 34 = .ok (.iconst 1, 1) := by decide +kernel
theorem dX10_area_35 : decode cX10_area 35 = .ok (.iadd, 1) := by decide +kernel
theorem dX10_area_36 : decode cX10_area 36 = .ok (.imul, 1) := by decide +kernel
theorem dX10_area_37 : decode cX10_area 37 = .ok (.ireturn, 1) := by decide +kernel
set_option maxRecDepth 20000 in
theorem ggX10_make_X10_in : GoodIn wsX10_make wsX10_in := goodIn_r _ [6] (by decide +kernel) (by decide +kernel)
set_option maxRecDepth 20000 in
theorem gX10_make_X10_in : GoodIn wsX10_make (va_wsS RX10 73 yX10_in wsX10_in) := goodIn_app (goodIn_of _ (by decide +kernel)) ggX10_make_X10_in
set_option maxRecDepth 20000 in
theorem ggX10_make_X10_throwing : GoodIn wsX10_make wsX10_throwing := goodIn_r _ [10, 1, 36, 37, 38, 39, 40, 41, 42, 43, 44, 45, 46, 47, 48, 49, 50, 51, 52, 53, 54, 55, 56, 57, 58, 59, 60, 61] (by decide +kernel) (by decide +kernel)
set_option maxRecDepth 20000 in
theorem gX10_make_X10_throwing : GoodIn wsX10_make (wsV RX10 161 RX10 yX10_throwing wsX10_throwing) := goodIn_app (goodIn_of _ (by decide +kernel)) ggX10_make_X10_throwing
set_option maxRecDepth 20000 in
theorem ggX10_make_X10_save : GoodIn wsX10_make wsX10_save := goodIn_r _ [14, 15, 16, 17, 36, 37, 38, 39, 40, 41, 42, 43, 44, 45, 46, 47, 48, 49, 50, 51, 52, 53, 54, 55, 56, 57, 58, 59, 60, 61] (by decide +kernel) (by decide +kernel)
set_option maxRecDepth 20000 in
theorem gX10_make_X10_save : GoodIn wsX10_make (wsV RX10 145 RX10 yX10_save wsX10_save) := goodIn_app (goodIn_of _ (by decide +kernel)) ggX10_make_X10_save
set_option maxRecDepth 20000 in
theorem ggX10_make_X10_makes : GoodIn wsX10_make wsX10_makes := goodIn_r _ [21, 22, 23, 17, 24, 25, 26, 5, 27, 28, 29, 30, 31, 32, 33, 34, 35, 36, 37, 38, 39, 40, 41, 42, 43, 44, 45, 46, 47, 48, 49, 50, 51, 52, 53, 54, 55, 56, 57, 58, 59, 60, 61] (by decide +kernel) (by decide +kernel)
set_option maxRecDepth 20000 in
theorem gX10_make_X10_makes : GoodIn wsX10_make (wsV RX10 164 RX10 yX10_makes wsX10_makes) := goodIn_app (goodIn_of _ (by decide +kernel)) ggX10_make_X10_makes
theorem dX10_make_0 : decode cX10_make 0 = .ok (.aload_n 0, 1) := by decide +kernel
theorem dX10_make_1 : decode cX10_make 1 = .ok (.iconst 0, 1) := by decide +kernel
theorem dX10_make_2 : decode cX10_make 2 = .ok (.putfield 69, 3) := by decide +kernel
theorem dX10_make_5 : decode cX10_make 5 = .ok (.iload_n 1, 1) := by decide +kernel
theorem dX10_make_6 : decode cX10_make 6 = .ok (.iconst 0, 1) := by decide +kernel
theorem dX10_make_7 : decode cX10_make 7 = .ok (.ldc 160, 2) := by decide +kernel
theorem dX10_make_9 : decode cX10_make 9 = .ok (.invokestatic 73, 3) := by decide +kernel
theorem dX10_make_12 : decode cX10_make 12 = .ok (.ifCond .ne 9, 3) := by decide +kernel
theorem dX10_make_15 : decode cX10_make 15 = .ok (.aload_n 0, 1) := by decide +kernel
theorem dX10_make_16 : decode cX10_make 16 = .ok (.iconst 1, 1) := by decide +kernel
theorem dX10_make_17 : decode cX10_make 17 = .ok (.invokevirtual 161, 3) := by decide +kernel
theorem dX10_make_20 : decode cX10_make 20 = .ok (.ireturn, 1) := by decide +kernel
theorem dX10_make_21 : decode cX10_make 21 = .ok (.aload_n 0, 1) := by decide +kernel
theorem dX10_make_22 : decode cX10_make 22 = .ok (.invokevirtual 145, 3) := by decide +kernel
theorem dX10_make_25 : decode cX10_make 25 = .ok (.aload_n 0, 1) := by decide +kernel
theorem dX10_make_26 : decode cX10_make 26 = .ok (.iload_n 1, 1) := by decide +kernel
theorem dX10_make_27 : decode cX10_make 27 = .ok (.invokevirtual 164, 3) := by decide +kernel
theorem dX10_make_30 : decode cX10_make 30 = .ok (.ireturn, 1) := by decide +kernel
set_option maxRecDepth 20000 in
theorem ggX10_makes_X10_area : GoodIn wsX10_makes wsX10_area := goodIn_r _ [8, 2, 17, 18, 19, 20, 21, 22, 23, 24, 25, 26, 27, 28, 29, 30, 31, 32, 33, 34, 35, 36, 37, 38, 39, 40, 41, 42] (by decide +kernel) (by decide +kernel)
set_option maxRecDepth 20000 in
theorem gX10_makes_X10_area : GoodIn wsX10_makes (wsV RX10 167 RX10 yX10_area wsX10_area) := goodIn_app (goodIn_of _ (by decide +kernel)) ggX10_makes_X10_area
set_option maxRecDepth 20000 in
theorem ggX10_makes_X10_drawn : GoodIn wsX10_makes wsX10_drawn := goodIn_r _ [12, 1, 13, 14, 15, 16, 17, 18, 19, 20, 21, 22, 23, 24, 25, 26, 27, 28, 29, 30, 31, 32, 33, 34, 35, 36, 37, 38, 39, 40, 41, 42] (by decide +kernel) (by decide +kernel)
set_option maxRecDepth 20000 in
theorem gX10_makes_X10_drawn : GoodIn wsX10_makes (wsV RX10 170 RX10 yX10_drawn wsX10_drawn) := goodIn_app (goodIn_of _ (by decide +kernel)) ggX10_makes_X10_drawn
theorem dX10_makes_0 : decode cX10_makes 0 = .ok (.aload_n 0, 1) := by decide +kernel
theorem dX10_makes_1 : decode cX10_makes 1 = .ok (.iload_n 1, 1) := by decide +kernel
theorem dX10_makes_2 : decode cX10_makes 2 = .ok (.i2l, 1) := by decide +kernel
theorem dX10_makes_3 : decode cX10_makes 3 = .ok (.putfield 148, 3) := by decide +kernel
theorem dX10_makes_6 : decode cX10_makes 6 = .ok (.aload_n 0, 1) := by decide +kernel
theorem dX10_makes_7 : decode cX10_makes 7 = .ok (.getfield 63, 3) := by decide +kernel
theorem dX10_makes_10 : decode cX10_makes 10 = .ok (.iconst 0, 1) := by decide +kernel
theorem dX10_makes_11 : decode cX10_makes 11 = .ok (.iconst 0, 1) := by decide +kernel
theorem dX10_makes_12 : decode cX10_makes 12 = .ok (.iastore, 1) := by decide +kernel
theorem dX10_makes_13 : decode cX10_makes 13 = .ok (.aload_n 0, 1) := by decide +kernel
theorem dX10_makes_14 : decode cX10_makes 14 = .ok (.getfield 63, 3) := by decide +kernel
theorem dX10_makes_17 : decode cX10_makes 17 = .ok (.iconst 1, 1) := by decide +kernel
theorem dX10_makes_18 : decode cX10_makes 18 = .ok (.iconst 0, 1) := by decide +kernel
theorem dX10_makes_19 : decode cX10_makes 19 = .ok (.iastore, 1) := by decide +kernel
theorem dX10_makes_20 : decode cX10_makes 20 = .ok (.aload_n 0, 1) := by decide +kernel
theorem dX10_makes_21 : decode cX10_makes 21 = .ok (.getfield 63, 3) := by decide +kernel
theorem dX10_makes_24 : decode cX10_makes 24 = .ok (.iconst 2, 1) := by decide +kernel
theorem dX10_makes_25 : decode cX10_makes 25 = .ok (.iconst 5, 1) := by decide +kernel
theorem dX10_makes_26 : decode cX10_makes 26 = .ok (.iastore, 1) := by decide +kernel
theorem dX10_makes_27 : decode cX10_makes 27 = .ok (.aload_n 0, 1) := by decide +kernel
theorem dX10_makes_28 : decode cX10_makes 28 = .ok (.getfield 63, 3) := by decide +kernel
theorem dX10_makes_31 : decode cX10_makes 31 = .ok (.iconst 3, 1) := by decide +kernel
theorem dX10_makes_32 : decode cX10_makes 32 = .ok (.bipush 6, 2) := by decide +kernel
theorem dX10_makes_34 : decode cX10_makes 34 = .ok (.iastore, 1) := by decide +kernel
theorem dX10_makes_35 : decode cX10_makes 35 = .ok (.iconst 1, 1) := by decide +kernel
theorem dX10_makes_36 : decode cX10_makes 36 = .ok (.istore_n 2, 1) := by decide +kernel
theorem dX10_makes_37 : decode cX10_makes 37 = .ok (.iconst 0, 1) := by decide +kernel
theorem dX10_makes_38 : decode cX10_makes 38 = .ok (.istore_n 3, 1) := by decide +kernel
theorem dX10_makes_39 : decode cX10_makes 39 = .ok (.iload_n 3, 1) := by decide +kernel
theorem dX10_makes_40 : decode cX10_makes 40 = .ok (.iload_n 2, 1) := by decide +kernel
theorem dX10_makes_41 : decode cX10_makes 41 = .ok (.if_icmp .ge 198, 3) := by decide +kernel
theorem dX10_makes_44 : decode cX10_makes 44 = .ok (.iconst 4, 1) := by decide +kernel
theorem dX10_makes_45 : decode cX10_makes 45 = .ok (.iload_n 3, 1) := by decide +kernel
theorem dX10_makes_46 : decode cX10_makes 46 = .ok (.imul, 1) := by decide +kernel
theorem dX10_makes_47 : decode cX10_makes 47 = .ok (.istore 4, 2) := by decide +kernel
theorem dX10_makes_49 : decode cX10_makes 49 = .ok (.aload_n 0, 1) := by decide +kernel
theorem dX10_makes_50 : decode cX10_makes 50 = .ok (.iload 4, 2) := by decide +kernel
theorem dX10_makes_52 : decode cX10_makes 52 = .ok (.invokevirtual 167, 3) := by decide +kernel
theorem dX10_makes_55 : decode cX10_makes 55 = .ok (.bipush 6, 2) := by decide +kernel
theorem dX10_makes_57 : decode cX10_makes 57 = .ok (.if_icmp .le 176, 3) := by decide +kernel
theorem dX10_makes_60 : decode cX10_makes 60 = .ok (.aload_n 0, 1) := by decide +kernel
theorem dX10_makes_61 : decode cX10_makes 61 = .ok (.getfield 63, 3) := by decide +kernel
theorem dX10_makes_64 : decode cX10_makes 64 = .ok (.iload 4, 2) := by decide +kernel
theorem dX10_makes_66 : decode cX10_makes 66 = .ok (.iconst 2, 1) := by decide +kernel
theorem dX10_makes_67 : decode cX10_makes 67 = .ok (.iadd, 1) := by decide +kernel
theorem dX10_makes_68 : decode cX10_makes 68 = .ok (.iaload, 1) := by decide +kernel
theorem dX10_makes_69 : decode cX10_makes 69 = .ok (.aload_n 0, 1) := by decide +kernel
theorem dX10_makes_70 : decode cX10_makes 70 = .ok (.getfield 63, 3) := by decide +kernel
theorem dX10_makes_73 : decode cX10_makes 73 = .ok (.iload 4, 2) := by decide +kernel
theorem dX10_makes_75 : decode cX10_makes 75 = .ok (.iaload, 1) := by decide +kernel
theorem dX10_makes_76 : decode cX10_makes 76 = .ok (.isub, 1) := by decide +kernel
theorem dX10_makes_77 : decode cX10_makes 77 = .ok (.iconst 1, 1) := by decide +kernel
theorem dX10_makes_78 : decode cX10_makes 78 = .ok (.iadd, 1) := by decide +kernel
theorem dX10_makes_79 : decode cX10_makes 79 = .ok (.istore 5, 2) := by decide +kernel
theorem dX10_makes_81 : decode cX10_makes 81 = .ok (.aload_n 0, 1) := by decide +kernel
theorem dX10_makes_82 : decode cX10_makes 82 = .ok (.getfield 63, 3) := by decide +kernel
theorem dX10_makes_85 : decode cX10_makes 85 = .ok (.iload 4, 2) := by decide +kernel
theorem dX10_makes_87 : decode cX10_makes 87 = .ok (.iconst 3, 1) := by decide +kernel
theorem dX10_makes_88 : decode cX10_makes 88 = .ok (.iadd, 1) := by decide +kernel
theorem dX10_makes_89 : decode cX10_makes 89 = .ok (.iaload, 1) := by decide +kernel
theorem dX10_makes_90 : decode cX10_makes 90 = .ok (.aload_n 0, 1) := by decide +kernel
theorem dX10_makes_91 : decode cX10_makes 91 = .ok (.getfield 63, 3) := by decide +kernel
theorem dX10_makes_94 : decode cX10_makes 94 = .ok (.iload 4, 2) := by decide +kernel
theorem dX10_makes_96 : decode cX10_makes 96 = .ok (.iconst 1, 1) := by decide +kernel
theorem dX10_makes_97 : decode cX10_makes 97 = .ok (.iadd, 1) := by decide +kernel
theorem dX10_makes_98 : decode cX10_makes 98 = .ok (.iaload, 1) := by decide +kernel
theorem dX10_makes_99 : decode cX10_makes 99 = .ok (.isub, 1) := by decide +kernel
theorem dX10_makes_100 : decode cX10_makes 100 = .ok (.iconst 1, 1) := by decide +kernel
theorem dX10_makes_101 : decode cX10_makes 101 = .ok (.iadd, 1) := by decide +kernel
theorem dX10_makes_102 : decode cX10_makes 102 = .ok (.istore 6, 2) := by decide +kernel
theorem dX10_makes_104 : decode cX10_makes 104 = .ok (.iload 5, 2) := by decide +kernel
theorem dX10_makes_106 : decode cX10_makes 106 = .ok (.iload 6, 2) := by decide +kernel
theorem dX10_makes_108 : decode cX10_makes 108 = .ok (.if_icmp .le 7, 3) := by decide +kernel
theorem dX10_makes_111 : decode cX10_makes 111 = .ok (.iconst 0, 1) := by decide +kernel
theorem dX10_makes_112 : decode cX10_makes 112 = .ok (.goto 4, 3) := by decide +kernel
theorem dX10_makes_115 : decode cX10_makes 115 = .ok (.iconst 1, 1) := by decide +kernel
theorem dX10_makes_116 : decode cX10_makes 116 = .ok (.istore 7, 2) := by decide +kernel
theorem dX10_makes_118 : decode cX10_makes 118 = .ok (.iconst 1, 1) := by decide +kernel
theorem dX10_makes_119 : decode cX10_makes 119 = .ok (.aload_n 0, 1) := by decide +kernel
theorem dX10_makes_120 : decode cX10_makes 120 = .ok (.iload 7, 2) := by decide +kernel
theorem dX10_makes_122 : decode cX10_makes 122 = .ok (.ifCond .ne 8, 3) := by decide +kernel
theorem dX10_makes_125 : decode cX10_makes 125 = .ok (.iload 5, 2) := by decide +kernel
theorem dX10_makes_127 : decode cX10_makes 127 = .ok (.goto 5, 3) := by decide +kernel
theorem dX10_makes_130 : decode cX10_makes 130 = .ok (.iload 6, 2) := by decide +kernel
theorem dX10_makes_132 : decode cX10_makes 132 = .ok (.iconst 1, 1) := by decide +kernel
theorem dX10_makes_133 : decode cX10_makes 133 = .ok (.isub, 1) := by decide +kernel
theorem dX10_makes_134 : decode cX10_makes 134 = .ok (.invokevirtual 170, 3) := by decide +kernel
theorem dX10_makes_137 : decode cX10_makes 137 = .ok (.iadd, 1) := by decide +kernel
theorem dX10_makes_138 : decode cX10_makes 138 = .ok (.istore 8, 2) := by decide +kernel
theorem dX10_makes_140 : decode cX10_makes 140 = .ok (.iconst 0, 1) := by decide +kernel
theorem dX10_makes_141 : decode cX10_makes 141 = .ok (.istore 9, 2) := by decide +kernel
theorem dX10_makes_143 : decode cX10_makes 143 = .ok (.iload 9, 2) := by decide +kernel
theorem dX10_makes_145 : decode cX10_makes 145 = .ok (.iconst 4, 1) := by decide +kernel
theorem dX10_makes_146 : decode cX10_makes 146 = .ok (.if_icmp .ge 30, 3) := by decide +kernel
theorem dX10_makes_149 : decode cX10_makes 149 = .ok (.aload_n 0, 1) := by decide +kernel
theorem dX10_makes_150 : decode cX10_makes 150 = .ok (.getfield 63, 3) := by decide +kernel
theorem dX10_makes_153 : decode cX10_makes 153 = .ok (.iconst 4, 1) := by decide +kernel
theorem dX10_makes_154 : decode cX10_makes 154 = .ok (.iload_n 2, 1) := by decide +kernel
theorem dX10_makes_155 : decode cX10_makes 155 = .ok (.imul, 1) := by decide +kernel
theorem dX10_makes_156 : decode cX10_makes 156 = .ok (.iload 9, 2) := by decide +kernel
theorem dX10_makes_158 : decode cX10_makes 158 = .ok (.iadd, 1) := by decide +kernel
theorem dX10_makes_159 : decode cX10_makes 159 = .ok (.aload_n 0, 1) := by decide +kernel
theorem dX10_makes_160 : decode cX10_makes 160 = .ok (.getfield 63, 3) := by decide +kernel
theorem dX10_makes_163 : decode cX10_makes 163 = .ok (.iload 4, 2) := by decide +kernel
theorem dX10_makes_165 : decode cX10_makes 165 = .ok (.iload 9, 2) := by decide +kernel
theorem dX10_makes_167 : decode cX10_makes 167 = .ok (.iadd, 1) := by decide +kernel
theorem dX10_makes_168 : decode cX10_makes 168 = .ok (.iaload, 1) := by decide +kernel
theorem dX10_makes_169 : decode cX10_makes 169 = .ok (.iastore, 1) := by decide +kernel
theorem dX10_makes_170 : decode cX10_makes 170 = .ok (.iinc 9 1, 3) := by decide +kernel
theorem dX10_makes_173 : decode cX10_makes 173 = .ok (.goto (-30), 3) := by decide +kernel
theorem dX10_makes_176 : decode cX10_makes 176 = .ok (.aload_n 0, 1) := by decide +kernel
theorem dX10_makes_177 : decode cX10_makes 177 = .ok (.getfield 63, 3) := by decide +kernel
theorem dX10_makes_180 : decode cX10_makes 180 = .ok (.iload 4, 2) := by decide +kernel
theorem dX10_makes_182 : decode cX10_makes 182 = .ok (.iconst 2, 1) := by decide +kernel
theorem dX10_makes_183 : decode cX10_makes 183 = .ok (.iadd, 1) := by decide +kernel
theorem dX10_makes_184 : decode cX10_makes 184 = .ok (.iload 7, 2) := by decide +kernel
theorem dX10_makes_186 : decode cX10_makes 186 = .ok (.iadd, 1) := by decide +kernel
theorem dX10_makes_187 : decode cX10_makes 187 = .ok (.aload_n 0, 1) := by decide +kernel
theorem dX10_makes_188 : decode cX10_makes 188 = .ok (.getfield 63, 3) := by decide +kernel
theorem dX10_makes_191 : decode cX10_makes 191 = .ok (.iload 4, 2) := by decide +kernel
theorem dX10_makes_193 : decode cX10_makes 193 = .ok (.iload 7, 2) := by decide +kernel
theorem dX10_makes_195 : decode cX10_makes 195 = .ok (.iadd, 1) := by decide +kernel
theorem dX10_makes_196 : decode cX10_makes 196 = .ok (.iaload, 1) := by decide +kernel
theorem dX10_makes_197 : decode cX10_makes 197 = .ok (.iload 8, 2) := by decide +kernel
theorem dX10_makes_199 : decode cX10_makes 199 = .ok (.iadd, 1) := by decide +kernel
theorem dX10_makes_200 : decode cX10_makes 200 = .ok (.iconst 1, 1) := by decide +kernel
theorem dX10_makes_201 : decode cX10_makes 201 = .ok (.isub, 1) := by decide +kernel
theorem dX10_makes_202 : decode cX10_makes 202 = .ok (.iastore, 1) := by decide +kernel
theorem dX10_makes_203 : decode cX10_makes 203 = .ok (.aload_n 0, 1) := by decide +kernel
theorem dX10_makes_204 : decode cX10_makes 204 = .ok (.getfield 63, 3) := by decide +kernel
theorem dX10_makes_207 : decode cX10_makes 207 = .ok (.iconst 4, 1) := by decide +kernel
theorem dX10_makes_208 : decode cX10_makes 208 = .ok (.iload_n 2, 1) := by decide +kernel
theorem dX10_makes_209 : decode cX10_makes 209 = .ok (.imul, 1) := by decide +kernel
theorem dX10_makes_210 : decode cX10_makes 210 = .ok (.iload 7, 2) := by decide +kernel
theorem dX10_makes_212 : decode cX10_makes 212 = .ok (.iadd, 1) := by decide +kernel
theorem dX10_makes_213 : decode cX10_makes 213 = .ok (.aload_n 0, 1) := by decide +kernel
theorem dX10_makes_214 : decode cX10_makes 214 = .ok (.getfield 63, 3) := by decide +kernel
theorem dX10_makes_217 : decode cX10_makes 217 = .ok (.iload 4, 2) := by decide +kernel
theorem dX10_makes_219 : decode cX10_makes 219 = .ok (.iload 7, 2) := by decide +kernel
theorem dX10_makes_221 : decode cX10_makes 221 = .ok (.iadd, 1) := by decide +kernel
theorem dX10_makes_222 : decode cX10_makes 222 = .ok (.iaload, 1) := by decide +kernel
theorem dX10_makes_223 : decode cX10_makes 223 = .ok (.iload 8, 2) := by decide +kernel
theorem dX10_makes_225 : decode cX10_makes 225 = .ok (.iadd, 1) := by decide +kernel
theorem dX10_makes_226 : decode cX10_makes 226 = .ok (.iastore, 1) := by decide +kernel
theorem dX10_makes_227 : decode cX10_makes 227 = .ok (.iinc 2 1, 3) := by decide +kernel
theorem dX10_makes_230 : decode cX10_makes 230 = .ok (.goto 6, 3) := by decide +kernel
theorem dX10_makes_233 : decode cX10_makes 233 = .ok (.iinc 3 1, 3) := by decide +kernel
theorem dX10_makes_236 : decode cX10_makes 236 = .ok (.goto (-197), 3) := by decide +kernel
theorem dX10_makes_239 : decode cX10_makes 239 = .ok (.iconst 0, 1) := by decide +kernel
theorem dX10_makes_240 : decode cX10_makes 240 = .ok (.istore 4, 2) := by decide +kernel
theorem dX10_makes_242 : decode cX10_makes 242 = .ok (.iload 4, 2) := by decide +kernel
theorem dX10_makes_244 : decode cX10_makes 244 = .ok (.bipush 84, 2) := by decide +kernel
theorem dX10_makes_246 : decode cX10_makes 246 = .ok (.if_icmp .ge 17, 3) := by decide +kernel
theorem dX10_makes_249 : decode cX10_makes 249 = .ok (.aload_n 0, 1) := by decide +kernel
theorem dX10_makes_250 : decode cX10_makes 250 = .ok (.getfield 7, 3) := by decide +kernel
theorem dX10_makes_253 : decode cX10_makes 253 = .ok (.iload 4, 2) := by decide +kernel
theorem dX10_makes_255 : decode cX10_makes 255 = .ok (.iconst 0, 1) := by decide +kernel
theorem dX10_makes_256 : decode cX10_makes 256 = .ok (.iastore, 1) := by decide +kernel
theorem dX10_makes_257 : decode cX10_makes 257 = .ok (.iinc 4 1, 3) := by decide +kernel
theorem dX10_makes_260 : decode cX10_makes 260 = .ok (.goto (-18), 3) := by decide +kernel
theorem dX10_makes_263 : decode cX10_makes 263 = .ok (.iconst 0, 1) := by decide +kernel
theorem dX10_makes_264 : decode cX10_makes 264 = .ok (.istore 4, 2) := by decide +kernel
theorem dX10_makes_266 : decode cX10_makes 266 = .ok (.iload 4, 2) := by decide +kernel
theorem dX10_makes_268 : decode cX10_makes 268 = .ok (.iload_n 2, 1) := by decide +kernel
theorem dX10_makes_269 : decode cX10_makes 269 = .ok (.if_icmp .ge 99, 3) := by decide +kernel
theorem dX10_makes_272 : decode cX10_makes 272 = .ok (.aload_n 0, 1) := by decide +kernel
theorem dX10_makes_273 : decode cX10_makes 273 = .ok (.getfield 63, 3) := by decide +kernel
theorem dX10_makes_276 : decode cX10_makes 276 = .ok (.iconst 4, 1) := by decide +kernel
theorem dX10_makes_277 : decode cX10_makes 277 = .ok (.iload 4, 2) := by decide +kernel
theorem dX10_makes_279 : decode cX10_makes 279 = .ok (.imul, 1) := by decide +kernel
theorem dX10_makes_280 : decode cX10_makes 280 = .ok (.iconst 3, 1) := by decide +kernel
theorem dX10_makes_281 : decode cX10_makes 281 = .ok (.iadd, 1) := by decide +kernel
theorem dX10_makes_282 : decode cX10_makes 282 = .ok (.iaload, 1) := by decide +kernel
theorem dX10_makes_283 : decode cX10_makes 283 = .ok (.aload_n 0, 1) := by decide +kernel
theorem dX10_makes_284 : decode cX10_makes 284 = .ok (.getfield 63, 3) := by decide +kernel
theorem dX10_makes_287 : decode cX10_makes 287 = .ok (.iconst 4, 1) := by decide +kernel
theorem dX10_makes_288 : decode cX10_makes 288 = .ok (.iload 4, 2) := by decide +kernel
theorem dX10_makes_290 : decode cX10_makes 290 = .ok (.imul, 1) := by decide +kernel
theorem dX10_makes_291 : decode cX10_makes 291 = .ok (.iconst 1, 1) := by decide +kernel
theorem dX10_makes_292 : decode cX10_makes 292 = .ok (.iadd, 1) := by decide +kernel
theorem dX10_makes_293 : decode cX10_makes 293 = .ok (.iaload, 1) := by decide +kernel
theorem dX10_makes_294 : decode cX10_makes 294 = .ok (.isub, 1) := by decide +kernel
theorem dX10_makes_295 : decode cX10_makes 295 = .ok (.iconst 1, 1) := by decide +kernel
theorem dX10_makes_296 : decode cX10_makes 296 = .ok (.iadd, 1) := by decide +kernel
theorem dX10_makes_297 : decode cX10_makes 297 = .ok (.istore 5, 2) := by decide +kernel
theorem dX10_makes_299 : decode cX10_makes 299 = .ok (.aload_n 0, 1) := by decide +kernel
theorem dX10_makes_300 : decode cX10_makes 300 = .ok (.aload_n 0, 1) := by decide +kernel
theorem dX10_makes_301 : decode cX10_makes 301 = .ok (.iconst 4, 1) := by decide +kernel
theorem dX10_makes_302 : decode cX10_makes 302 = .ok (.iload 4, 2) := by decide +kernel
theorem dX10_makes_304 : decode cX10_makes 304 = .ok (.imul, 1) := by decide +kernel
theorem dX10_makes_305 : decode cX10_makes 305 = .ok (.invokevirtual 167, 3) := by decide +kernel
theorem dX10_makes_308 : decode cX10_makes 308 = .ok (.invokevirtual 170, 3) := by decide +kernel
theorem dX10_makes_311 : decode cX10_makes 311 = .ok (.istore 6, 2) := by decide +kernel
theorem dX10_makes_313 : decode cX10_makes 313 = .ok (.aload_n 0, 1) := by decide +kernel
theorem dX10_makes_314 : decode cX10_makes 314 = .ok (.getfield 7, 3) := by decide +kernel
theorem dX10_makes_317 : decode cX10_makes 317 = .ok (.bipush 7, 2) := by decide +kernel
theorem dX10_makes_319 : decode cX10_makes 319 = .ok (.aload_n 0, 1) := by decide +kernel
theorem dX10_makes_320 : decode cX10_makes 320 = .ok (.getfield 63, 3) := by decide +kernel
theorem dX10_makes_323 : decode cX10_makes 323 = .ok (.iconst 4, 1) := by decide +kernel
theorem dX10_makes_324 : decode cX10_makes 324 = .ok (.iload 4, 2) := by decide +kernel
theorem dX10_makes_326 : decode cX10_makes 326 = .ok (.imul, 1) := by decide +kernel
theorem dX10_makes_327 : decode cX10_makes 327 = .ok (.iaload, 1) := by decide +kernel
theorem dX10_makes_328 : decode cX10_makes 328 = .ok (.iload 6, 2) := by decide +kernel
theorem dX10_makes_330 : decode cX10_makes 330 = .ok (.iload 5, 2) := by decide +kernel
theorem dX10_makes_332 : decode cX10_makes 332 = .ok (.idiv, 1) := by decide +kernel
theorem dX10_makes_333 : decode cX10_makes 333 = .ok (.iadd, 1) := by decide +kernel
theorem dX10_makes_334 : decode cX10_makes 334 = .ok (.imul, 1) := by decide +kernel
theorem dX10_makes_335 : decode cX10_makes 335 = .ok (.aload_n 0, 1) := by decide +kernel
theorem dX10_makes_336 : decode cX10_makes 336 = .ok (.getfield 63, 3) := by decide +kernel
theorem dX10_makes_339 : decode cX10_makes 339 = .ok (.iconst 4, 1) := by decide +kernel
theorem dX10_makes_340 : decode cX10_makes 340 = .ok (.iload 4, 2) := by decide +kernel
theorem dX10_makes_342 : decode cX10_makes 342 = .ok (.imul, 1) := by decide +kernel
theorem dX10_makes_343 : decode cX10_makes 343 = .ok (.iconst 1, 1) := by decide +kernel
theorem dX10_makes_344 : decode cX10_makes 344 = .ok (.iadd, 1) := by decide +kernel
theorem dX10_makes_345 : decode cX10_makes 345 = .ok (.iaload, 1) := by decide +kernel
theorem dX10_makes_346 : decode cX10_makes 346 = .ok (.iadd, 1) := by decide +kernel
theorem dX10_makes_347 : decode cX10_makes 347 = .ok (.iload 6, 2) := by decide +kernel
theorem dX10_makes_349 : decode cX10_makes 349 = .ok (.iload 5, 2) := by decide +kernel
theorem dX10_makes_351 : decode cX10_makes 351 = .ok (.irem, 1) := by decide +kernel
theorem dX10_makes_352 : decode cX10_makes 352 = .ok (.iadd, 1) := by decide +kernel
theorem dX10_makes_353 : decode cX10_makes 353 = .ok (.aload_n 0, 1) := by decide +kernel
theorem dX10_makes_354 : decode cX10_makes 354 = .ok (.iconst 4, 1) := by decide +kernel
theorem dX10_makes_355 : decode cX10_makes 355 = .ok (.iload 4, 2) := by decide +kernel
theorem dX10_makes_357 : decode cX10_makes 357 = .ok (.imul, 1) := by decide +kernel
theorem dX10_makes_358 : decode cX10_makes 358 = .ok (.invokevirtual 167, 3) := by decide +kernel
theorem dX10_makes_361 : decode cX10_makes 361 = .ok (.iastore, 1) := by decide +kernel
theorem dX10_makes_362 : decode cX10_makes 362 = .ok (.iinc 4 1, 3) := by decide +kernel
theorem dX10_makes_365 : decode cX10_makes 365 = .ok (.goto (-99), 3) := by decide +kernel
theorem dX10_makes_368 : decode cX10_makes 368 = .ok (.iload_n 2, 1) := by decide +kernel
theorem dX10_makes_369 : decode cX10_makes 369 = .ok (.ireturn, 1) := by decide +kernel
set_option maxRecDepth 20000 in
theorem ggX10_isRectangle_X10_isCell : GoodIn wsX10_isRectangle wsX10_isCell := goodIn_r _ [4, 5, 6, 3, 7] (by decide +kernel) (by decide +kernel)
set_option maxRecDepth 20000 in
theorem gX10_isRectangle_X10_isCell : GoodIn wsX10_isRectangle (va_wsS RX10 141 yX10_isCell wsX10_isCell) := goodIn_app (goodIn_of _ (by decide +kernel)) ggX10_isRectangle_X10_isCell
set_option maxRecDepth 20000 in
theorem ggX10_isRectangle_X10_in : GoodIn wsX10_isRectangle wsX10_in := goodIn_r _ [7] (by decide +kernel) (by decide +kernel)
set_option maxRecDepth 20000 in
theorem gX10_isRectangle_X10_in : GoodIn wsX10_isRectangle (va_wsS RX10 73 yX10_in wsX10_in) := goodIn_app (goodIn_of _ (by decide +kernel)) ggX10_isRectangle_X10_in
theorem dX10_isRectangle_0 : decode cX10_isRectangle 0 = .ok (.iload_n 0, 1) := by decide +kernel
theorem dX10_isRectangle_1 : decode cX10_isRectangle 1 = .ok (.iload_n 1, 1) := by decide +kernel
theorem dX10_isRectangle_2 : decode cX10_isRectangle 2 = .ok (.invokestatic 141, 3) := by decide +kernel
theorem dX10_isRectangle_5 : decode cX10_isRectangle 5 = .ok (.ifCond .eq 26, 3) := by decide +kernel
theorem dX10_isRectangle_8 : decode cX10_isRectangle 8 = .ok (.iload_n 2, 1) := by decide +kernel
theorem dX10_isRectangle_9 : decode cX10_isRectangle 9 = .ok (.iload_n 0, 1) := by decide +kernel
theorem dX10_isRectangle_10 : decode cX10_isRectangle 10 = .ok (.iconst 5, 1) := by decide +kernel
theorem dX10_isRectangle_11 : decode cX10_isRectangle 11 = .ok (.invokestatic 73, 3) := by decide +kernel
theorem dX10_isRectangle_14 : decode cX10_isRectangle 14 = .ok (.ifCond .eq 17, 3) := by decide +kernel
theorem dX10_isRectangle_17 : decode cX10_isRectangle 17 = .ok (.iload_n 3, 1) := by decide +kernel
theorem dX10_isRectangle_18 : decode cX10_isRectangle 18 = .ok (.iload_n 1, 1) := by decide +kernel
theorem dX10_isRectangle_19 : decode cX10_isRectangle 19 = .ok (.bipush 6, 2) := by decide +kernel
theorem dX10_isRectangle_21 : decode cX10_isRectangle 21 = .ok (.invokestatic 73, 3) := by decide +kernel
theorem dX10_isRectangle_24 : decode cX10_isRectangle 24 = .ok (.ifCond .eq 7, 3) := by decide +kernel
theorem dX10_isRectangle_27 : decode cX10_isRectangle 27 = .ok (.iconst 1, 1) := by decide +kernel
theorem dX10_isRectangle_28 : decode cX10_isRectangle 28 = .ok (.goto 4, 3) := by decide +kernel
theorem dX10_isRectangle_31 : decode cX10_isRectangle 31 = .ok (.iconst 0, 1) := by decide +kernel
theorem dX10_isRectangle_32 : decode cX10_isRectangle 32 = .ok (.ireturn, 1) := by decide +kernel
set_option maxRecDepth 20000 in
theorem ggX10_draw_X10_isRectangle : GoodIn wsX10_draw wsX10_isRectangle := goodIn_r _ [5, 6, 7, 4, 8, 9, 10, 11] (by decide +kernel) (by decide +kernel)
set_option maxRecDepth 20000 in
theorem gX10_draw_X10_isRectangle : GoodIn wsX10_draw (va_wsS RX10 173 yX10_isRectangle wsX10_isRectangle) := goodIn_app (goodIn_of _ (by decide +kernel)) ggX10_draw_X10_isRectangle
set_option maxRecDepth 20000 in
theorem ggX10_draw_X10_throwing : GoodIn wsX10_draw wsX10_throwing := goodIn_r _ [15, 1, 51, 52, 53, 54, 55, 56, 57, 58, 59, 60, 61, 62, 63, 64, 65, 66, 67, 68, 69, 70, 71, 72, 73, 74, 75, 76] (by decide +kernel) (by decide +kernel)
set_option maxRecDepth 20000 in
theorem gX10_draw_X10_throwing : GoodIn wsX10_draw (wsV RX10 161 RX10 yX10_throwing wsX10_throwing) := goodIn_app (goodIn_of _ (by decide +kernel)) ggX10_draw_X10_throwing
set_option maxRecDepth 20000 in
theorem ggX10_draw_X10_rectangle : GoodIn wsX10_draw wsX10_rectangle := goodIn_r _ [18] (by decide +kernel) (by decide +kernel)
set_option maxRecDepth 20000 in
theorem gX10_draw_X10_rectangle : GoodIn wsX10_draw (va_wsS RX10 98 yX10_rectangle wsX10_rectangle) := goodIn_app (goodIn_of _ (by decide +kernel)) ggX10_draw_X10_rectangle
set_option maxRecDepth 20000 in
theorem ggX10_draw_X10_against : GoodIn wsX10_draw wsX10_against := goodIn_r _ [22, 23, 24, 25, 26, 4, 27, 28, 29, 30, 31, 32, 33, 34, 35, 36, 37, 38, 39, 40, 51, 52, 53, 54, 55, 56, 57, 58, 59, 60, 61, 62, 63, 64, 65, 66, 67, 68, 69, 70, 71, 72, 73, 74, 75, 76] (by decide +kernel) (by decide +kernel)
set_option maxRecDepth 20000 in
theorem gX10_draw_X10_against : GoodIn wsX10_draw (wsV RX10 177 RX10 yX10_against wsX10_against) := goodIn_app (goodIn_of _ (by decide +kernel)) ggX10_draw_X10_against
set_option maxRecDepth 20000 in
theorem ggX10_draw_X10_save : GoodIn wsX10_draw wsX10_save := goodIn_r _ [44, 45, 46, 23, 51, 52, 53, 54, 55, 56, 57, 58, 59, 60, 61, 62, 63, 64, 65, 66, 67, 68, 69, 70, 71, 72, 73, 74, 75, 76] (by decide +kernel) (by decide +kernel)
set_option maxRecDepth 20000 in
theorem gX10_draw_X10_save : GoodIn wsX10_draw (wsV RX10 145 RX10 yX10_save wsX10_save) := goodIn_app (goodIn_of _ (by decide +kernel)) ggX10_draw_X10_save
set_option maxRecDepth 20000 in
theorem ggX10_draw_X10_draws : GoodIn wsX10_draw wsX10_draws := goodIn_r _ [50, 23, 38, 39, 4, 40, 35, 36, 37, 51, 52, 53, 54, 55, 56, 57, 58, 59, 60, 61, 62, 63, 64, 65, 66, 67, 68, 69, 70, 71, 72, 73, 74, 75, 76] (by decide +kernel) (by decide +kernel)
set_option maxRecDepth 20000 in
theorem gX10_draw_X10_draws : GoodIn wsX10_draw (wsV RX10 180 RX10 yX10_draws wsX10_draws) := goodIn_app (goodIn_of _ (by decide +kernel)) ggX10_draw_X10_draws
set_option maxRecDepth 20000 in
theorem ggX10_draw_X10_taken : GoodIn wsX10_draw wsX10_taken := goodIn_r _ [31, 23, 51, 52, 53, 54, 55, 56, 57, 58, 59, 60, 61, 62, 63, 64, 65, 66, 67, 68, 69, 70, 71, 72, 73, 74, 75, 76] (by decide +kernel) (by decide +kernel)
set_option maxRecDepth 20000 in
theorem gX10_draw_X10_taken : GoodIn wsX10_draw (wsV RX10 88 RX10 yX10_taken wsX10_taken) := goodIn_app (goodIn_of _ (by decide +kernel)) ggX10_draw_X10_taken
set_option maxRecDepth 20000 in
theorem ggX10_draw_X10_bits : GoodIn wsX10_draw wsX10_bits := goodIn_r _ [34, 35, 36, 4, 37] (by decide +kernel) (by decide +kernel)
set_option maxRecDepth 20000 in
theorem gX10_draw_X10_bits : GoodIn wsX10_draw (va_wsS RX10 91 yX10_bits wsX10_bits) := goodIn_app (goodIn_of _ (by decide +kernel)) ggX10_draw_X10_bits
theorem dX10_draw_0 : decode cX10_draw 0 = .ok (.aload_n 0, 1) := by decide +kernel
theorem dX10_draw_1 : decode cX10_draw 1 = .ok (.iconst 0, 1) := by decide +kernel
theorem dX10_draw_2 : decode cX10_draw 2 = .ok (.putfield 69, 3) := by decide +kernel
theorem dX10_draw_5 : decode cX10_draw 5 = .ok (.iload_n 1, 1) := by decide +kernel
theorem dX10_draw_6 : decode cX10_draw 6 = .ok (.iload_n 2, 1) := by decide +kernel
theorem dX10_draw_7 : decode cX10_draw 7 = .ok (.iload_n 3, 1) := by decide +kernel
theorem dX10_draw_8 : decode cX10_draw 8 = .ok (.iload 4, 2) := by decide +kernel
theorem dX10_draw_10 : decode cX10_draw 10 = .ok (.invokestatic 173, 3) := by decide +kernel
theorem dX10_draw_13 : decode cX10_draw 13 = .ok (.ifCond .ne 9, 3) := by decide +kernel
theorem dX10_draw_16 : decode cX10_draw 16 = .ok (.aload_n 0, 1) := by decide +kernel
theorem dX10_draw_17 : decode cX10_draw 17 = .ok (.iconst 1, 1) := by decide +kernel
theorem dX10_draw_18 : decode cX10_draw 18 = .ok (.invokevirtual 161, 3) := by decide +kernel
theorem dX10_draw_21 : decode cX10_draw 21 = .ok (.ireturn, 1) := by decide +kernel
theorem dX10_draw_22 : decode cX10_draw 22 = .ok (.aload_n 0, 1) := by decide +kernel
theorem dX10_draw_23 : decode cX10_draw 23 = .ok (.iload_n 1, 1) := by decide +kernel
theorem dX10_draw_24 : decode cX10_draw 24 = .ok (.iload_n 2, 1) := by decide +kernel
theorem dX10_draw_25 : decode cX10_draw 25 = .ok (.iload_n 3, 1) := by decide +kernel
theorem dX10_draw_26 : decode cX10_draw 26 = .ok (.iload 4, 2) := by decide +kernel
theorem dX10_draw_28 : decode cX10_draw 28 = .ok (.invokestatic 98, 3) := by decide +kernel
theorem dX10_draw_31 : decode cX10_draw 31 = .ok (.invokevirtual 177, 3) := by decide +kernel
theorem dX10_draw_34 : decode cX10_draw 34 = .ok (.ifCond .eq 9, 3) := by decide +kernel
theorem dX10_draw_37 : decode cX10_draw 37 = .ok (.aload_n 0, 1) := by decide +kernel
theorem dX10_draw_38 : decode cX10_draw 38 = .ok (.iconst 2, 1) := by decide +kernel
theorem dX10_draw_39 : decode cX10_draw 39 = .ok (.invokevirtual 161, 3) := by decide +kernel
theorem dX10_draw_42 : decode cX10_draw 42 = .ok (.ireturn, 1) := by decide +kernel
theorem dX10_draw_43 : decode cX10_draw 43 = .ok (.aload_n 0, 1) := by decide +kernel
theorem dX10_draw_44 : decode cX10_draw 44 = .ok (.invokevirtual 145, 3) := by decide +kernel
theorem dX10_draw_47 : decode cX10_draw 47 = .ok (.aload_n 0, 1) := by decide +kernel
theorem dX10_draw_48 : decode cX10_draw 48 = .ok (.iload_n 1, 1) := by decide +kernel
theorem dX10_draw_49 : decode cX10_draw 49 = .ok (.iload_n 2, 1) := by decide +kernel
theorem dX10_draw_50 : decode cX10_draw 50 = .ok (.iload_n 3, 1) := by decide +kernel
theorem dX10_draw_51 : decode cX10_draw 51 = .ok (.iload 4, 2) := by decide +kernel
theorem dX10_draw_53 : decode cX10_draw 53 = .ok (.invokestatic 98, 3) := by decide +kernel
theorem dX10_draw_56 : decode cX10_draw 56 = .ok (.invokevirtual 180, 3) := by decide +kernel
theorem dX10_draw_59 : decode cX10_draw 59 = .ok (.aload_n 0, 1) := by decide +kernel
theorem dX10_draw_60 : decode cX10_draw 60 = .ok (.invokevirtual 88, 3) := by decide +kernel
theorem dX10_draw_63 : decode cX10_draw 63 = .ok (.invokestatic 91, 3) := by decide +kernel
theorem dX10_draw_66 : decode cX10_draw 66 = .ok (.ireturn, 1) := by decide +kernel
set_option maxRecDepth 20000 in
theorem ggX10_isThere_X10_isCell : GoodIn wsX10_isThere wsX10_isCell := goodIn_r _ [6, 7, 8, 5, 9] (by decide +kernel) (by decide +kernel)
set_option maxRecDepth 20000 in
theorem gX10_isThere_X10_isCell : GoodIn wsX10_isThere (va_wsS RX10 141 yX10_isCell wsX10_isCell) := goodIn_app (goodIn_of _ (by decide +kernel)) ggX10_isThere_X10_isCell
theorem dX10_isThere_0 : decode cX10_isThere 0 = .ok (.aload_n 0, 1) := by decide +kernel
theorem dX10_isThere_1 : decode cX10_isThere 1 = .ok (.iload_n 1, 1) := by decide +kernel
theorem dX10_isThere_2 : decode cX10_isThere 2 = .ok (.iload_n 2, 1) := by decide +kernel
theorem dX10_isThere_3 : decode cX10_isThere 3 = .ok (.invokestatic 141, 3) := by decide +kernel
theorem dX10_isThere_6 : decode cX10_isThere 6 = .ok (.ifCond .ne 7, 3) := by decide +kernel
theorem dX10_isThere_9 : decode cX10_isThere 9 = .ok (.iconst 1, 1) := by decide +kernel
theorem dX10_isThere_10 : decode cX10_isThere 10 = .ok (.goto 29, 3) := by decide +kernel
theorem dX10_isThere_13 : decode cX10_isThere 13 = .ok (.iload_n 3, 1) := by decide +kernel
theorem dX10_isThere_14 : decode cX10_isThere 14 = .ok (.ifCond .eq 24, 3) := by decide +kernel
theorem dX10_isThere_17 : decode cX10_isThere 17 = .ok (.aload_n 0, 1) := by decide +kernel
theorem dX10_isThere_18 : decode cX10_isThere 18 = .ok (.getfield 7, 3) := by decide +kernel
theorem dX10_isThere_21 : decode cX10_isThere 21 = .ok (.bipush 42, 2) := by decide +kernel
theorem dX10_isThere_23 : decode cX10_isThere 23 = .ok (.bipush 7, 2) := by decide +kernel
theorem dX10_isThere_25 : decode cX10_isThere 25 = .ok (.iload_n 1, 1) := by decide +kernel
theorem dX10_isThere_26 : decode cX10_isThere 26 = .ok (.imul, 1) := by decide +kernel
theorem dX10_isThere_27 : decode cX10_isThere 27 = .ok (.iadd, 1) := by decide +kernel
theorem dX10_isThere_28 : decode cX10_isThere 28 = .ok (.iload_n 2, 1) := by decide +kernel
theorem dX10_isThere_29 : decode cX10_isThere 29 = .ok (.iadd, 1) := by decide +kernel
theorem dX10_isThere_30 : decode cX10_isThere 30 = .ok (.iaload, 1) := by decide +kernel
theorem dX10_isThere_31 : decode cX10_isThere 31 = .ok (.ifCond .ne 7, 3) := by decide +kernel
theorem dX10_isThere_34 : decode cX10_isThere 34 = .ok (.iconst 2, 1) := by decide +kernel
theorem dX10_isThere_35 : decode cX10_isThere 35 = .ok (.goto 4, 3) := by decide +kernel
theorem dX10_isThere_38 : decode cX10_isThere 38 = .ok (.iconst 0, 1) := by decide +kernel
theorem dX10_isThere_39 : decode cX10_isThere 39 = .ok (.putfield 69, 3) := by decide +kernel
theorem dX10_isThere_42 : decode cX10_isThere 42 = .ok (.aload_n 0, 1) := by decide +kernel
theorem dX10_isThere_43 : decode cX10_isThere 43 = .ok (.getfield 69, 3) := by decide +kernel
theorem dX10_isThere_46 : decode cX10_isThere 46 = .ok (.ifCond .ne 7, 3) := by decide +kernel
theorem dX10_isThere_49 : decode cX10_isThere 49 = .ok (.iconst 1, 1) := by decide +kernel
theorem dX10_isThere_50 : decode cX10_isThere 50 = .ok (.goto 4, 3) := by decide +kernel
theorem dX10_isThere_53 : decode cX10_isThere 53 = .ok (.iconst 0, 1) := by decide +kernel
theorem dX10_isThere_54 : decode cX10_isThere 54 = .ok (.ireturn, 1) := by decide +kernel
set_option maxRecDepth 20000 in
theorem ggX10_erase_X10_isThere : GoodIn wsX10_erase wsX10_isThere := goodIn_r _ [6, 1, 7, 8, 9, 5, 10, 11, 12, 13, 30, 31, 32, 33, 34, 35, 36, 37, 38, 39, 40, 41, 42, 43, 44, 45, 46, 47, 48, 49, 50, 51, 52, 53, 54, 55] (by decide +kernel) (by decide +kernel)
set_option maxRecDepth 20000 in
theorem gX10_erase_X10_isThere : GoodIn wsX10_erase (wsV RX10 184 RX10 yX10_isThere wsX10_isThere) := goodIn_app (goodIn_of _ (by decide +kernel)) ggX10_erase_X10_isThere
set_option maxRecDepth 20000 in
theorem ggX10_erase_X10_save : GoodIn wsX10_erase wsX10_save := goodIn_r _ [17, 18, 19, 1, 30, 31, 32, 33, 34, 35, 36, 37, 38, 39, 40, 41, 42, 43, 44, 45, 46, 47, 48, 49, 50, 51, 52, 53, 54, 55] (by decide +kernel) (by decide +kernel)
set_option maxRecDepth 20000 in
theorem gX10_erase_X10_save : GoodIn wsX10_erase (wsV RX10 145 RX10 yX10_save wsX10_save) := goodIn_app (goodIn_of _ (by decide +kernel)) ggX10_erase_X10_save
set_option maxRecDepth 20000 in
theorem ggX10_erase_X10_fieldOf : GoodIn wsX10_erase wsX10_fieldOf := goodIn_r _ [23, 1, 30, 31, 32, 33, 34, 35, 36, 37, 38, 39, 40, 41, 42, 43, 44, 45, 46, 47, 48, 49, 50, 51, 52, 53, 54, 55] (by decide +kernel) (by decide +kernel)
set_option maxRecDepth 20000 in
theorem gX10_erase_X10_fieldOf : GoodIn wsX10_erase (wsV RX10 133 RX10 yX10_fieldOf wsX10_fieldOf) := goodIn_app (goodIn_of _ (by decide +kernel)) ggX10_erase_X10_fieldOf
set_option maxRecDepth 20000 in
theorem ggX10_erase_X10_has : GoodIn wsX10_erase wsX10_has := goodIn_r _ [26] (by decide +kernel) (by decide +kernel)
set_option maxRecDepth 20000 in
theorem gX10_erase_X10_has : GoodIn wsX10_erase (va_wsS RX10 80 yX10_has wsX10_has) := goodIn_app (goodIn_of _ (by decide +kernel)) ggX10_erase_X10_has
set_option maxRecDepth 20000 in
theorem ggX10_erase_X10_bits : GoodIn wsX10_erase wsX10_bits := goodIn_r _ [29, 24, 25, 5, 26] (by decide +kernel) (by decide +kernel)
set_option maxRecDepth 20000 in
theorem gX10_erase_X10_bits : GoodIn wsX10_erase (va_wsS RX10 91 yX10_bits wsX10_bits) := goodIn_app (goodIn_of _ (by decide +kernel)) ggX10_erase_X10_bits
theorem dX10_erase_0 : decode cX10_erase 0 = .ok (.aload_n 0, 1) := by decide +kernel
theorem dX10_erase_1 : decode cX10_erase 1 = .ok (.iload_n 1, 1) := by decide +kernel
theorem dX10_erase_2 : decode cX10_erase 2 = .ok (.iload_n 2, 1) := by decide +kernel
theorem dX10_erase_3 : decode cX10_erase 3 = .ok (.iconst 1, 1) := by decide +kernel
theorem dX10_erase_4 : decode cX10_erase 4 = .ok (.invokevirtual 184, 3) := by decide +kernel
theorem dX10_erase_7 : decode cX10_erase 7 = .ok (.ifCond .ne 5, 3) := by decide +kernel
theorem dX10_erase_10 : decode cX10_erase 10 = .ok (.iconst 0, 1) := by decide +kernel
theorem dX10_erase_11 : decode cX10_erase 11 = .ok (.ireturn, 1) := by decide +kernel
theorem dX10_erase_12 : decode cX10_erase 12 = .ok (.aload_n 0, 1) := by decide +kernel
theorem dX10_erase_13 : decode cX10_erase 13 = .ok (.invokevirtual 145, 3) := by decide +kernel
theorem dX10_erase_16 : decode cX10_erase 16 = .ok (.aload_n 0, 1) := by decide +kernel
theorem dX10_erase_17 : decode cX10_erase 17 = .ok (.bipush 7, 2) := by decide +kernel
theorem dX10_erase_19 : decode cX10_erase 19 = .ok (.iload_n 1, 1) := by decide +kernel
theorem dX10_erase_20 : decode cX10_erase 20 = .ok (.imul, 1) := by decide +kernel
theorem dX10_erase_21 : decode cX10_erase 21 = .ok (.iload_n 2, 1) := by decide +kernel
theorem dX10_erase_22 : decode cX10_erase 22 = .ok (.iadd, 1) := by decide +kernel
theorem dX10_erase_23 : decode cX10_erase 23 = .ok (.invokevirtual 133, 3) := by decide +kernel
theorem dX10_erase_26 : decode cX10_erase 26 = .ok (.lstore_n 3, 1) := by decide +kernel
theorem dX10_erase_27 : decode cX10_erase 27 = .ok (.iconst 0, 1) := by decide +kernel
theorem dX10_erase_28 : decode cX10_erase 28 = .ok (.istore 5, 2) := by decide +kernel
theorem dX10_erase_30 : decode cX10_erase 30 = .ok (.iload 5, 2) := by decide +kernel
theorem dX10_erase_32 : decode cX10_erase 32 = .ok (.bipush 42, 2) := by decide +kernel
theorem dX10_erase_34 : decode cX10_erase 34 = .ok (.if_icmp .ge 42, 3) := by decide +kernel
theorem dX10_erase_37 : decode cX10_erase 37 = .ok (.aload_n 0, 1) := by decide +kernel
theorem dX10_erase_38 : decode cX10_erase 38 = .ok (.getfield 7, 3) := by decide +kernel
theorem dX10_erase_41 : decode cX10_erase 41 = .ok (.bipush 42, 2) := by decide +kernel
theorem dX10_erase_43 : decode cX10_erase 43 = .ok (.iload 5, 2) := by decide +kernel
theorem dX10_erase_45 : decode cX10_erase 45 = .ok (.iadd, 1) := by decide +kernel
theorem dX10_erase_46 : decode cX10_erase 46 = .ok (.lload_n 3, 1) := by decide +kernel
theorem dX10_erase_47 : decode cX10_erase 47 = .ok (.iload 5, 2) := by decide +kernel
theorem dX10_erase_49 : decode cX10_erase 49 = .ok (.invokestatic 80, 3) := by decide +kernel
theorem dX10_erase_52 : decode cX10_erase 52 = .ok (.ifCond .eq 7, 3) := by decide +kernel
theorem dX10_erase_55 : decode cX10_erase 55 = .ok (.iconst 0, 1) := by decide +kernel
theorem dX10_erase_56 : decode cX10_erase 56 = .ok (.goto 13, 3) := by decide +kernel
theorem dX10_erase_59 : decode cX10_erase 59 = .ok (.aload_n 0, 1) := by decide +kernel
theorem dX10_erase_60 : decode cX10_erase 60 = .ok (.getfield 7, 3) := by decide +kernel
theorem dX10_erase_63 : decode cX10_erase 63 = .ok (.bipush 42, 2) := by decide +kernel
theorem dX10_erase_65 : decode cX10_erase 65 = .ok (.iload 5, 2) := by decide +kernel
theorem dX10_erase_67 : decode cX10_erase 67 = .ok (.iadd, 1) := by decide +kernel
theorem dX10_erase_68 : decode cX10_erase 68 = .ok (.iaload, 1) := by decide +kernel
theorem dX10_erase_69 : decode cX10_erase 69 = .ok (.iastore, 1) := by decide +kernel
theorem dX10_erase_70 : decode cX10_erase 70 = .ok (.iinc 5 1, 3) := by decide +kernel
theorem dX10_erase_73 : decode cX10_erase 73 = .ok (.goto (-43), 3) := by decide +kernel
theorem dX10_erase_76 : decode cX10_erase 76 = .ok (.lload_n 3, 1) := by decide +kernel
theorem dX10_erase_77 : decode cX10_erase 77 = .ok (.invokestatic 91, 3) := by decide +kernel
theorem dX10_erase_80 : decode cX10_erase 80 = .ok (.ireturn, 1) := by decide +kernel
set_option maxRecDepth 20000 in
theorem ggX10_eraseAll_X10_save : GoodIn wsX10_eraseAll wsX10_save := goodIn_r _ [7, 8, 9, 2, 14, 15, 16, 17, 18, 19, 20, 21, 22, 23, 24, 25, 26, 27, 28, 29, 30, 31, 32, 33, 34, 35, 36, 37, 38, 39] (by decide +kernel) (by decide +kernel)
set_option maxRecDepth 20000 in
theorem gX10_eraseAll_X10_save : GoodIn wsX10_eraseAll (wsV RX10 145 RX10 yX10_save wsX10_save) := goodIn_app (goodIn_of _ (by decide +kernel)) ggX10_eraseAll_X10_save
set_option maxRecDepth 20000 in
theorem ggX10_eraseAll_X10_allFields : GoodIn wsX10_eraseAll wsX10_allFields := goodIn_r _ [13, 2, 14, 15, 16, 17, 18, 19, 20, 21, 22, 23, 24, 25, 26, 27, 28, 29, 30, 31, 32, 33, 34, 35, 36, 37, 38, 39] (by decide +kernel) (by decide +kernel)
set_option maxRecDepth 20000 in
theorem gX10_eraseAll_X10_allFields : GoodIn wsX10_eraseAll (wsV RX10 188 RX10 yX10_allFields wsX10_allFields) := goodIn_app (goodIn_of _ (by decide +kernel)) ggX10_eraseAll_X10_allFields
theorem dX10_eraseAll_0 : decode cX10_eraseAll 0 = .ok (.aload_n 0, 1) := by decide +kernel
theorem dX10_eraseAll_1 : decode cX10_eraseAll 1 = .ok (.iconst 0, 1) := by decide +kernel
theorem dX10_eraseAll_2 : decode cX10_eraseAll 2 = .ok (.putfield 69, 3) := by decide +kernel
theorem dX10_eraseAll_5 : decode cX10_eraseAll 5 = .ok (.aload_n 0, 1) := by decide +kernel
theorem dX10_eraseAll_6 : decode cX10_eraseAll 6 = .ok (.invokevirtual 145, 3) := by decide +kernel
theorem dX10_eraseAll_9 : decode cX10_eraseAll 9 = .ok (.aload_n 0, 1) := by decide +kernel
theorem dX10_eraseAll_10 : decode cX10_eraseAll 10 = .ok (.invokevirtual 188, 3) := by decide +kernel
theorem dX10_eraseAll_13 : decode cX10_eraseAll 13 = .ok (.istore_n 1, 1) := by decide +kernel
theorem dX10_eraseAll_14 : decode cX10_eraseAll 14 = .ok (.iconst 0, 1) := by decide +kernel
theorem dX10_eraseAll_15 : decode cX10_eraseAll 15 = .ok (.istore_n 2, 1) := by decide +kernel
theorem dX10_eraseAll_16 : decode cX10_eraseAll 16 = .ok (.iload_n 2, 1) := by decide +kernel
theorem dX10_eraseAll_17 : decode cX10_eraseAll 17 = .ok (.bipush 42, 2) := by decide +kernel
theorem dX10_eraseAll_19 : decode cX10_eraseAll 19 = .ok (.if_icmp .ge 19, 3) := by decide +kernel
theorem dX10_eraseAll_22 : decode cX10_eraseAll 22 = .ok (.aload_n 0, 1) := by decide +kernel
theorem dX10_eraseAll_23 : decode cX10_eraseAll 23 = .ok (.getfield 7, 3) := by decide +kernel
theorem dX10_eraseAll_26 : decode cX10_eraseAll 26 = .ok (.bipush 42, 2) := by decide +kernel
theorem dX10_eraseAll_28 : decode cX10_eraseAll 28 = .ok (.iload_n 2, 1) := by decide +kernel
theorem dX10_eraseAll_29 : decode cX10_eraseAll 29 = .ok (.iadd, 1) := by decide +kernel
theorem dX10_eraseAll_30 : decode cX10_eraseAll 30 = .ok (.iconst 0, 1) := by decide +kernel
theorem dX10_eraseAll_31 : decode cX10_eraseAll 31 = .ok (.iastore, 1) := by decide +kernel
theorem dX10_eraseAll_32 : decode cX10_eraseAll 32 = .ok (.iinc 2 1, 3) := by decide +kernel
theorem dX10_eraseAll_35 : decode cX10_eraseAll 35 = .ok (.goto (-19), 3) := by decide +kernel
theorem dX10_eraseAll_38 : decode cX10_eraseAll 38 = .ok (.iload_n 1, 1) := by decide +kernel
theorem dX10_eraseAll_39 : decode cX10_eraseAll 39 = .ok (.ireturn, 1) := by decide +kernel
set_option maxRecDepth 20000 in
theorem ggX10_settle_X10_rules : GoodIn wsX10_settle wsX10_rules := goodIn_r _ [11, 2, 4, 12, 3, 13, 14, 15, 10, 16, 17, 18, 19, 20, 21, 22, 23, 24, 25, 26, 27, 28, 29, 30, 6, 5, 31, 32, 33, 34, 35, 36, 37, 38, 39, 40, 41, 42, 43, 44, 45, 46, 83, 84, 85, 86, 87, 88, 89, 90, 91, 92, 93, 94, 95, 96, 97, 98, 99, 100, 101, 102, 103, 104, 105, 106, 107, 108] (by decide +kernel) (by decide +kernel)
set_option maxRecDepth 20000 in
theorem gX10_settle_X10_rules : GoodIn wsX10_settle (wsV RX10 192 RX10 yX10_rules wsX10_rules) := goodIn_app (goodIn_of _ (by decide +kernel)) ggX10_settle_X10_rules
set_option maxRecDepth 20000 in
theorem ggX10_settle_X10_isAgainst : GoodIn wsX10_settle wsX10_isAgainst := goodIn_r _ [50, 41, 18, 40, 23, 24, 25, 10, 26, 83, 84, 85, 86, 87, 88, 89, 90, 91, 92, 93, 94, 95, 96, 97, 98, 99, 100, 101, 102, 103, 104, 105, 106, 107, 108] (by decide +kernel) (by decide +kernel)
set_option maxRecDepth 20000 in
theorem gX10_settle_X10_isAgainst : GoodIn wsX10_settle (wsV RX10 195 RX10 yX10_isAgainst wsX10_isAgainst) := goodIn_app (goodIn_of _ (by decide +kernel)) ggX10_settle_X10_isAgainst
set_option maxRecDepth 20000 in
theorem ggX10_settle_X10_throwing : GoodIn wsX10_settle wsX10_throwing := goodIn_r _ [54, 1, 83, 84, 85, 86, 87, 88, 89, 90, 91, 92, 93, 94, 95, 96, 97, 98, 99, 100, 101, 102, 103, 104, 105, 106, 107, 108] (by decide +kernel) (by decide +kernel)
set_option maxRecDepth 20000 in
theorem gX10_settle_X10_throwing : GoodIn wsX10_settle (wsV RX10 161 RX10 yX10_throwing wsX10_throwing) := goodIn_app (goodIn_of _ (by decide +kernel)) ggX10_settle_X10_throwing
set_option maxRecDepth 20000 in
theorem ggX10_settle_X10_save : GoodIn wsX10_settle wsX10_save := goodIn_r _ [58, 59, 60, 18, 83, 84, 85, 86, 87, 88, 89, 90, 91, 92, 93, 94, 95, 96, 97, 98, 99, 100, 101, 102, 103, 104, 105, 106, 107, 108] (by decide +kernel) (by decide +kernel)
set_option maxRecDepth 20000 in
theorem gX10_settle_X10_save : GoodIn wsX10_settle (wsV RX10 145 RX10 yX10_save wsX10_save) := goodIn_app (goodIn_of _ (by decide +kernel)) ggX10_settle_X10_save
set_option maxRecDepth 20000 in
theorem ggX10_settle_X10_sure : GoodIn wsX10_settle wsX10_sure := goodIn_r _ [64, 65, 66, 67, 10, 68, 18, 69, 70, 71, 72, 2, 5, 4, 83, 84, 85, 86, 87, 88, 89, 90, 91, 92, 93, 94, 95, 96, 97, 98, 99, 100, 101, 102, 103, 104, 105, 106, 107, 108] (by decide +kernel) (by decide +kernel)
set_option maxRecDepth 20000 in
theorem gX10_settle_X10_sure : GoodIn wsX10_settle (wsV RX10 199 RX10 yX10_sure wsX10_sure) := goodIn_app (goodIn_of _ (by decide +kernel)) ggX10_settle_X10_sure
set_option maxRecDepth 20000 in
theorem ggX10_settle_X10_leftIn : GoodIn wsX10_settle wsX10_leftIn := goodIn_r _ [72, 2, 5, 4, 83, 84, 85, 86, 87, 88, 89, 90, 91, 92, 93, 94, 95, 96, 97, 98, 99, 100, 101, 102, 103, 104, 105, 106, 107, 108] (by decide +kernel) (by decide +kernel)
set_option maxRecDepth 20000 in
theorem gX10_settle_X10_leftIn : GoodIn wsX10_settle (wsV RX10 126 RX10 yX10_leftIn wsX10_leftIn) := goodIn_app (goodIn_of _ (by decide +kernel)) ggX10_settle_X10_leftIn
set_option maxRecDepth 20000 in
theorem ggX10_settle_X10_draws : GoodIn wsX10_settle wsX10_draws := goodIn_r _ [76, 18, 77, 78, 10, 79, 80, 81, 82, 83, 84, 85, 86, 87, 88, 89, 90, 91, 92, 93, 94, 95, 96, 97, 98, 99, 100, 101, 102, 103, 104, 105, 106, 107, 108] (by decide +kernel) (by decide +kernel)
set_option maxRecDepth 20000 in
theorem gX10_settle_X10_draws : GoodIn wsX10_settle (wsV RX10 180 RX10 yX10_draws wsX10_draws) := goodIn_app (goodIn_of _ (by decide +kernel)) ggX10_settle_X10_draws
theorem dX10_settle_0 : decode cX10_settle 0 = .ok (.aload_n 0, 1) := by decide +kernel
theorem dX10_settle_1 : decode cX10_settle 1 = .ok (.iconst 0, 1) := by decide +kernel
