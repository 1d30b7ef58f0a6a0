theorem dX7_init_0 : decode cX7_init 0 = .ok (.aload_n 0, 1) := by decide +kernel
theorem dX7_init_1 : decode cX7_init 1 = .ok (.invokespecial 1, 3) := by decide +kernel
theorem dX7_init_4 : decode cX7_init 4 = .ok (.aload_n 0, 1) := by decide +kernel
theorem dX7_init_5 : decode cX7_init 5 = .ok (.iconst 4, 1) := by decide +kernel
theorem dX7_init_6 : decode cX7_init 6 = .ok (.putfield 7, 3) := by decide +kernel
theorem dX7_init_9 : decode cX7_init 9 = .ok (.aload_n 0, 1) := by decide +kernel
theorem dX7_init_10 : decode cX7_init 10 = .ok (.iconst 4, 1) := by decide +kernel
theorem dX7_init_11 : decode cX7_init 11 = .ok (.putfield 13, 3) := by decide +kernel
theorem dX7_init_14 : decode cX7_init 14 = .ok (.aload_n 0, 1) := by decide +kernel
theorem dX7_init_15 : decode cX7_init 15 = .ok (.iconst 1, 1) := by decide +kernel
theorem dX7_init_16 : decode cX7_init 16 = .ok (.putfield 16, 3) := by decide +kernel
theorem dX7_init_19 : decode cX7_init 19 = .ok (.aload_n 0, 1) := by decide +kernel
theorem dX7_init_20 : decode cX7_init 20 = .ok (.iconst 1, 1) := by decide +kernel
theorem dX7_init_21 : decode cX7_init 21 = .ok (.putfield 19, 3) := by decide +kernel
theorem dX7_init_24 : decode cX7_init 24 = .ok (.aload_n 0, 1) := by decide +kernel
theorem dX7_init_25 : decode cX7_init 25 = .ok (.sipush 144, 3) := by decide +kernel
theorem dX7_init_28 : decode cX7_init 28 = .ok (.newarray .int, 2) := by decide +kernel
theorem dX7_init_30 : decode cX7_init 30 = .ok (.putfield 22, 3) := by decide +kernel
theorem dX7_init_33 : decode cX7_init 33 = .ok (.aload_n 0, 1) := by decide +kernel
theorem dX7_init_34 : decode cX7_init 34 = .ok (.sipush 144, 3) := by decide +kernel
theorem dX7_init_37 : decode cX7_init 37 = .ok (.newarray .int, 2) := by decide +kernel
theorem dX7_init_39 : decode cX7_init 39 = .ok (.putfield 26, 3) := by decide +kernel
theorem dX7_init_42 : decode cX7_init 42 = .ok (.aload_n 0, 1) := by decide +kernel
theorem dX7_init_43 : decode cX7_init 43 = .ok (.sipush 144, 3) := by decide +kernel
theorem dX7_init_46 : decode cX7_init 46 = .ok (.newarray .int, 2) := by decide +kernel
theorem dX7_init_48 : decode cX7_init 48 = .ok (.putfield 29, 3) := by decide +kernel
theorem dX7_init_51 : decode cX7_init 51 = .ok (.aload_n 0, 1) := by decide +kernel
theorem dX7_init_52 : decode cX7_init 52 = .ok (.sipush 144, 3) := by decide +kernel
theorem dX7_init_55 : decode cX7_init 55 = .ok (.newarray .int, 2) := by decide +kernel
theorem dX7_init_57 : decode cX7_init 57 = .ok (.putfield 32, 3) := by decide +kernel
theorem dX7_init_60 : decode cX7_init 60 = .ok (.aload_n 0, 1) := by decide +kernel
theorem dX7_init_61 : decode cX7_init 61 = .ok (.sipush 144, 3) := by decide +kernel
theorem dX7_init_64 : decode cX7_init 64 = .ok (.newarray .int, 2) := by decide +kernel
theorem dX7_init_66 : decode cX7_init 66 = .ok (.putfield 35, 3) := by decide +kernel
theorem dX7_init_69 : decode cX7_init 69 = .ok (.aload_n 0, 1) := by decide +kernel
theorem dX7_init_70 : decode cX7_init 70 = .ok (.bipush 8, 2) := by decide +kernel
theorem dX7_init_72 : decode cX7_init 72 = .ok (.newarray .int, 2) := by decide +kernel
theorem dX7_init_74 : decode cX7_init 74 = .ok (.putfield 38, 3) := by decide +kernel
theorem dX7_init_77 : decode cX7_init 77 = .ok (.aload_n 0, 1) := by decide +kernel
theorem dX7_init_78 : decode cX7_init 78 = .ok (.bipush 8, 2) := by decide +kernel
theorem dX7_init_80 : decode cX7_init 80 = .ok (.newarray .int, 2) := by decide +kernel
theorem dX7_init_82 : decode cX7_init 82 = .ok (.putfield 41, 3) := by decide +kernel
theorem dX7_init_85 : decode cX7_init 85 = .ok (.aload_n 0, 1) := by decide +kernel
theorem dX7_init_86 : decode cX7_init 86 = .ok (.bipush 64, 2) := by decide +kernel
theorem dX7_init_88 : decode cX7_init 88 = .ok (.newarray .int, 2) := by decide +kernel
theorem dX7_init_90 : decode cX7_init 90 = .ok (.putfield 44, 3) := by decide +kernel
theorem dX7_init_93 : decode cX7_init 93 = .ok (.aload_n 0, 1) := by decide +kernel
theorem dX7_init_94 : decode cX7_init 94 = .ok (.bipush 8, 2) := by decide +kernel
theorem dX7_init_96 : decode cX7_init 96 = .ok (.newarray .int, 2) := by decide +kernel
theorem dX7_init_98 : decode cX7_init 98 = .ok (.putfield 47, 3) := by decide +kernel
theorem dX7_init_101 : decode cX7_init 101 = .ok (.aload_n 0, 1) := by decide +kernel
theorem dX7_init_102 : decode cX7_init 102 = .ok (.bipush 40, 2) := by decide +kernel
theorem dX7_init_104 : decode cX7_init 104 = .ok (.newarray .int, 2) := by decide +kernel
theorem dX7_init_106 : decode cX7_init 106 = .ok (.putfield 50, 3) := by decide +kernel
theorem dX7_init_109 : decode cX7_init 109 = .ok (.aload_n 0, 1) := by decide +kernel
theorem dX7_init_110 : decode cX7_init 110 = .ok (.bipush 40, 2) := by decide +kernel
theorem dX7_init_112 : decode cX7_init 112 = .ok (.newarray .int, 2) := by decide +kernel
theorem dX7_init_114 : decode cX7_init 114 = .ok (.putfield 53, 3) := by decide +kernel
theorem dX7_init_117 : decode cX7_init 117 = .ok (.aload_n 0, 1) := by decide +kernel
theorem dX7_init_118 : decode cX7_init 118 = .ok (.bipush 40, 2) := by decide +kernel
theorem dX7_init_120 : decode cX7_init 120 = .ok (.newarray .int, 2) := by decide +kernel
theorem dX7_init_122 : decode cX7_init 122 = .ok (.putfield 56, 3) := by decide +kernel
theorem dX7_init_125 : decode cX7_init 125 = .ok (.aload_n 0, 1) := by decide +kernel
theorem dX7_init_126 : decode cX7_init 126 = .ok (.bipush 40, 2) := by decide +kernel
theorem dX7_init_128 : decode cX7_init 128 = .ok (.newarray .int, 2) := by decide +kernel
theorem dX7_init_130 : decode cX7_init 130 = .ok (.putfield 59, 3) := by decide +kernel
theorem dX7_init_133 : decode cX7_init 133 = .ok (.aload_n 0, 1) := by decide +kernel
theorem dX7_init_134 : decode cX7_init 134 = .ok (.bipush 10, 2) := by decide +kernel
theorem dX7_init_136 : decode cX7_init 136 = .ok (.newarray .int, 2) := by decide +kernel
theorem dX7_init_138 : decode cX7_init 138 = .ok (.putfield 62, 3) := by decide +kernel
theorem dX7_init_141 : decode cX7_init 141 = .ok (.aload_n 0, 1) := by decide +kernel
theorem dX7_init_142 : decode cX7_init 142 = .ok (.sipush 1440, 3) := by decide +kernel
theorem dX7_init_145 : decode cX7_init 145 = .ok (.newarray .int, 2) := by decide +kernel
theorem dX7_init_147 : decode cX7_init 147 = .ok (.putfield 65, 3) := by decide +kernel
theorem dX7_init_150 : decode cX7_init 150 = .ok (.aload_n 0, 1) := by decide +kernel
theorem dX7_init_151 : decode cX7_init 151 = .ok (.invokevirtual 68, 3) := by decide +kernel
theorem dX7_init_154 : decode cX7_init 154 = .ok (.return_, 1) := by decide +kernel
theorem dX7_begin_0 : decode cX7_begin 0 = .ok (.iconst 0, 1) := by decide +kernel
theorem dX7_begin_1 : decode cX7_begin 1 = .ok (.istore_n 1, 1) := by decide +kernel
theorem dX7_begin_2 : decode cX7_begin 2 = .ok (.iload_n 1, 1) := by decide +kernel
theorem dX7_begin_3 : decode cX7_begin 3 = .ok (.sipush 144, 3) := by decide +kernel
theorem dX7_begin_6 : decode cX7_begin 6 = .ok (.if_icmp .ge 30, 3) := by decide +kernel
theorem dX7_begin_9 : decode cX7_begin 9 = .ok (.aload_n 0, 1) := by decide +kernel
theorem dX7_begin_10 : decode cX7_begin 10 = .ok (.getfield 22, 3) := by decide +kernel
theorem dX7_begin_13 : decode cX7_begin 13 = .ok (.iload_n 1, 1) := by decide +kernel
theorem dX7_begin_14 : decode cX7_begin 14 = .ok (.iconst 0, 1) := by decide +kernel
theorem dX7_begin_15 : decode cX7_begin 15 = .ok (.iastore, 1) := by decide +kernel
theorem dX7_begin_16 : decode cX7_begin 16 = .ok (.aload_n 0, 1) := by decide +kernel
theorem dX7_begin_17 : decode cX7_begin 17 = .ok (.getfield 26, 3) := by decide +kernel
theorem dX7_begin_20 : decode cX7_begin 20 = .ok (.iload_n 1, 1) := by decide +kernel
theorem dX7_begin_21 : decode cX7_begin 21 = .ok (.iconst 0, 1) := by decide +kernel
theorem dX7_begin_22 : decode cX7_begin 22 = .ok (.iastore, 1) := by decide +kernel
theorem dX7_begin_23 : decode cX7_begin 23 = .ok (.aload_n 0, 1) := by decide +kernel
theorem dX7_begin_24 : decode cX7_begin 24 = .ok (.getfield 35, 3) := by decide +kernel
theorem dX7_begin_27 : decode cX7_begin 27 = .ok (.iload_n 1, 1) := by decide +kernel
theorem dX7_begin_28 : decode cX7_begin 28 = .ok (.iconst (-1), 1) := by decide +kernel
theorem dX7_begin_29 : decode cX7_begin 29 = .ok (.iastore, 1) := by decide +kernel
theorem dX7_begin_30 : decode cX7_begin 30 = .ok (.iinc 1 1, 3) := by decide +kernel
theorem dX7_begin_33 : decode cX7_begin 33 = .ok (.goto (-31), 3) := by decide +kernel
theorem dX7_begin_36 : decode cX7_begin 36 = .ok (.aload_n 0, 1) := by decide +kernel
theorem dX7_begin_37 : decode cX7_begin 37 = .ok (.iconst 0, 1) := by decide +kernel
theorem dX7_begin_38 : decode cX7_begin 38 = .ok (.putfield 71, 3) := by decide +kernel
theorem dX7_begin_41 : decode cX7_begin 41 = .ok (.aload_n 0, 1) := by decide +kernel
theorem dX7_begin_42 : decode cX7_begin 42 = .ok (.iconst 0, 1) := by decide +kernel
theorem dX7_begin_43 : decode cX7_begin 43 = .ok (.putfield 74, 3) := by decide +kernel
theorem dX7_begin_46 : decode cX7_begin 46 = .ok (.aload_n 0, 1) := by decide +kernel
theorem dX7_begin_47 : decode cX7_begin 47 = .ok (.iconst 0, 1) := by decide +kernel
theorem dX7_begin_48 : decode cX7_begin 48 = .ok (.putfield 77, 3) := by decide +kernel
theorem dX7_begin_51 : decode cX7_begin 51 = .ok (.aload_n 0, 1) := by decide +kernel
theorem dX7_begin_52 : decode cX7_begin 52 = .ok (.iconst 0, 1) := by decide +kernel
theorem dX7_begin_53 : decode cX7_begin 53 = .ok (.putfield 80, 3) := by decide +kernel
theorem dX7_begin_56 : decode cX7_begin 56 = .ok (.aload_n 0, 1) := by decide +kernel
theorem dX7_begin_57 : decode cX7_begin 57 = .ok (.iconst 0, 1) := by decide +kernel
theorem dX7_begin_58 : decode cX7_begin 58 = .ok (.putfield 83, 3) := by decide +kernel
theorem dX7_begin_61 : decode cX7_begin 61 = .ok (.aload_n 0, 1) := by decide +kernel
theorem dX7_begin_62 : decode cX7_begin 62 = .ok (.iconst 0, 1) := by decide +kernel
theorem dX7_begin_63 : decode cX7_begin 63 = .ok (.putfield 86, 3) := by decide +kernel
theorem dX7_begin_66 : decode cX7_begin 66 = .ok (.return_, 1) := by decide +kernel
theorem dX7_thrown_0 : decode cX7_thrown 0 = .ok (.aload_n 0, 1) := by decide +kernel
theorem dX7_thrown_1 : decode cX7_thrown 1 = .ok (.getfield 89, 3) := by decide +kernel
theorem dX7_thrown_4 : decode cX7_thrown 4 = .ok (.ireturn, 1) := by decide +kernel
theorem dX7_stop_0 : decode cX7_stop 0 = .ok (.aload_n 0, 1) := by decide +kernel
theorem dX7_stop_1 : decode cX7_stop 1 = .ok (.iload_n 1, 1) := by decide +kernel
theorem dX7_stop_2 : decode cX7_stop 2 = .ok (.putfield 89, 3) := by decide +kernel
theorem dX7_stop_5 : decode cX7_stop 5 = .ok (.iconst 0, 1) := by decide +kernel
theorem dX7_stop_6 : decode cX7_stop 6 = .ok (.ireturn, 1) := by decide +kernel
theorem dX7_in_0 : decode cX7_in 0 = .ok (.iload_n 0, 1) := by decide +kernel
theorem dX7_in_1 : decode cX7_in 1 = .ok (.iload_n 1, 1) := by decide +kernel
theorem dX7_in_2 : decode cX7_in 2 = .ok (.if_icmp .lt 12, 3) := by decide +kernel
theorem dX7_in_5 : decode cX7_in 5 = .ok (.iload_n 0, 1) := by decide +kernel
theorem dX7_in_6 : decode cX7_in 6 = .ok (.iload_n 2, 1) := by decide +kernel
theorem dX7_in_7 : decode cX7_in 7 = .ok (.if_icmp .gt 7, 3) := by decide +kernel
theorem dX7_in_10 : decode cX7_in 10 = .ok (.iconst 1, 1) := by decide +kernel
theorem dX7_in_11 : decode cX7_in 11 = .ok (.goto 4, 3) := by decide +kernel
theorem dX7_in_14 : decode cX7_in 14 = .ok (.iconst 0, 1) := by decide +kernel
theorem dX7_in_15 : decode cX7_in 15 = .ok (.ireturn, 1) := by decide +kernel
theorem dX7_isCell_0 : decode cX7_isCell 0 = .ok (.iload_n 1, 1) := by decide +kernel
theorem dX7_isCell_1 : decode cX7_isCell 1 = .ok (.iconst 0, 1) := by decide +kernel
theorem dX7_isCell_2 : decode cX7_isCell 2 = .ok (.aload_n 0, 1) := by decide +kernel
theorem dX7_isCell_3 : decode cX7_isCell 3 = .ok (.getfield 7, 3) := by decide +kernel
theorem dX7_isCell_6 : decode cX7_isCell 6 = .ok (.iconst 1, 1) := by decide +kernel
theorem dX7_isCell_7 : decode cX7_isCell 7 = .ok (.isub, 1) := by decide +kernel
theorem dX7_isCell_8 : decode cX7_isCell 8 = .ok (.invokestatic 92, 3) := by decide +kernel
theorem dX7_isCell_11 : decode cX7_isCell 11 = .ok (.ifCond .eq 21, 3) := by decide +kernel
theorem dX7_isCell_14 : decode cX7_isCell 14 = .ok (.iload_n 2, 1) := by decide +kernel
theorem dX7_isCell_15 : decode cX7_isCell 15 = .ok (.iconst 0, 1) := by decide +kernel
theorem dX7_isCell_16 : decode cX7_isCell 16 = .ok (.aload_n 0, 1) := by decide +kernel
theorem dX7_isCell_17 : decode cX7_isCell 17 = .ok (.getfield 13, 3) := by decide +kernel
theorem dX7_isCell_20 : decode cX7_isCell 20 = .ok (.iconst 1, 1) := by decide +kernel
theorem dX7_isCell_21 : decode cX7_isCell 21 = .ok (.isub, 1) := by decide +kernel
theorem dX7_isCell_22 : decode cX7_isCell 22 = .ok (.invokestatic 92, 3) := by decide +kernel
theorem dX7_isCell_25 : decode cX7_isCell 25 = .ok (.ifCond .eq 7, 3) := by decide +kernel
theorem dX7_isCell_28 : decode cX7_isCell 28 = .ok (.iconst 1, 1) := by decide +kernel
theorem dX7_isCell_29 : decode cX7_isCell 29 = .ok (.goto 4, 3) := by decide +kernel
theorem dX7_isCell_32 : decode cX7_isCell 32 = .ok (.iconst 0, 1) := by decide +kernel
theorem dX7_isCell_33 : decode cX7_isCell 33 = .ok (.ireturn, 1) := by decide +kernel
theorem dX7_cell_0 : decode cX7_cell 0 = .ok (.bipush 12, 2) := by decide +kernel
theorem dX7_cell_2 : decode cX7_cell 2 = .ok (.iload_n 1, 1) := by decide +kernel
theorem dX7_cell_3 : decode cX7_cell 3 = .ok (.imul, 1) := by decide +kernel
theorem dX7_cell_4 : decode cX7_cell 4 = .ok (.iload_n 0, 1) := by decide +kernel
theorem dX7_cell_5 : decode cX7_cell 5 = .ok (.iadd, 1) := by decide +kernel
theorem dX7_cell_6 : decode cX7_cell 6 = .ok (.ireturn, 1) := by decide +kernel
theorem dX7_on_0 : decode cX7_on 0 = .ok (.iload_n 1, 1) := by decide +kernel
theorem dX7_on_1 : decode cX7_on 1 = .ok (.iload_n 0, 1) := by decide +kernel
theorem dX7_on_2 : decode cX7_on 2 = .ok (.isub, 1) := by decide +kernel
theorem dX7_on_3 : decode cX7_on 3 = .ok (.bipush 15, 2) := by decide +kernel
theorem dX7_on_5 : decode cX7_on 5 = .ok (.iadd, 1) := by decide +kernel
theorem dX7_on_6 : decode cX7_on 6 = .ok (.bipush 7, 2) := by decide +kernel
theorem dX7_on_8 : decode cX7_on 8 = .ok (.iadd, 1) := by decide +kernel
theorem dX7_on_9 : decode cX7_on 9 = .ok (.bipush 15, 2) := by decide +kernel
theorem dX7_on_11 : decode cX7_on 11 = .ok (.irem, 1) := by decide +kernel
theorem dX7_on_12 : decode cX7_on 12 = .ok (.bipush 7, 2) := by decide +kernel
theorem dX7_on_14 : decode cX7_on 14 = .ok (.isub, 1) := by decide +kernel
theorem dX7_on_15 : decode cX7_on 15 = .ok (.ireturn, 1) := by decide +kernel
theorem dX7_apart_0 : decode cX7_apart 0 = .ok (.iload_n 0, 1) := by decide +kernel
theorem dX7_apart_1 : decode cX7_apart 1 = .ok (.iload_n 1, 1) := by decide +kernel
theorem dX7_apart_2 : decode cX7_apart 2 = .ok (.invokestatic 96, 3) := by decide +kernel
theorem dX7_apart_5 : decode cX7_apart 5 = .ok (.istore_n 2, 1) := by decide +kernel
theorem dX7_apart_6 : decode cX7_apart 6 = .ok (.iload_n 2, 1) := by decide +kernel
theorem dX7_apart_7 : decode cX7_apart 7 = .ok (.ifCond .ge 8, 3) := by decide +kernel
theorem dX7_apart_10 : decode cX7_apart 10 = .ok (.iload_n 2, 1) := by decide +kernel
theorem dX7_apart_11 : decode cX7_apart 11 = .ok (.ineg, 1) := by decide +kernel
theorem dX7_apart_12 : decode cX7_apart 12 = .ok (.goto 4, 3) := by decide +kernel
theorem dX7_apart_15 : decode cX7_apart 15 = .ok (.iload_n 2, 1) := by decide +kernel
theorem dX7_apart_16 : decode cX7_apart 16 = .ok (.ireturn, 1) := by decide +kernel
theorem dX7_square_0 : decode cX7_square 0 = .ok (.iload_n 0, 1) := by decide +kernel
theorem dX7_square_1 : decode cX7_square 1 = .ok (.iload_n 1, 1) := by decide +kernel
theorem dX7_square_2 : decode cX7_square 2 = .ok (.invokestatic 96, 3) := by decide +kernel
theorem dX7_square_5 : decode cX7_square 5 = .ok (.istore_n 2, 1) := by decide +kernel
theorem dX7_square_6 : decode cX7_square 6 = .ok (.iload_n 2, 1) := by decide +kernel
theorem dX7_square_7 : decode cX7_square 7 = .ok (.iload_n 2, 1) := by decide +kernel
theorem dX7_square_8 : decode cX7_square 8 = .ok (.imul, 1) := by decide +kernel
theorem dX7_square_9 : decode cX7_square 9 = .ok (.ireturn, 1) := by decide +kernel
theorem dX7_own_0 : decode cX7_own 0 = .ok (.iload_n 1, 1) := by decide +kernel
theorem dX7_own_1 : decode cX7_own 1 = .ok (.iload_n 2, 1) := by decide +kernel
theorem dX7_own_2 : decode cX7_own 2 = .ok (.invokestatic 100, 3) := by decide +kernel
theorem dX7_own_5 : decode cX7_own 5 = .ok (.istore 4, 2) := by decide +kernel
theorem dX7_own_7 : decode cX7_own 7 = .ok (.aload_n 0, 1) := by decide +kernel
theorem dX7_own_8 : decode cX7_own 8 = .ok (.getfield 26, 3) := by decide +kernel
theorem dX7_own_11 : decode cX7_own 11 = .ok (.iload 4, 2) := by decide +kernel
theorem dX7_own_13 : decode cX7_own 13 = .ok (.iaload, 1) := by decide +kernel
theorem dX7_own_14 : decode cX7_own 14 = .ok (.iconst 2, 1) := by decide +kernel
theorem dX7_own_15 : decode cX7_own 15 = .ok (.if_icmp .ne 25, 3) := by decide +kernel
theorem dX7_own_18 : decode cX7_own 18 = .ok (.aload_n 0, 1) := by decide +kernel
theorem dX7_own_19 : decode cX7_own 19 = .ok (.getfield 32, 3) := by decide +kernel
theorem dX7_own_22 : decode cX7_own 22 = .ok (.iload 4, 2) := by decide +kernel
theorem dX7_own_24 : decode cX7_own 24 = .ok (.iaload, 1) := by decide +kernel
theorem dX7_own_25 : decode cX7_own 25 = .ok (.iload_n 3, 1) := by decide +kernel
theorem dX7_own_26 : decode cX7_own 26 = .ok (.aload_n 0, 1) := by decide +kernel
theorem dX7_own_27 : decode cX7_own 27 = .ok (.getfield 29, 3) := by decide +kernel
theorem dX7_own_30 : decode cX7_own 30 = .ok (.iload 4, 2) := by decide +kernel
theorem dX7_own_32 : decode cX7_own 32 = .ok (.iaload, 1) := by decide +kernel
theorem dX7_own_33 : decode cX7_own 33 = .ok (.invokestatic 103, 3) := by decide +kernel
theorem dX7_own_36 : decode cX7_own 36 = .ok (.imul, 1) := by decide +kernel
theorem dX7_own_37 : decode cX7_own 37 = .ok (.goto 4, 3) := by decide +kernel
theorem dX7_own_40 : decode cX7_own 40 = .ok (.iconst 0, 1) := by decide +kernel
theorem dX7_own_41 : decode cX7_own 41 = .ok (.istore 5, 2) := by decide +kernel
theorem dX7_own_43 : decode cX7_own 43 = .ok (.aload_n 0, 1) := by decide +kernel
theorem dX7_own_44 : decode cX7_own 44 = .ok (.getfield 35, 3) := by decide +kernel
theorem dX7_own_47 : decode cX7_own 47 = .ok (.iload 4, 2) := by decide +kernel
theorem dX7_own_49 : decode cX7_own 49 = .ok (.iaload, 1) := by decide +kernel
theorem dX7_own_50 : decode cX7_own 50 = .ok (.istore 6, 2) := by decide +kernel
theorem dX7_own_52 : decode cX7_own 52 = .ok (.iload 6, 2) := by decide +kernel
theorem dX7_own_54 : decode cX7_own 54 = .ok (.iconst (-1), 1) := by decide +kernel
theorem dX7_own_55 : decode cX7_own 55 = .ok (.if_icmp .ne 8, 3) := by decide +kernel
theorem dX7_own_58 : decode cX7_own 58 = .ok (.iload 5, 2) := by decide +kernel
theorem dX7_own_60 : decode cX7_own 60 = .ok (.goto 25, 3) := by decide +kernel
theorem dX7_own_63 : decode cX7_own 63 = .ok (.iload 5, 2) := by decide +kernel
theorem dX7_own_65 : decode cX7_own 65 = .ok (.aload_n 0, 1) := by decide +kernel
theorem dX7_own_66 : decode cX7_own 66 = .ok (.getfield 41, 3) := by decide +kernel
theorem dX7_own_69 : decode cX7_own 69 = .ok (.iload 6, 2) := by decide +kernel
theorem dX7_own_71 : decode cX7_own 71 = .ok (.iaload, 1) := by decide +kernel
theorem dX7_own_72 : decode cX7_own 72 = .ok (.iload_n 3, 1) := by decide +kernel
theorem dX7_own_73 : decode cX7_own 73 = .ok (.aload_n 0, 1) := by decide +kernel
theorem dX7_own_74 : decode cX7_own 74 = .ok (.getfield 38, 3) := by decide +kernel
theorem dX7_own_77 : decode cX7_own 77 = .ok (.iload 6, 2) := by decide +kernel
theorem dX7_own_79 : decode cX7_own 79 = .ok (.iaload, 1) := by decide +kernel
theorem dX7_own_80 : decode cX7_own 80 = .ok (.invokestatic 103, 3) := by decide +kernel
theorem dX7_own_83 : decode cX7_own 83 = .ok (.imul, 1) := by decide +kernel
theorem dX7_own_84 : decode cX7_own 84 = .ok (.iadd, 1) := by decide +kernel
theorem dX7_own_85 : decode cX7_own 85 = .ok (.ireturn, 1) := by decide +kernel
theorem dX7_pair_0 : decode cX7_pair 0 = .ok (.aload_n 0, 1) := by decide +kernel
theorem dX7_pair_1 : decode cX7_pair 1 = .ok (.iload_n 1, 1) := by decide +kernel
theorem dX7_pair_2 : decode cX7_pair 2 = .ok (.iload 4, 2) := by decide +kernel
theorem dX7_pair_4 : decode cX7_pair 4 = .ok (.iadd, 1) := by decide +kernel
theorem dX7_pair_5 : decode cX7_pair 5 = .ok (.iload_n 2, 1) := by decide +kernel
theorem dX7_pair_6 : decode cX7_pair 6 = .ok (.iload 5, 2) := by decide +kernel
theorem dX7_pair_8 : decode cX7_pair 8 = .ok (.iadd, 1) := by decide +kernel
theorem dX7_pair_9 : decode cX7_pair 9 = .ok (.invokevirtual 106, 3) := by decide +kernel
theorem dX7_pair_12 : decode cX7_pair 12 = .ok (.ifCond .ne 5, 3) := by decide +kernel
theorem dX7_pair_15 : decode cX7_pair 15 = .ok (.iconst 0, 1) := by decide +kernel
theorem dX7_pair_16 : decode cX7_pair 16 = .ok (.ireturn, 1) := by decide +kernel
theorem dX7_pair_17 : decode cX7_pair 17 = .ok (.iload 4, 2) := by decide +kernel
theorem dX7_pair_19 : decode cX7_pair 19 = .ok (.ifCond .eq 10, 3) := by decide +kernel
theorem dX7_pair_22 : decode cX7_pair 22 = .ok (.aload_n 0, 1) := by decide +kernel
theorem dX7_pair_23 : decode cX7_pair 23 = .ok (.getfield 16, 3) := by decide +kernel
theorem dX7_pair_26 : decode cX7_pair 26 = .ok (.goto 7, 3) := by decide +kernel
theorem dX7_pair_29 : decode cX7_pair 29 = .ok (.aload_n 0, 1) := by decide +kernel
theorem dX7_pair_30 : decode cX7_pair 30 = .ok (.getfield 19, 3) := by decide +kernel
theorem dX7_pair_33 : decode cX7_pair 33 = .ok (.iload_n 3, 1) := by decide +kernel
theorem dX7_pair_34 : decode cX7_pair 34 = .ok (.aload_n 0, 1) := by decide +kernel
theorem dX7_pair_35 : decode cX7_pair 35 = .ok (.getfield 22, 3) := by decide +kernel
theorem dX7_pair_38 : decode cX7_pair 38 = .ok (.iload_n 1, 1) := by decide +kernel
theorem dX7_pair_39 : decode cX7_pair 39 = .ok (.iload 4, 2) := by decide +kernel
theorem dX7_pair_41 : decode cX7_pair 41 = .ok (.iadd, 1) := by decide +kernel
theorem dX7_pair_42 : decode cX7_pair 42 = .ok (.iload_n 2, 1) := by decide +kernel
theorem dX7_pair_43 : decode cX7_pair 43 = .ok (.iload 5, 2) := by decide +kernel
theorem dX7_pair_45 : decode cX7_pair 45 = .ok (.iadd, 1) := by decide +kernel
theorem dX7_pair_46 : decode cX7_pair 46 = .ok (.invokestatic 100, 3) := by decide +kernel
theorem dX7_pair_49 : decode cX7_pair 49 = .ok (.iaload, 1) := by decide +kernel
theorem dX7_pair_50 : decode cX7_pair 50 = .ok (.invokestatic 103, 3) := by decide +kernel
theorem dX7_pair_53 : decode cX7_pair 53 = .ok (.imul, 1) := by decide +kernel
theorem dX7_pair_54 : decode cX7_pair 54 = .ok (.ireturn, 1) := by decide +kernel
theorem dX7_withAll_0 : decode cX7_withAll 0 = .ok (.aload_n 0, 1) := by decide +kernel
theorem dX7_withAll_1 : decode cX7_withAll 1 = .ok (.iload_n 1, 1) := by decide +kernel
theorem dX7_withAll_2 : decode cX7_withAll 2 = .ok (.iload_n 2, 1) := by decide +kernel
theorem dX7_withAll_3 : decode cX7_withAll 3 = .ok (.iload_n 3, 1) := by decide +kernel
theorem dX7_withAll_4 : decode cX7_withAll 4 = .ok (.invokevirtual 110, 3) := by decide +kernel
theorem dX7_withAll_7 : decode cX7_withAll 7 = .ok (.aload_n 0, 1) := by decide +kernel
theorem dX7_withAll_8 : decode cX7_withAll 8 = .ok (.iload_n 1, 1) := by decide +kernel
theorem dX7_withAll_9 : decode cX7_withAll 9 = .ok (.iload_n 2, 1) := by decide +kernel
theorem dX7_withAll_10 : decode cX7_withAll 10 = .ok (.iload_n 3, 1) := by decide +kernel
theorem dX7_withAll_11 : decode cX7_withAll 11 = .ok (.iconst 1, 1) := by decide +kernel
theorem dX7_withAll_12 : decode cX7_withAll 12 = .ok (.iconst 0, 1) := by decide +kernel
theorem dX7_withAll_13 : decode cX7_withAll 13 = .ok (.invokevirtual 114, 3) := by decide +kernel
theorem dX7_withAll_16 : decode cX7_withAll 16 = .ok (.iadd, 1) := by decide +kernel
theorem dX7_withAll_17 : decode cX7_withAll 17 = .ok (.aload_n 0, 1) := by decide +kernel
theorem dX7_withAll_18 : decode cX7_withAll 18 = .ok (.iload_n 1, 1) := by decide +kernel
theorem dX7_withAll_19 : decode cX7_withAll 19 = .ok (.iload_n 2, 1) := by decide +kernel
theorem dX7_withAll_20 : decode cX7_withAll 20 = .ok (.iload_n 3, 1) := by decide +kernel
theorem dX7_withAll_21 : decode cX7_withAll 21 = .ok (.iconst (-1), 1) := by decide +kernel
theorem dX7_withAll_22 : decode cX7_withAll 22 = .ok (.iconst 0, 1) := by decide +kernel
theorem dX7_withAll_23 : decode cX7_withAll 23 = .ok (.invokevirtual 114, 3) := by decide +kernel
theorem dX7_withAll_26 : decode cX7_withAll 26 = .ok (.iadd, 1) := by decide +kernel
theorem dX7_withAll_27 : decode cX7_withAll 27 = .ok (.aload_n 0, 1) := by decide +kernel
theorem dX7_withAll_28 : decode cX7_withAll 28 = .ok (.iload_n 1, 1) := by decide +kernel
theorem dX7_withAll_29 : decode cX7_withAll 29 = .ok (.iload_n 2, 1) := by decide +kernel
theorem dX7_withAll_30 : decode cX7_withAll 30 = .ok (.iload_n 3, 1) := by decide +kernel
theorem dX7_withAll_31 : decode cX7_withAll 31 = .ok (.iconst 0, 1) := by decide +kernel
theorem dX7_withAll_32 : decode cX7_withAll 32 = .ok (.iconst 1, 1) := by decide +kernel
theorem dX7_withAll_33 : decode cX7_withAll 33 = .ok (.invokevirtual 114, 3) := by decide +kernel
theorem dX7_withAll_36 : decode cX7_withAll 36 = .ok (.iadd, 1) := by decide +kernel
theorem dX7_withAll_37 : decode cX7_withAll 37 = .ok (.aload_n 0, 1) := by decide +kernel
theorem dX7_withAll_38 : decode cX7_withAll 38 = .ok (.iload_n 1, 1) := by decide +kernel
theorem dX7_withAll_39 : decode cX7_withAll 39 = .ok (.iload_n 2, 1) := by decide +kernel
theorem dX7_withAll_40 : decode cX7_withAll 40 = .ok (.iload_n 3, 1) := by decide +kernel
theorem dX7_withAll_41 : decode cX7_withAll 41 = .ok (.iconst 0, 1) := by decide +kernel
theorem dX7_withAll_42 : decode cX7_withAll 42 = .ok (.iconst (-1), 1) := by decide +kernel
theorem dX7_withAll_43 : decode cX7_withAll 43 = .ok (.invokevirtual 114, 3) := by decide +kernel
theorem dX7_withAll_46 : decode cX7_withAll 46 = .ok (.iadd, 1) := by decide +kernel
theorem dX7_withAll_47 : decode cX7_withAll 47 = .ok (.ireturn, 1) := by decide +kernel
theorem dX7_all_0 : decode cX7_all 0 = .ok (.iconst 0, 1) := by decide +kernel
theorem dX7_all_1 : decode cX7_all 1 = .ok (.istore_n 1, 1) := by decide +kernel
theorem dX7_all_2 : decode cX7_all 2 = .ok (.iconst 0, 1) := by decide +kernel
theorem dX7_all_3 : decode cX7_all 3 = .ok (.istore_n 2, 1) := by decide +kernel
theorem dX7_all_4 : decode cX7_all 4 = .ok (.iload_n 2, 1) := by decide +kernel
theorem dX7_all_5 : decode cX7_all 5 = .ok (.aload_n 0, 1) := by decide +kernel
theorem dX7_all_6 : decode cX7_all 6 = .ok (.getfield 13, 3) := by decide +kernel
theorem dX7_all_9 : decode cX7_all 9 = .ok (.if_icmp .ge 70, 3) := by decide +kernel
theorem dX7_all_12 : decode cX7_all 12 = .ok (.iconst 0, 1) := by decide +kernel
theorem dX7_all_13 : decode cX7_all 13 = .ok (.istore_n 3, 1) := by decide +kernel
theorem dX7_all_14 : decode cX7_all 14 = .ok (.iload_n 3, 1) := by decide +kernel
theorem dX7_all_15 : decode cX7_all 15 = .ok (.aload_n 0, 1) := by decide +kernel
theorem dX7_all_16 : decode cX7_all 16 = .ok (.getfield 7, 3) := by decide +kernel
theorem dX7_all_19 : decode cX7_all 19 = .ok (.if_icmp .ge 54, 3) := by decide +kernel
theorem dX7_all_22 : decode cX7_all 22 = .ok (.aload_n 0, 1) := by decide +kernel
theorem dX7_all_23 : decode cX7_all 23 = .ok (.getfield 22, 3) := by decide +kernel
theorem dX7_all_26 : decode cX7_all 26 = .ok (.iload_n 3, 1) := by decide +kernel
theorem dX7_all_27 : decode cX7_all 27 = .ok (.iload_n 2, 1) := by decide +kernel
theorem dX7_all_28 : decode cX7_all 28 = .ok (.invokestatic 100, 3) := by decide +kernel
theorem dX7_all_31 : decode cX7_all 31 = .ok (.iaload, 1) := by decide +kernel
theorem dX7_all_32 : decode cX7_all 32 = .ok (.istore 4, 2) := by decide +kernel
theorem dX7_all_34 : decode cX7_all 34 = .ok (.iload_n 1, 1) := by decide +kernel
theorem dX7_all_35 : decode cX7_all 35 = .ok (.aload_n 0, 1) := by decide +kernel
theorem dX7_all_36 : decode cX7_all 36 = .ok (.iload_n 3, 1) := by decide +kernel
theorem dX7_all_37 : decode cX7_all 37 = .ok (.iload_n 2, 1) := by decide +kernel
theorem dX7_all_38 : decode cX7_all 38 = .ok (.iload 4, 2) := by decide +kernel
theorem dX7_all_40 : decode cX7_all 40 = .ok (.invokevirtual 110, 3) := by decide +kernel
theorem dX7_all_43 : decode cX7_all 43 = .ok (.aload_n 0, 1) := by decide +kernel
theorem dX7_all_44 : decode cX7_all 44 = .ok (.iload_n 3, 1) := by decide +kernel
theorem dX7_all_45 : decode cX7_all 45 = .ok (.iload_n 2, 1) := by decide +kernel
theorem dX7_all_46 : decode cX7_all 46 = .ok (.iload 4, 2) := by decide +kernel
theorem dX7_all_48 : decode cX7_all 48 = .ok (.iconst 1, 1) := by decide +kernel
theorem dX7_all_49 : decode cX7_all 49 = .ok (.iconst 0, 1) := by decide +kernel
theorem dX7_all_50 : decode cX7_all 50 = .ok (.invokevirtual 114, 3) := by decide +kernel
theorem dX7_all_53 : decode cX7_all 53 = .ok (.iadd, 1) := by decide +kernel
theorem dX7_all_54 : decode cX7_all 54 = .ok (.aload_n 0, 1) := by decide +kernel
theorem dX7_all_55 : decode cX7_all 55 = .ok (.iload_n 3, 1) := by decide +kernel
theorem dX7_all_56 : decode cX7_all 56 = .ok (.iload_n 2, 1) := by decide +kernel
theorem dX7_all_57 : decode cX7_all 57 = .ok (.iload 4, 2) := by decide +kernel
theorem dX7_all_59 : decode cX7_all 59 = .ok (.iconst 0, 1) := by decide +kernel
theorem dX7_all_60 : decode cX7_all 60 = .ok (.iconst 1, 1) := by decide +kernel
theorem dX7_all_61 : decode cX7_all 61 = .ok (.invokevirtual 114, 3) := by decide +kernel
theorem dX7_all_64 : decode cX7_all 64 = .ok (.iadd, 1) := by decide +kernel
theorem dX7_all_65 : decode cX7_all 65 = .ok (.iadd, 1) := by decide +kernel
theorem dX7_all_66 : decode cX7_all 66 = .ok (.istore_n 1, 1) := by decide +kernel
theorem dX7_all_67 : decode cX7_all 67 = .ok (.iinc 3 1, 3) := by decide +kernel
theorem dX7_all_70 : decode cX7_all 70 = .ok (.goto (-56), 3) := by decide +kernel
theorem dX7_all_73 : decode cX7_all 73 = .ok (.iinc 2 1, 3) := by decide +kernel
theorem dX7_all_76 : decode cX7_all 76 = .ok (.goto (-72), 3) := by decide +kernel
theorem dX7_all_79 : decode cX7_all 79 = .ok (.iload_n 1, 1) := by decide +kernel
theorem dX7_all_80 : decode cX7_all 80 = .ok (.ireturn, 1) := by decide +kernel
theorem dX7_worked_0 : decode cX7_worked 0 = .ok (.aload_n 0, 1) := by decide +kernel
theorem dX7_worked_1 : decode cX7_worked 1 = .ok (.invokevirtual 118, 3) := by decide +kernel
theorem dX7_worked_4 : decode cX7_worked 4 = .ok (.iload_n 1, 1) := by decide +kernel
theorem dX7_worked_5 : decode cX7_worked 5 = .ok (.isub, 1) := by decide +kernel
theorem dX7_worked_6 : decode cX7_worked 6 = .ok (.istore_n 2, 1) := by decide +kernel
theorem dX7_worked_7 : decode cX7_worked 7 = .ok (.aload_n 0, 1) := by decide +kernel
theorem dX7_worked_8 : decode cX7_worked 8 = .ok (.dup, 1) := by decide +kernel
theorem dX7_worked_9 : decode cX7_worked 9 = .ok (.getfield 83, 3) := by decide +kernel
theorem dX7_worked_12 : decode cX7_worked 12 = .ok (.iload_n 2, 1) := by decide +kernel
theorem dX7_worked_13 : decode cX7_worked 13 = .ok (.iadd, 1) := by decide +kernel
theorem dX7_worked_14 : decode cX7_worked 14 = .ok (.putfield 83, 3) := by decide +kernel
theorem dX7_worked_17 : decode cX7_worked 17 = .ok (.iload_n 2, 1) := by decide +kernel
theorem dX7_worked_18 : decode cX7_worked 18 = .ok (.ireturn, 1) := by decide +kernel
theorem dX7_grid_0 : decode cX7_grid 0 = .ok (.aload_n 0, 1) := by decide +kernel
theorem dX7_grid_1 : decode cX7_grid 1 = .ok (.iconst 0, 1) := by decide +kernel
theorem dX7_grid_2 : decode cX7_grid 2 = .ok (.putfield 89, 3) := by decide +kernel
theorem dX7_grid_5 : decode cX7_grid 5 = .ok (.iload_n 1, 1) := by decide +kernel
theorem dX7_grid_6 : decode cX7_grid 6 = .ok (.iconst 2, 1) := by decide +kernel
theorem dX7_grid_7 : decode cX7_grid 7 = .ok (.bipush 12, 2) := by decide +kernel
theorem dX7_grid_9 : decode cX7_grid 9 = .ok (.invokestatic 92, 3) := by decide +kernel
theorem dX7_grid_12 : decode cX7_grid 12 = .ok (.ifCond .eq 13, 3) := by decide +kernel
theorem dX7_grid_15 : decode cX7_grid 15 = .ok (.iload_n 2, 1) := by decide +kernel
theorem dX7_grid_16 : decode cX7_grid 16 = .ok (.iconst 2, 1) := by decide +kernel
theorem dX7_grid_17 : decode cX7_grid 17 = .ok (.bipush 12, 2) := by decide +kernel
theorem dX7_grid_19 : decode cX7_grid 19 = .ok (.invokestatic 92, 3) := by decide +kernel
theorem dX7_grid_22 : decode cX7_grid 22 = .ok (.ifCond .ne 10, 3) := by decide +kernel
theorem dX7_grid_25 : decode cX7_grid 25 = .ok (.aload_n 0, 1) := by decide +kernel
theorem dX7_grid_26 : decode cX7_grid 26 = .ok (.iconst 1, 1) := by decide +kernel
theorem dX7_grid_27 : decode cX7_grid 27 = .ok (.invokevirtual 122, 3) := by decide +kernel
theorem dX7_grid_30 : decode cX7_grid 30 = .ok (.pop, 1) := by decide +kernel
theorem dX7_grid_31 : decode cX7_grid 31 = .ok (.return_, 1) := by decide +kernel
theorem dX7_grid_32 : decode cX7_grid 32 = .ok (.aload_n 0, 1) := by decide +kernel
theorem dX7_grid_33 : decode cX7_grid 33 = .ok (.iload_n 1, 1) := by decide +kernel
theorem dX7_grid_34 : decode cX7_grid 34 = .ok (.putfield 7, 3) := by decide +kernel
theorem dX7_grid_37 : decode cX7_grid 37 = .ok (.aload_n 0, 1) := by decide +kernel
theorem dX7_grid_38 : decode cX7_grid 38 = .ok (.iload_n 2, 1) := by decide +kernel
theorem dX7_grid_39 : decode cX7_grid 39 = .ok (.putfield 13, 3) := by decide +kernel
theorem dX7_grid_42 : decode cX7_grid 42 = .ok (.aload_n 0, 1) := by decide +kernel
theorem dX7_grid_43 : decode cX7_grid 43 = .ok (.invokevirtual 68, 3) := by decide +kernel
theorem dX7_grid_46 : decode cX7_grid 46 = .ok (.return_, 1) := by decide +kernel
theorem dX7_costs_0 : decode cX7_costs 0 = .ok (.aload_n 0, 1) := by decide +kernel
theorem dX7_costs_1 : decode cX7_costs 1 = .ok (.iconst 0, 1) := by decide +kernel
theorem dX7_costs_2 : decode cX7_costs 2 = .ok (.putfield 89, 3) := by decide +kernel
theorem dX7_costs_5 : decode cX7_costs 5 = .ok (.iload_n 1, 1) := by decide +kernel
theorem dX7_costs_6 : decode cX7_costs 6 = .ok (.iconst 0, 1) := by decide +kernel
theorem dX7_costs_7 : decode cX7_costs 7 = .ok (.bipush 20, 2) := by decide +kernel
theorem dX7_costs_9 : decode cX7_costs 9 = .ok (.invokestatic 92, 3) := by decide +kernel
theorem dX7_costs_12 : decode cX7_costs 12 = .ok (.ifCond .eq 13, 3) := by decide +kernel
theorem dX7_costs_15 : decode cX7_costs 15 = .ok (.iload_n 2, 1) := by decide +kernel
theorem dX7_costs_16 : decode cX7_costs 16 = .ok (.iconst 0, 1) := by decide +kernel
theorem dX7_costs_17 : decode cX7_costs 17 = .ok (.bipush 20, 2) := by decide +kernel
theorem dX7_costs_19 : decode cX7_costs 19 = .ok (.invokestatic 92, 3) := by decide +kernel
theorem dX7_costs_22 : decode cX7_costs 22 = .ok (.ifCond .ne 9, 3) := by decide +kernel
theorem dX7_costs_25 : decode cX7_costs 25 = .ok (.aload_n 0, 1) := by decide +kernel
theorem dX7_costs_26 : decode cX7_costs 26 = .ok (.iconst 1, 1) := by decide +kernel
theorem dX7_costs_27 : decode cX7_costs 27 = .ok (.invokevirtual 122, 3) := by decide +kernel
theorem dX7_costs_30 : decode cX7_costs 30 = .ok (.ireturn, 1) := by decide +kernel
theorem dX7_costs_31 : decode cX7_costs 31 = .ok (.aload_n 0, 1) := by decide +kernel
theorem dX7_costs_32 : decode cX7_costs 32 = .ok (.invokevirtual 118, 3) := by decide +kernel
theorem dX7_costs_35 : decode cX7_costs 35 = .ok (.istore_n 3, 1) := by decide +kernel
theorem dX7_costs_36 : decode cX7_costs 36 = .ok (.aload_n 0, 1) := by decide +kernel
theorem dX7_costs_37 : decode cX7_costs 37 = .ok (.iload_n 1, 1) := by decide +kernel
theorem dX7_costs_38 : decode cX7_costs 38 = .ok (.putfield 16, 3) := by decide +kernel
theorem dX7_costs_41 : decode cX7_costs 41 = .ok (.aload_n 0, 1) := by decide +kernel
theorem dX7_costs_42 : decode cX7_costs 42 = .ok (.iload_n 2, 1) := by decide +kernel
theorem dX7_costs_43 : decode cX7_costs 43 = .ok (.putfield 19, 3) := by decide +kernel
theorem dX7_costs_46 : decode cX7_costs 46 = .ok (.aload_n 0, 1) := by decide +kernel
theorem dX7_costs_47 : decode cX7_costs 47 = .ok (.iload_n 3, 1) := by decide +kernel
theorem dX7_costs_48 : decode cX7_costs 48 = .ok (.invokevirtual 126, 3) := by decide +kernel
theorem dX7_costs_51 : decode cX7_costs 51 = .ok (.ireturn, 1) := by decide +kernel
theorem dX7_isDirection_0 : decode cX7_isDirection 0 = .ok (.iload_n 0, 1) := by decide +kernel
theorem dX7_isDirection_1 : decode cX7_isDirection 1 = .ok (.iconst 0, 1) := by decide +kernel
theorem dX7_isDirection_2 : decode cX7_isDirection 2 = .ok (.bipush 14, 2) := by decide +kernel
theorem dX7_isDirection_4 : decode cX7_isDirection 4 = .ok (.invokestatic 92, 3) := by decide +kernel
theorem dX7_isDirection_7 : decode cX7_isDirection 7 = .ok (.ireturn, 1) := by decide +kernel
theorem dX7_turn_0 : decode cX7_turn 0 = .ok (.aload_n 0, 1) := by decide +kernel
theorem dX7_turn_1 : decode cX7_turn 1 = .ok (.iconst 0, 1) := by decide +kernel
theorem dX7_turn_2 : decode cX7_turn 2 = .ok (.putfield 89, 3) := by decide +kernel
theorem dX7_turn_5 : decode cX7_turn 5 = .ok (.aload_n 0, 1) := by decide +kernel
theorem dX7_turn_6 : decode cX7_turn 6 = .ok (.iload_n 1, 1) := by decide +kernel
theorem dX7_turn_7 : decode cX7_turn 7 = .ok (.iload_n 2, 1) := by decide +kernel
theorem dX7_turn_8 : decode cX7_turn 8 = .ok (.invokevirtual 106, 3) := by decide +kernel
theorem dX7_turn_11 : decode cX7_turn 11 = .ok (.ifCond .ne 9, 3) := by decide +kernel
theorem dX7_turn_14 : decode cX7_turn 14 = .ok (.aload_n 0, 1) := by decide +kernel
theorem dX7_turn_15 : decode cX7_turn 15 = .ok (.iconst 1, 1) := by decide +kernel
theorem dX7_turn_16 : decode cX7_turn 16 = .ok (.invokevirtual 122, 3) := by decide +kernel
theorem dX7_turn_19 : decode cX7_turn 19 = .ok (.ireturn, 1) := by decide +kernel
theorem dX7_turn_20 : decode cX7_turn 20 = .ok (.iload_n 3, 1) := by decide +kernel
theorem dX7_turn_21 : decode cX7_turn 21 = .ok (.invokestatic 129, 3) := by decide +kernel
theorem dX7_turn_24 : decode cX7_turn 24 = .ok (.ifCond .ne 9, 3) := by decide +kernel
theorem dX7_turn_27 : decode cX7_turn 27 = .ok (.aload_n 0, 1) := by decide +kernel
theorem dX7_turn_28 : decode cX7_turn 28 = .ok (.iconst 2, 1) := by decide +kernel
theorem dX7_turn_29 : decode cX7_turn 29 = .ok (.invokevirtual 122, 3) := by decide +kernel
theorem dX7_turn_32 : decode cX7_turn 32 = .ok (.ireturn, 1) := by decide +kernel
theorem dX7_turn_33 : decode cX7_turn 33 = .ok (.aload_n 0, 1) := by decide +kernel
theorem dX7_turn_34 : decode cX7_turn 34 = .ok (.getfield 26, 3) := by decide +kernel
theorem dX7_turn_37 : decode cX7_turn 37 = .ok (.iload_n 1, 1) := by decide +kernel
theorem dX7_turn_38 : decode cX7_turn 38 = .ok (.iload_n 2, 1) := by decide +kernel
theorem dX7_turn_39 : decode cX7_turn 39 = .ok (.invokestatic 100, 3) := by decide +kernel
theorem dX7_turn_42 : decode cX7_turn 42 = .ok (.iaload, 1) := by decide +kernel
theorem dX7_turn_43 : decode cX7_turn 43 = .ok (.iconst 1, 1) := by decide +kernel
theorem dX7_turn_44 : decode cX7_turn 44 = .ok (.if_icmp .ne 9, 3) := by decide +kernel
theorem dX7_turn_47 : decode cX7_turn 47 = .ok (.aload_n 0, 1) := by decide +kernel
theorem dX7_turn_48 : decode cX7_turn 48 = .ok (.iconst 3, 1) := by decide +kernel
theorem dX7_turn_49 : decode cX7_turn 49 = .ok (.invokevirtual 122, 3) := by decide +kernel
theorem dX7_turn_52 : decode cX7_turn 52 = .ok (.ireturn, 1) := by decide +kernel
theorem dX7_turn_53 : decode cX7_turn 53 = .ok (.aload_n 0, 1) := by decide +kernel
theorem dX7_turn_54 : decode cX7_turn 54 = .ok (.invokevirtual 118, 3) := by decide +kernel
theorem dX7_turn_57 : decode cX7_turn 57 = .ok (.istore 4, 2) := by decide +kernel
theorem dX7_turn_59 : decode cX7_turn 59 = .ok (.aload_n 0, 1) := by decide +kernel
theorem dX7_turn_60 : decode cX7_turn 60 = .ok (.getfield 22, 3) := by decide +kernel
theorem dX7_turn_63 : decode cX7_turn 63 = .ok (.iload_n 1, 1) := by decide +kernel
theorem dX7_turn_64 : decode cX7_turn 64 = .ok (.iload_n 2, 1) := by decide +kernel
theorem dX7_turn_65 : decode cX7_turn 65 = .ok (.invokestatic 100, 3) := by decide +kernel
theorem dX7_turn_68 : decode cX7_turn 68 = .ok (.iload_n 3, 1) := by decide +kernel
theorem dX7_turn_69 : decode cX7_turn 69 = .ok (.iastore, 1) := by decide +kernel
theorem dX7_turn_70 : decode cX7_turn 70 = .ok (.aload_n 0, 1) := by decide +kernel
theorem dX7_turn_71 : decode cX7_turn 71 = .ok (.iload 4, 2) := by decide +kernel
theorem dX7_turn_73 : decode cX7_turn 73 = .ok (.invokevirtual 126, 3) := by decide +kernel
theorem dX7_turn_76 : decode cX7_turn 76 = .ok (.ireturn, 1) := by decide +kernel
theorem dX7_anchor_0 : decode cX7_anchor 0 = .ok (.aload_n 0, 1) := by decide +kernel
theorem dX7_anchor_1 : decode cX7_anchor 1 = .ok (.iconst 0, 1) := by decide +kernel
theorem dX7_anchor_2 : decode cX7_anchor 2 = .ok (.putfield 89, 3) := by decide +kernel
theorem dX7_anchor_5 : decode cX7_anchor 5 = .ok (.aload_n 0, 1) := by decide +kernel
theorem dX7_anchor_6 : decode cX7_anchor 6 = .ok (.iload_n 1, 1) := by decide +kernel
theorem dX7_anchor_7 : decode cX7_anchor 7 = .ok (.iload_n 2, 1) := by decide +kernel
theorem dX7_anchor_8 : decode cX7_anchor 8 = .ok (.invokevirtual 106, 3) := by decide +kernel
theorem dX7_anchor_11 : decode cX7_anchor 11 = .ok (.ifCond .ne 9, 3) := by decide +kernel
theorem dX7_anchor_14 : decode cX7_anchor 14 = .ok (.aload_n 0, 1) := by decide +kernel
theorem dX7_anchor_15 : decode cX7_anchor 15 = .ok (.iconst 1, 1) := by decide +kernel
theorem dX7_anchor_16 : decode cX7_anchor 16 = .ok (.invokevirtual 122, 3) := by decide +kernel
theorem dX7_anchor_19 : decode cX7_anchor 19 = .ok (.ireturn, 1) := by decide +kernel
theorem dX7_anchor_20 : decode cX7_anchor 20 = .ok (.iload_n 3, 1) := by decide +kernel
theorem dX7_anchor_21 : decode cX7_anchor 21 = .ok (.iconst 0, 1) := by decide +kernel
theorem dX7_anchor_22 : decode cX7_anchor 22 = .ok (.iconst 2, 1) := by decide +kernel
theorem dX7_anchor_23 : decode cX7_anchor 23 = .ok (.invokestatic 92, 3) := by decide +kernel
theorem dX7_anchor_26 : decode cX7_anchor 26 = .ok (.ifCond .eq 22, 3) := by decide +kernel
theorem dX7_anchor_29 : decode cX7_anchor 29 = .ok (.iload 4, 2) := by decide +kernel
theorem dX7_anchor_31 : decode cX7_anchor 31 = .ok (.invokestatic 129, 3) := by decide +kernel
theorem dX7_anchor_34 : decode cX7_anchor 34 = .ok (.ifCond .eq 14, 3) := by decide +kernel
theorem dX7_anchor_37 : decode cX7_anchor 37 = .ok (.iload 5, 2) := by decide +kernel
theorem dX7_anchor_39 : decode cX7_anchor 39 = .ok (.iconst 1, 1) := by decide +kernel
theorem dX7_anchor_40 : decode cX7_anchor 40 = .ok (.bipush 100, 2) := by decide +kernel
theorem dX7_anchor_42 : decode cX7_anchor 42 = .ok (.invokestatic 92, 3) := by decide +kernel
theorem dX7_anchor_45 : decode cX7_anchor 45 = .ok (.ifCond .ne 9, 3) := by decide +kernel
theorem dX7_anchor_48 : decode cX7_anchor 48 = .ok (.aload_n 0, 1) := by decide +kernel
theorem dX7_anchor_49 : decode cX7_anchor 49 = .ok (.iconst 2, 1) := by decide +kernel
theorem dX7_anchor_50 : decode cX7_anchor 50 = .ok (.invokevirtual 122, 3) := by decide +kernel
theorem dX7_anchor_53 : decode cX7_anchor 53 = .ok (.ireturn, 1) := by decide +kernel
theorem dX7_anchor_54 : decode cX7_anchor 54 = .ok (.aload_n 0, 1) := by decide +kernel
theorem dX7_anchor_55 : decode cX7_anchor 55 = .ok (.invokevirtual 118, 3) := by decide +kernel
theorem dX7_anchor_58 : decode cX7_anchor 58 = .ok (.istore 6, 2) := by decide +kernel
theorem dX7_anchor_60 : decode cX7_anchor 60 = .ok (.iload_n 1, 1) := by decide +kernel
theorem dX7_anchor_61 : decode cX7_anchor 61 = .ok (.iload_n 2, 1) := by decide +kernel
theorem dX7_anchor_62 : decode cX7_anchor 62 = .ok (.invokestatic 100, 3) := by decide +kernel
theorem dX7_anchor_65 : decode cX7_anchor 65 = .ok (.istore 7, 2) := by decide +kernel
theorem dX7_anchor_67 : decode cX7_anchor 67 = .ok (.aload_n 0, 1) := by decide +kernel
theorem dX7_anchor_68 : decode cX7_anchor 68 = .ok (.getfield 26, 3) := by decide +kernel
theorem dX7_anchor_71 : decode cX7_anchor 71 = .ok (.iload 7, 2) := by decide +kernel
theorem dX7_anchor_73 : decode cX7_anchor 73 = .ok (.iload_n 3, 1) := by decide +kernel
theorem dX7_anchor_74 : decode cX7_anchor 74 = .ok (.iastore, 1) := by decide +kernel
theorem dX7_anchor_75 : decode cX7_anchor 75 = .ok (.aload_n 0, 1) := by decide +kernel
theorem dX7_anchor_76 : decode cX7_anchor 76 = .ok (.getfield 29, 3) := by decide +kernel
theorem dX7_anchor_79 : decode cX7_anchor 79 = .ok (.iload 7, 2) := by decide +kernel
theorem dX7_anchor_81 : decode cX7_anchor 81 = .ok (.iload 4, 2) := by decide +kernel
theorem dX7_anchor_83 : decode cX7_anchor 83 = .ok (.iastore, 1) := by decide +kernel
theorem dX7_anchor_84 : decode cX7_anchor 84 = .ok (.aload_n 0, 1) := by decide +kernel
theorem dX7_anchor_85 : decode cX7_anchor 85 = .ok (.getfield 32, 3) := by decide +kernel
theorem dX7_anchor_88 : decode cX7_anchor 88 = .ok (.iload 7, 2) := by decide +kernel
theorem dX7_anchor_90 : decode cX7_anchor 90 = .ok (.iload 5, 2) := by decide +kernel
theorem dX7_anchor_92 : decode cX7_anchor 92 = .ok (.iastore, 1) := by decide +kernel
theorem dX7_anchor_93 : decode cX7_anchor 93 = .ok (.aload_n 0, 1) := by decide +kernel
theorem dX7_anchor_94 : decode cX7_anchor 94 = .ok (.getfield 22, 3) := by decide +kernel
theorem dX7_anchor_97 : decode cX7_anchor 97 = .ok (.iload 7, 2) := by decide +kernel
theorem dX7_anchor_99 : decode cX7_anchor 99 = .ok (.iload_n 3, 1) := by decide +kernel
theorem dX7_anchor_100 : decode cX7_anchor 100 = .ok (.iconst 1, 1) := by decide +kernel
theorem dX7_anchor_101 : decode cX7_anchor 101 = .ok (.if_icmp .ne 8, 3) := by decide +kernel
theorem dX7_anchor_104 : decode cX7_anchor 104 = .ok (.iload 4, 2) := by decide +kernel
theorem dX7_anchor_106 : decode cX7_anchor 106 = .ok (.goto 10, 3) := by decide +kernel
theorem dX7_anchor_109 : decode cX7_anchor 109 = .ok (.aload_n 0, 1) := by decide +kernel
theorem dX7_anchor_110 : decode cX7_anchor 110 = .ok (.getfield 22, 3) := by decide +kernel
theorem dX7_anchor_113 : decode cX7_anchor 113 = .ok (.iload 7, 2) := by decide +kernel
theorem dX7_anchor_115 : decode cX7_anchor 115 = .ok (.iaload, 1) := by decide +kernel
theorem dX7_anchor_116 : decode cX7_anchor 116 = .ok (.iastore, 1) := by decide +kernel
theorem dX7_anchor_117 : decode cX7_anchor 117 = .ok (.aload_n 0, 1) := by decide +kernel
theorem dX7_anchor_118 : decode cX7_anchor 118 = .ok (.iload 6, 2) := by decide +kernel
theorem dX7_anchor_120 : decode cX7_anchor 120 = .ok (.invokevirtual 126, 3) := by decide +kernel
theorem dX7_anchor_123 : decode cX7_anchor 123 = .ok (.ireturn, 1) := by decide +kernel
theorem dX7_pixel_0 : decode cX7_pixel 0 = .ok (.aload_n 0, 1) := by decide +kernel
theorem dX7_pixel_1 : decode cX7_pixel 1 = .ok (.iconst 0, 1) := by decide +kernel
theorem dX7_pixel_2 : decode cX7_pixel 2 = .ok (.putfield 89, 3) := by decide +kernel
theorem dX7_pixel_5 : decode cX7_pixel 5 = .ok (.aload_n 0, 1) := by decide +kernel
theorem dX7_pixel_6 : decode cX7_pixel 6 = .ok (.iload_n 1, 1) := by decide +kernel
theorem dX7_pixel_7 : decode cX7_pixel 7 = .ok (.iload_n 2, 1) := by decide +kernel
theorem dX7_pixel_8 : decode cX7_pixel 8 = .ok (.invokevirtual 106, 3) := by decide +kernel
theorem dX7_pixel_11 : decode cX7_pixel 11 = .ok (.ifCond .ne 9, 3) := by decide +kernel
theorem dX7_pixel_14 : decode cX7_pixel 14 = .ok (.aload_n 0, 1) := by decide +kernel
theorem dX7_pixel_15 : decode cX7_pixel 15 = .ok (.iconst 1, 1) := by decide +kernel
theorem dX7_pixel_16 : decode cX7_pixel 16 = .ok (.invokevirtual 122, 3) := by decide +kernel
theorem dX7_pixel_19 : decode cX7_pixel 19 = .ok (.ireturn, 1) := by decide +kernel
theorem dX7_pixel_20 : decode cX7_pixel 20 = .ok (.iload_n 3, 1) := by decide +kernel
theorem dX7_pixel_21 : decode cX7_pixel 21 = .ok (.iconst 1, 1) := by decide +kernel
theorem dX7_pixel_22 : decode cX7_pixel 22 = .ok (.bipush 12, 2) := by decide +kernel
theorem dX7_pixel_24 : decode cX7_pixel 24 = .ok (.invokestatic 92, 3) := by decide +kernel
theorem dX7_pixel_27 : decode cX7_pixel 27 = .ok (.ifCond .eq 32, 3) := by decide +kernel
theorem dX7_pixel_30 : decode cX7_pixel 30 = .ok (.iload 4, 2) := by decide +kernel
theorem dX7_pixel_32 : decode cX7_pixel 32 = .ok (.iconst 1, 1) := by decide +kernel
theorem dX7_pixel_33 : decode cX7_pixel 33 = .ok (.bipush 12, 2) := by decide +kernel
theorem dX7_pixel_35 : decode cX7_pixel 35 = .ok (.invokestatic 92, 3) := by decide +kernel
theorem dX7_pixel_38 : decode cX7_pixel 38 = .ok (.ifCond .eq 21, 3) := by decide +kernel
theorem dX7_pixel_41 : decode cX7_pixel 41 = .ok (.aload_n 0, 1) := by decide +kernel
theorem dX7_pixel_42 : decode cX7_pixel 42 = .ok (.iload_n 1, 1) := by decide +kernel
theorem dX7_pixel_43 : decode cX7_pixel 43 = .ok (.iload_n 3, 1) := by decide +kernel
theorem dX7_pixel_44 : decode cX7_pixel 44 = .ok (.iadd, 1) := by decide +kernel
theorem dX7_pixel_45 : decode cX7_pixel 45 = .ok (.iconst 1, 1) := by decide +kernel
theorem dX7_pixel_46 : decode cX7_pixel 46 = .ok (.isub, 1) := by decide +kernel
theorem dX7_pixel_47 : decode cX7_pixel 47 = .ok (.iload_n 2, 1) := by decide +kernel
theorem dX7_pixel_48 : decode cX7_pixel 48 = .ok (.iload 4, 2) := by decide +kernel
theorem dX7_pixel_50 : decode cX7_pixel 50 = .ok (.iadd, 1) := by decide +kernel
theorem dX7_pixel_51 : decode cX7_pixel 51 = .ok (.iconst 1, 1) := by decide +kernel
theorem dX7_pixel_52 : decode cX7_pixel 52 = .ok (.isub, 1) := by decide +kernel
theorem dX7_pixel_53 : decode cX7_pixel 53 = .ok (.invokevirtual 106, 3) := by decide +kernel
theorem dX7_pixel_56 : decode cX7_pixel 56 = .ok (.ifCond .ne 9, 3) := by decide +kernel
theorem dX7_pixel_59 : decode cX7_pixel 59 = .ok (.aload_n 0, 1) := by decide +kernel
theorem dX7_pixel_60 : decode cX7_pixel 60 = .ok (.iconst 2, 1) := by decide +kernel
theorem dX7_pixel_61 : decode cX7_pixel 61 = .ok (.invokevirtual 122, 3) := by decide +kernel
theorem dX7_pixel_64 : decode cX7_pixel 64 = .ok (.ireturn, 1) := by decide +kernel
theorem dX7_pixel_65 : decode cX7_pixel 65 = .ok (.aload_n 0, 1) := by decide +kernel
theorem dX7_pixel_66 : decode cX7_pixel 66 = .ok (.getfield 71, 3) := by decide +kernel
theorem dX7_pixel_69 : decode cX7_pixel 69 = .ok (.bipush 8, 2) := by decide +kernel
theorem dX7_pixel_71 : decode cX7_pixel 71 = .ok (.if_icmp .ge 7, 3) := by decide +kernel
theorem dX7_pixel_74 : decode cX7_pixel 74 = .ok (.iconst 1, 1) := by decide +kernel
theorem dX7_pixel_75 : decode cX7_pixel 75 = .ok (.goto 4, 3) := by decide +kernel
theorem dX7_pixel_78 : decode cX7_pixel 78 = .ok (.iconst 0, 1) := by decide +kernel
theorem dX7_pixel_79 : decode cX7_pixel 79 = .ok (.istore 5, 2) := by decide +kernel
theorem dX7_pixel_81 : decode cX7_pixel 81 = .ok (.iconst 0, 1) := by decide +kernel
theorem dX7_pixel_82 : decode cX7_pixel 82 = .ok (.istore 6, 2) := by decide +kernel
theorem dX7_pixel_84 : decode cX7_pixel 84 = .ok (.iload 6, 2) := by decide +kernel
theorem dX7_pixel_86 : decode cX7_pixel 86 = .ok (.iload_n 3, 1) := by decide +kernel
theorem dX7_pixel_87 : decode cX7_pixel 87 = .ok (.iload 4, 2) := by decide +kernel
theorem dX7_pixel_89 : decode cX7_pixel 89 = .ok (.imul, 1) := by decide +kernel
theorem dX7_pixel_90 : decode cX7_pixel 90 = .ok (.if_icmp .ge 45, 3) := by decide +kernel
theorem dX7_pixel_93 : decode cX7_pixel 93 = .ok (.iload 5, 2) := by decide +kernel
theorem dX7_pixel_95 : decode cX7_pixel 95 = .ok (.ifCond .eq 31, 3) := by decide +kernel
theorem dX7_pixel_98 : decode cX7_pixel 98 = .ok (.aload_n 0, 1) := by decide +kernel
theorem dX7_pixel_99 : decode cX7_pixel 99 = .ok (.getfield 35, 3) := by decide +kernel
theorem dX7_pixel_102 : decode cX7_pixel 102 = .ok (.iload_n 1, 1) := by decide +kernel
theorem dX7_pixel_103 : decode cX7_pixel 103 = .ok (.iload 6, 2) := by decide +kernel
theorem dX7_pixel_105 : decode cX7_pixel 105 = .ok (.iload_n 3, 1) := by decide +kernel
theorem dX7_pixel_106 : decode cX7_pixel 106 = .ok (.irem, 1) := by decide +kernel
theorem dX7_pixel_107 : decode cX7_pixel 107 = .ok (.iadd, 1) := by decide +kernel
theorem dX7_pixel_108 : decode cX7_pixel 108 = .ok (.iload_n 2, 1) := by decide +kernel
theorem dX7_pixel_109 : decode cX7_pixel 109 = .ok (.iload 6, 2) := by decide +kernel
theorem dX7_pixel_111 : decode cX7_pixel 111 = .ok (.iload_n 3, 1) := by decide +kernel
theorem dX7_pixel_112 : decode cX7_pixel 112 = .ok (.idiv, 1) := by decide +kernel
theorem dX7_pixel_113 : decode cX7_pixel 113 = .ok (.iadd, 1) := by decide +kernel
theorem dX7_pixel_114 : decode cX7_pixel 114 = .ok (.invokestatic 100, 3) := by decide +kernel
theorem dX7_pixel_117 : decode cX7_pixel 117 = .ok (.iaload, 1) := by decide +kernel
theorem dX7_pixel_118 : decode cX7_pixel 118 = .ok (.iconst (-1), 1) := by decide +kernel
theorem dX7_pixel_119 : decode cX7_pixel 119 = .ok (.if_icmp .ne 7, 3) := by decide +kernel
theorem dX7_pixel_122 : decode cX7_pixel 122 = .ok (.iconst 1, 1) := by decide +kernel
theorem dX7_pixel_123 : decode cX7_pixel 123 = .ok (.goto 4, 3) := by decide +kernel
theorem dX7_pixel_126 : decode cX7_pixel 126 = .ok (.iconst 0, 1) := by decide +kernel
theorem dX7_pixel_127 : decode cX7_pixel 127 = .ok (.istore 5, 2) := by decide +kernel
theorem dX7_pixel_129 : decode cX7_pixel 129 = .ok (.iinc 6 1, 3) := by decide +kernel
theorem dX7_pixel_132 : decode cX7_pixel 132 = .ok (.goto (-48), 3) := by decide +kernel
theorem dX7_pixel_135 : decode cX7_pixel 135 = .ok (.iload 5, 2) := by decide +kernel
theorem dX7_pixel_137 : decode cX7_pixel 137 = .ok (.ifCond .ne 9, 3) := by decide +kernel
theorem dX7_pixel_140 : decode cX7_pixel 140 = .ok (.aload_n 0, 1) := by decide +kernel
theorem dX7_pixel_141 : decode cX7_pixel 141 = .ok (.iconst 3, 1) := by decide +kernel
theorem dX7_pixel_142 : decode cX7_pixel 142 = .ok (.invokevirtual 122, 3) := by decide +kernel
theorem dX7_pixel_145 : decode cX7_pixel 145 = .ok (.ireturn, 1) := by decide +kernel
theorem dX7_pixel_146 : decode cX7_pixel 146 = .ok (.iconst 0, 1) := by decide +kernel
theorem dX7_pixel_147 : decode cX7_pixel 147 = .ok (.istore 6, 2) := by decide +kernel
theorem dX7_pixel_149 : decode cX7_pixel 149 = .ok (.iload 6, 2) := by decide +kernel
theorem dX7_pixel_151 : decode cX7_pixel 151 = .ok (.iload_n 3, 1) := by decide +kernel
theorem dX7_pixel_152 : decode cX7_pixel 152 = .ok (.iload 4, 2) := by decide +kernel
theorem dX7_pixel_154 : decode cX7_pixel 154 = .ok (.imul, 1) := by decide +kernel
theorem dX7_pixel_155 : decode cX7_pixel 155 = .ok (.if_icmp .ge 33, 3) := by decide +kernel
theorem dX7_pixel_158 : decode cX7_pixel 158 = .ok (.aload_n 0, 1) := by decide +kernel
theorem dX7_pixel_159 : decode cX7_pixel 159 = .ok (.getfield 35, 3) := by decide +kernel
theorem dX7_pixel_162 : decode cX7_pixel 162 = .ok (.iload_n 1, 1) := by decide +kernel
theorem dX7_pixel_163 : decode cX7_pixel 163 = .ok (.iload 6, 2) := by decide +kernel
theorem dX7_pixel_165 : decode cX7_pixel 165 = .ok (.iload_n 3, 1) := by decide +kernel
theorem dX7_pixel_166 : decode cX7_pixel 166 = .ok (.irem, 1) := by decide +kernel
theorem dX7_pixel_167 : decode cX7_pixel 167 = .ok (.iadd, 1) := by decide +kernel
theorem dX7_pixel_168 : decode cX7_pixel 168 = .ok (.iload_n 2, 1) := by decide +kernel
theorem dX7_pixel_169 : decode cX7_pixel 169 = .ok (.iload 6, 2) := by decide +kernel
theorem dX7_pixel_171 : decode cX7_pixel 171 = .ok (.iload_n 3, 1) := by decide +kernel
theorem dX7_pixel_172 : decode cX7_pixel 172 = .ok (.idiv, 1) := by decide +kernel
theorem dX7_pixel_173 : decode cX7_pixel 173 = .ok (.iadd, 1) := by decide +kernel
theorem dX7_pixel_174 : decode cX7_pixel 174 = .ok (.invokestatic 100, 3) := by decide +kernel
theorem dX7_pixel_177 : decode cX7_pixel 177 = .ok (.aload_n 0, 1) := by decide +kernel
theorem dX7_pixel_178 : decode cX7_pixel 178 = .ok (.getfield 71, 3) := by decide +kernel
theorem dX7_pixel_181 : decode cX7_pixel 181 = .ok (.iastore, 1) := by decide +kernel
theorem dX7_pixel_182 : decode cX7_pixel 182 = .ok (.iinc 6 1, 3) := by decide +kernel
theorem dX7_pixel_185 : decode cX7_pixel 185 = .ok (.goto (-36), 3) := by decide +kernel
theorem dX7_pixel_188 : decode cX7_pixel 188 = .ok (.aload_n 0, 1) := by decide +kernel
theorem dX7_pixel_189 : decode cX7_pixel 189 = .ok (.getfield 38, 3) := by decide +kernel
theorem dX7_pixel_192 : decode cX7_pixel 192 = .ok (.aload_n 0, 1) := by decide +kernel
theorem dX7_pixel_193 : decode cX7_pixel 193 = .ok (.getfield 71, 3) := by decide +kernel
theorem dX7_pixel_196 : decode cX7_pixel 196 = .ok (.iconst 0, 1) := by decide +kernel
theorem dX7_pixel_197 : decode cX7_pixel 197 = .ok (.iastore, 1) := by decide +kernel
theorem dX7_pixel_198 : decode cX7_pixel 198 = .ok (.aload_n 0, 1) := by decide +kernel
theorem dX7_pixel_199 : decode cX7_pixel 199 = .ok (.getfield 41, 3) := by decide +kernel
theorem dX7_pixel_202 : decode cX7_pixel 202 = .ok (.aload_n 0, 1) := by decide +kernel
theorem dX7_pixel_203 : decode cX7_pixel 203 = .ok (.getfield 71, 3) := by decide +kernel
theorem dX7_pixel_206 : decode cX7_pixel 206 = .ok (.iconst 0, 1) := by decide +kernel
theorem dX7_pixel_207 : decode cX7_pixel 207 = .ok (.iastore, 1) := by decide +kernel
theorem dX7_pixel_208 : decode cX7_pixel 208 = .ok (.aload_n 0, 1) := by decide +kernel
theorem dX7_pixel_209 : decode cX7_pixel 209 = .ok (.getfield 47, 3) := by decide +kernel
theorem dX7_pixel_212 : decode cX7_pixel 212 = .ok (.aload_n 0, 1) := by decide +kernel
theorem dX7_pixel_213 : decode cX7_pixel 213 = .ok (.getfield 71, 3) := by decide +kernel
theorem dX7_pixel_216 : decode cX7_pixel 216 = .ok (.iconst 0, 1) := by decide +kernel
theorem dX7_pixel_217 : decode cX7_pixel 217 = .ok (.iastore, 1) := by decide +kernel
theorem dX7_pixel_218 : decode cX7_pixel 218 = .ok (.aload_n 0, 1) := by decide +kernel
theorem dX7_pixel_219 : decode cX7_pixel 219 = .ok (.dup, 1) := by decide +kernel
theorem dX7_pixel_220 : decode cX7_pixel 220 = .ok (.getfield 71, 3) := by decide +kernel
theorem dX7_pixel_223 : decode cX7_pixel 223 = .ok (.iconst 1, 1) := by decide +kernel
theorem dX7_pixel_224 : decode cX7_pixel 224 = .ok (.iadd, 1) := by decide +kernel
theorem dX7_pixel_225 : decode cX7_pixel 225 = .ok (.putfield 71, 3) := by decide +kernel
theorem dX7_pixel_228 : decode cX7_pixel 228 = .ok (.aload_n 0, 1) := by decide +kernel
theorem dX7_pixel_229 : decode cX7_pixel 229 = .ok (.getfield 71, 3) := by decide +kernel
theorem dX7_pixel_232 : decode cX7_pixel 232 = .ok (.iconst 1, 1) := by decide +kernel
theorem dX7_pixel_233 : decode cX7_pixel 233 = .ok (.isub, 1) := by decide +kernel
theorem dX7_pixel_234 : decode cX7_pixel 234 = .ok (.ireturn, 1) := by decide +kernel
theorem dX7_isPixel_0 : decode cX7_isPixel 0 = .ok (.iload_n 1, 1) := by decide +kernel
theorem dX7_isPixel_1 : decode cX7_isPixel 1 = .ok (.iconst 0, 1) := by decide +kernel
theorem dX7_isPixel_2 : decode cX7_isPixel 2 = .ok (.aload_n 0, 1) := by decide +kernel
theorem dX7_isPixel_3 : decode cX7_isPixel 3 = .ok (.getfield 71, 3) := by decide +kernel
theorem dX7_isPixel_6 : decode cX7_isPixel 6 = .ok (.iconst 1, 1) := by decide +kernel
theorem dX7_isPixel_7 : decode cX7_isPixel 7 = .ok (.isub, 1) := by decide +kernel
theorem dX7_isPixel_8 : decode cX7_isPixel 8 = .ok (.invokestatic 92, 3) := by decide +kernel
theorem dX7_isPixel_11 : decode cX7_isPixel 11 = .ok (.ireturn, 1) := by decide +kernel
theorem dX7_driven_0 : decode cX7_driven 0 = .ok (.aload_n 0, 1) := by decide +kernel
theorem dX7_driven_1 : decode cX7_driven 1 = .ok (.invokevirtual 118, 3) := by decide +kernel
theorem dX7_driven_4 : decode cX7_driven 4 = .ok (.istore 4, 2) := by decide +kernel
theorem dX7_driven_6 : decode cX7_driven 6 = .ok (.aload_n 0, 1) := by decide +kernel
theorem dX7_driven_7 : decode cX7_driven 7 = .ok (.getfield 38, 3) := by decide +kernel
theorem dX7_driven_10 : decode cX7_driven 10 = .ok (.iload_n 1, 1) := by decide +kernel
theorem dX7_driven_11 : decode cX7_driven 11 = .ok (.iload_n 2, 1) := by decide +kernel
theorem dX7_driven_12 : decode cX7_driven 12 = .ok (.iastore, 1) := by decide +kernel
theorem dX7_driven_13 : decode cX7_driven 13 = .ok (.aload_n 0, 1) := by decide +kernel
theorem dX7_driven_14 : decode cX7_driven 14 = .ok (.getfield 41, 3) := by decide +kernel
theorem dX7_driven_17 : decode cX7_driven 17 = .ok (.iload_n 1, 1) := by decide +kernel
theorem dX7_driven_18 : decode cX7_driven 18 = .ok (.iload_n 3, 1) := by decide +kernel
theorem dX7_driven_19 : decode cX7_driven 19 = .ok (.iastore, 1) := by decide +kernel
theorem dX7_driven_20 : decode cX7_driven 20 = .ok (.aload_n 0, 1) := by decide +kernel
theorem dX7_driven_21 : decode cX7_driven 21 = .ok (.iload 4, 2) := by decide +kernel
theorem dX7_driven_23 : decode cX7_driven 23 = .ok (.invokevirtual 126, 3) := by decide +kernel
theorem dX7_driven_26 : decode cX7_driven 26 = .ok (.ireturn, 1) := by decide +kernel
theorem dX7_drive_0 : decode cX7_drive 0 = .ok (.aload_n 0, 1) := by decide +kernel
theorem dX7_drive_1 : decode cX7_drive 1 = .ok (.iconst 0, 1) := by decide +kernel
theorem dX7_drive_2 : decode cX7_drive 2 = .ok (.putfield 89, 3) := by decide +kernel
theorem dX7_drive_5 : decode cX7_drive 5 = .ok (.aload_n 0, 1) := by decide +kernel
theorem dX7_drive_6 : decode cX7_drive 6 = .ok (.iload_n 1, 1) := by decide +kernel
theorem dX7_drive_7 : decode cX7_drive 7 = .ok (.invokevirtual 133, 3) := by decide +kernel
theorem dX7_drive_10 : decode cX7_drive 10 = .ok (.ifCond .ne 9, 3) := by decide +kernel
theorem dX7_drive_13 : decode cX7_drive 13 = .ok (.aload_n 0, 1) := by decide +kernel
theorem dX7_drive_14 : decode cX7_drive 14 = .ok (.iconst 1, 1) := by decide +kernel
theorem dX7_drive_15 : decode cX7_drive 15 = .ok (.invokevirtual 122, 3) := by decide +kernel
theorem dX7_drive_18 : decode cX7_drive 18 = .ok (.ireturn, 1) := by decide +kernel
theorem dX7_drive_19 : decode cX7_drive 19 = .ok (.iload_n 2, 1) := by decide +kernel
theorem dX7_drive_20 : decode cX7_drive 20 = .ok (.invokestatic 129, 3) := by decide +kernel
theorem dX7_drive_23 : decode cX7_drive 23 = .ok (.ifCond .eq 13, 3) := by decide +kernel
theorem dX7_drive_26 : decode cX7_drive 26 = .ok (.iload_n 3, 1) := by decide +kernel
theorem dX7_drive_27 : decode cX7_drive 27 = .ok (.iconst 0, 1) := by decide +kernel
theorem dX7_drive_28 : decode cX7_drive 28 = .ok (.bipush 100, 2) := by decide +kernel
theorem dX7_drive_30 : decode cX7_drive 30 = .ok (.invokestatic 92, 3) := by decide +kernel
theorem dX7_drive_33 : decode cX7_drive 33 = .ok (.ifCond .ne 9, 3) := by decide +kernel
theorem dX7_drive_36 : decode cX7_drive 36 = .ok (.aload_n 0, 1) := by decide +kernel
theorem dX7_drive_37 : decode cX7_drive 37 = .ok (.iconst 2, 1) := by decide +kernel
theorem dX7_drive_38 : decode cX7_drive 38 = .ok (.invokevirtual 122, 3) := by decide +kernel
theorem dX7_drive_41 : decode cX7_drive 41 = .ok (.ireturn, 1) := by decide +kernel
theorem dX7_drive_42 : decode cX7_drive 42 = .ok (.aload_n 0, 1) := by decide +kernel
theorem dX7_drive_43 : decode cX7_drive 43 = .ok (.iload_n 1, 1) := by decide +kernel
theorem dX7_drive_44 : decode cX7_drive 44 = .ok (.iload_n 2, 1) := by decide +kernel
theorem dX7_drive_45 : decode cX7_drive 45 = .ok (.iload_n 3, 1) := by decide +kernel
theorem dX7_drive_46 : decode cX7_drive 46 = .ok (.invokevirtual 136, 3) := by decide +kernel
theorem dX7_drive_49 : decode cX7_drive 49 = .ok (.ireturn, 1) := by decide +kernel
theorem dX7_program_0 : decode cX7_program 0 = .ok (.aload_n 0, 1) := by decide +kernel
theorem dX7_program_1 : decode cX7_program 1 = .ok (.iconst 0, 1) := by decide +kernel
theorem dX7_program_2 : decode cX7_program 2 = .ok (.putfield 89, 3) := by decide +kernel
theorem dX7_program_5 : decode cX7_program 5 = .ok (.aload_n 0, 1) := by decide +kernel
theorem dX7_program_6 : decode cX7_program 6 = .ok (.iload_n 1, 1) := by decide +kernel
theorem dX7_program_7 : decode cX7_program 7 = .ok (.invokevirtual 133, 3) := by decide +kernel
theorem dX7_program_10 : decode cX7_program 10 = .ok (.ifCond .ne 9, 3) := by decide +kernel
theorem dX7_program_13 : decode cX7_program 13 = .ok (.aload_n 0, 1) := by decide +kernel
theorem dX7_program_14 : decode cX7_program 14 = .ok (.iconst 1, 1) := by decide +kernel
theorem dX7_program_15 : decode cX7_program 15 = .ok (.invokevirtual 122, 3) := by decide +kernel
theorem dX7_program_18 : decode cX7_program 18 = .ok (.ireturn, 1) := by decide +kernel
theorem dX7_program_19 : decode cX7_program 19 = .ok (.iload_n 2, 1) := by decide +kernel
theorem dX7_program_20 : decode cX7_program 20 = .ok (.aload_n 0, 1) := by decide +kernel
theorem dX7_program_21 : decode cX7_program 21 = .ok (.getfield 80, 3) := by decide +kernel
theorem dX7_program_24 : decode cX7_program 24 = .ok (.if_icmp .le 28, 3) := by decide +kernel
theorem dX7_program_27 : decode cX7_program 27 = .ok (.iload_n 2, 1) := by decide +kernel
theorem dX7_program_28 : decode cX7_program 28 = .ok (.sipush 2000, 3) := by decide +kernel
theorem dX7_program_31 : decode cX7_program 31 = .ok (.if_icmp .gt 21, 3) := by decide +kernel
theorem dX7_program_34 : decode cX7_program 34 = .ok (.iload_n 3, 1) := by decide +kernel
theorem dX7_program_35 : decode cX7_program 35 = .ok (.invokestatic 129, 3) := by decide +kernel
theorem dX7_program_38 : decode cX7_program 38 = .ok (.ifCond .eq 14, 3) := by decide +kernel
theorem dX7_program_41 : decode cX7_program 41 = .ok (.iload 4, 2) := by decide +kernel
theorem dX7_program_43 : decode cX7_program 43 = .ok (.iconst 0, 1) := by decide +kernel
theorem dX7_program_44 : decode cX7_program 44 = .ok (.bipush 100, 2) := by decide +kernel
theorem dX7_program_46 : decode cX7_program 46 = .ok (.invokestatic 92, 3) := by decide +kernel
theorem dX7_program_49 : decode cX7_program 49 = .ok (.ifCond .ne 9, 3) := by decide +kernel
theorem dX7_program_52 : decode cX7_program 52 = .ok (.aload_n 0, 1) := by decide +kernel
theorem dX7_program_53 : decode cX7_program 53 = .ok (.iconst 2, 1) := by decide +kernel
theorem dX7_program_54 : decode cX7_program 54 = .ok (.invokevirtual 122, 3) := by decide +kernel
theorem dX7_program_57 : decode cX7_program 57 = .ok (.ireturn, 1) := by decide +kernel
theorem dX7_program_58 : decode cX7_program 58 = .ok (.aload_n 0, 1) := by decide +kernel
theorem dX7_program_59 : decode cX7_program 59 = .ok (.getfield 74, 3) := by decide +kernel
theorem dX7_program_62 : decode cX7_program 62 = .ok (.bipush 40, 2) := by decide +kernel
theorem dX7_program_64 : decode cX7_program 64 = .ok (.if_icmp .ne 9, 3) := by decide +kernel
theorem dX7_program_67 : decode cX7_program 67 = .ok (.aload_n 0, 1) := by decide +kernel
theorem dX7_program_68 : decode cX7_program 68 = .ok (.iconst 3, 1) := by decide +kernel
theorem dX7_program_69 : decode cX7_program 69 = .ok (.invokevirtual 122, 3) := by decide +kernel
theorem dX7_program_72 : decode cX7_program 72 = .ok (.ireturn, 1) := by decide +kernel
theorem dX7_program_73 : decode cX7_program 73 = .ok (.aload_n 0, 1) := by decide +kernel
theorem dX7_program_74 : decode cX7_program 74 = .ok (.getfield 50, 3) := by decide +kernel
theorem dX7_program_77 : decode cX7_program 77 = .ok (.aload_n 0, 1) := by decide +kernel
theorem dX7_program_78 : decode cX7_program 78 = .ok (.getfield 74, 3) := by decide +kernel
theorem dX7_program_81 : decode cX7_program 81 = .ok (.iload_n 1, 1) := by decide +kernel
theorem dX7_program_82 : decode cX7_program 82 = .ok (.iastore, 1) := by decide +kernel
theorem dX7_program_83 : decode cX7_program 83 = .ok (.aload_n 0, 1) := by decide +kernel
theorem dX7_program_84 : decode cX7_program 84 = .ok (.getfield 53, 3) := by decide +kernel
theorem dX7_program_87 : decode cX7_program 87 = .ok (.aload_n 0, 1) := by decide +kernel
theorem dX7_program_88 : decode cX7_program 88 = .ok (.getfield 74, 3) := by decide +kernel
theorem dX7_program_91 : decode cX7_program 91 = .ok (.iload_n 2, 1) := by decide +kernel
theorem dX7_program_92 : decode cX7_program 92 = .ok (.iastore, 1) := by decide +kernel
theorem dX7_program_93 : decode cX7_program 93 = .ok (.aload_n 0, 1) := by decide +kernel
theorem dX7_program_94 : decode cX7_program 94 = .ok (.getfield 56, 3) := by decide +kernel
theorem dX7_program_97 : decode cX7_program 97 = .ok (.aload_n 0, 1) := by decide +kernel
theorem dX7_program_98 : decode cX7_program 98 = .ok (.getfield 74, 3) := by decide +kernel
theorem dX7_program_101 : decode cX7_program 101 = .ok (.iload_n 3, 1) := by decide +kernel
theorem dX7_program_102 : decode cX7_program 102 = .ok (.iastore, 1) := by decide +kernel
theorem dX7_program_103 : decode cX7_program 103 = .ok (.aload_n 0, 1) := by decide +kernel
theorem dX7_program_104 : decode cX7_program 104 = .ok (.getfield 59, 3) := by decide +kernel
theorem dX7_program_107 : decode cX7_program 107 = .ok (.aload_n 0, 1) := by decide +kernel
theorem dX7_program_108 : decode cX7_program 108 = .ok (.getfield 74, 3) := by decide +kernel
theorem dX7_program_111 : decode cX7_program 111 = .ok (.iload 4, 2) := by decide +kernel
theorem dX7_program_113 : decode cX7_program 113 = .ok (.iastore, 1) := by decide +kernel
theorem dX7_program_114 : decode cX7_program 114 = .ok (.aload_n 0, 1) := by decide +kernel
theorem dX7_program_115 : decode cX7_program 115 = .ok (.dup, 1) := by decide +kernel
theorem dX7_program_116 : decode cX7_program 116 = .ok (.getfield 74, 3) := by decide +kernel
theorem dX7_program_119 : decode cX7_program 119 = .ok (.iconst 1, 1) := by decide +kernel
theorem dX7_program_120 : decode cX7_program 120 = .ok (.iadd, 1) := by decide +kernel
theorem dX7_program_121 : decode cX7_program 121 = .ok (.putfield 74, 3) := by decide +kernel
theorem dX7_program_124 : decode cX7_program 124 = .ok (.aload_n 0, 1) := by decide +kernel
theorem dX7_program_125 : decode cX7_program 125 = .ok (.getfield 74, 3) := by decide +kernel
theorem dX7_program_128 : decode cX7_program 128 = .ok (.ireturn, 1) := by decide +kernel
theorem dX7_driveAll_0 : decode cX7_driveAll 0 = .ok (.iconst 0, 1) := by decide +kernel
theorem dX7_driveAll_1 : decode cX7_driveAll 1 = .ok (.istore_n 1, 1) := by decide +kernel
theorem dX7_driveAll_2 : decode cX7_driveAll 2 = .ok (.iconst 0, 1) := by decide +kernel
theorem dX7_driveAll_3 : decode cX7_driveAll 3 = .ok (.istore_n 2, 1) := by decide +kernel
theorem dX7_driveAll_4 : decode cX7_driveAll 4 = .ok (.iload_n 2, 1) := by decide +kernel
theorem dX7_driveAll_5 : decode cX7_driveAll 5 = .ok (.aload_n 0, 1) := by decide +kernel
theorem dX7_driveAll_6 : decode cX7_driveAll 6 = .ok (.getfield 74, 3) := by decide +kernel
theorem dX7_driveAll_9 : decode cX7_driveAll 9 = .ok (.if_icmp .ge 99, 3) := by decide +kernel
theorem dX7_driveAll_12 : decode cX7_driveAll 12 = .ok (.aload_n 0, 1) := by decide +kernel
theorem dX7_driveAll_13 : decode cX7_driveAll 13 = .ok (.getfield 53, 3) := by decide +kernel
theorem dX7_driveAll_16 : decode cX7_driveAll 16 = .ok (.iload_n 2, 1) := by decide +kernel
theorem dX7_driveAll_17 : decode cX7_driveAll 17 = .ok (.iaload, 1) := by decide +kernel
theorem dX7_driveAll_18 : decode cX7_driveAll 18 = .ok (.aload_n 0, 1) := by decide +kernel
theorem dX7_driveAll_19 : decode cX7_driveAll 19 = .ok (.getfield 80, 3) := by decide +kernel
theorem dX7_driveAll_22 : decode cX7_driveAll 22 = .ok (.if_icmp .ne 29, 3) := by decide +kernel
theorem dX7_driveAll_25 : decode cX7_driveAll 25 = .ok (.aload_n 0, 1) := by decide +kernel
theorem dX7_driveAll_26 : decode cX7_driveAll 26 = .ok (.aload_n 0, 1) := by decide +kernel
theorem dX7_driveAll_27 : decode cX7_driveAll 27 = .ok (.getfield 50, 3) := by decide +kernel
theorem dX7_driveAll_30 : decode cX7_driveAll 30 = .ok (.iload_n 2, 1) := by decide +kernel
theorem dX7_driveAll_31 : decode cX7_driveAll 31 = .ok (.iaload, 1) := by decide +kernel
theorem dX7_driveAll_32 : decode cX7_driveAll 32 = .ok (.aload_n 0, 1) := by decide +kernel
theorem dX7_driveAll_33 : decode cX7_driveAll 33 = .ok (.getfield 56, 3) := by decide +kernel
theorem dX7_driveAll_36 : decode cX7_driveAll 36 = .ok (.iload_n 2, 1) := by decide +kernel
theorem dX7_driveAll_37 : decode cX7_driveAll 37 = .ok (.iaload, 1) := by decide +kernel
theorem dX7_driveAll_38 : decode cX7_driveAll 38 = .ok (.aload_n 0, 1) := by decide +kernel
theorem dX7_driveAll_39 : decode cX7_driveAll 39 = .ok (.getfield 59, 3) := by decide +kernel
theorem dX7_driveAll_42 : decode cX7_driveAll 42 = .ok (.iload_n 2, 1) := by decide +kernel
theorem dX7_driveAll_43 : decode cX7_driveAll 43 = .ok (.iaload, 1) := by decide +kernel
theorem dX7_driveAll_44 : decode cX7_driveAll 44 = .ok (.invokevirtual 136, 3) := by decide +kernel
theorem dX7_driveAll_47 : decode cX7_driveAll 47 = .ok (.pop, 1) := by decide +kernel
theorem dX7_driveAll_48 : decode cX7_driveAll 48 = .ok (.goto 54, 3) := by decide +kernel
theorem dX7_driveAll_51 : decode cX7_driveAll 51 = .ok (.aload_n 0, 1) := by decide +kernel
theorem dX7_driveAll_52 : decode cX7_driveAll 52 = .ok (.getfield 50, 3) := by decide +kernel
theorem dX7_driveAll_55 : decode cX7_driveAll 55 = .ok (.iload_n 1, 1) := by decide +kernel
theorem dX7_driveAll_56 : decode cX7_driveAll 56 = .ok (.aload_n 0, 1) := by decide +kernel
theorem dX7_driveAll_57 : decode cX7_driveAll 57 = .ok (.getfield 50, 3) := by decide +kernel
theorem dX7_driveAll_60 : decode cX7_driveAll 60 = .ok (.iload_n 2, 1) := by decide +kernel
theorem dX7_driveAll_61 : decode cX7_driveAll 61 = .ok (.iaload, 1) := by decide +kernel
theorem dX7_driveAll_62 : decode cX7_driveAll 62 = .ok (.iastore, 1) := by decide +kernel
theorem dX7_driveAll_63 : decode cX7_driveAll 63 = .ok (.aload_n 0, 1) := by decide +kernel
theorem dX7_driveAll_64 : decode cX7_driveAll 64 = .ok (.getfield 53, 3) := by decide +kernel
theorem dX7_driveAll_67 : decode cX7_driveAll 67 = .ok (.iload_n 1, 1) := by decide +kernel
theorem dX7_driveAll_68 : decode cX7_driveAll 68 = .ok (.aload_n 0, 1) := by decide +kernel
theorem dX7_driveAll_69 : decode cX7_driveAll 69 = .ok (.getfield 53, 3) := by decide +kernel
theorem dX7_driveAll_72 : decode cX7_driveAll 72 = .ok (.iload_n 2, 1) := by decide +kernel
theorem dX7_driveAll_73 : decode cX7_driveAll 73 = .ok (.iaload, 1) := by decide +kernel
theorem dX7_driveAll_74 : decode cX7_driveAll 74 = .ok (.iastore, 1) := by decide +kernel
theorem dX7_driveAll_75 : decode cX7_driveAll 75 = .ok (.aload_n 0, 1) := by decide +kernel
theorem dX7_driveAll_76 : decode cX7_driveAll 76 = .ok (.getfield 56, 3) := by decide +kernel
theorem dX7_driveAll_79 : decode cX7_driveAll 79 = .ok (.iload_n 1, 1) := by decide +kernel
theorem dX7_driveAll_80 : decode cX7_driveAll 80 = .ok (.aload_n 0, 1) := by decide +kernel
theorem dX7_driveAll_81 : decode cX7_driveAll 81 = .ok (.getfield 56, 3) := by decide +kernel
theorem dX7_driveAll_84 : decode cX7_driveAll 84 = .ok (.iload_n 2, 1) := by decide +kernel
theorem dX7_driveAll_85 : decode cX7_driveAll 85 = .ok (.iaload, 1) := by decide +kernel
theorem dX7_driveAll_86 : decode cX7_driveAll 86 = .ok (.iastore, 1) := by decide +kernel
theorem dX7_driveAll_87 : decode cX7_driveAll 87 = .ok (.aload_n 0, 1) := by decide +kernel
theorem dX7_driveAll_88 : decode cX7_driveAll 88 = .ok (.getfield 59, 3) := by decide +kernel
theorem dX7_driveAll_91 : decode cX7_driveAll 91 = .ok (.iload_n 1, 1) := by decide +kernel
theorem dX7_driveAll_92 : decode cX7_driveAll 92 = .ok (.aload_n 0, 1) := by decide +kernel
theorem dX7_driveAll_93 : decode cX7_driveAll 93 = .ok (.getfield 59, 3) := by decide +kernel
theorem dX7_driveAll_96 : decode cX7_driveAll 96 = .ok (.iload_n 2, 1) := by decide +kernel
theorem dX7_driveAll_97 : decode cX7_driveAll 97 = .ok (.iaload, 1) := by decide +kernel
theorem dX7_driveAll_98 : decode cX7_driveAll 98 = .ok (.iastore, 1) := by decide +kernel
theorem dX7_driveAll_99 : decode cX7_driveAll 99 = .ok (.iinc 1 1, 3) := by decide +kernel
theorem dX7_driveAll_102 : decode cX7_driveAll 102 = .ok (.iinc 2 1, 3) := by decide +kernel
theorem dX7_driveAll_105 : decode cX7_driveAll 105 = .ok (.goto (-101), 3) := by decide +kernel
theorem dX7_driveAll_108 : decode cX7_driveAll 108 = .ok (.aload_n 0, 1) := by decide +kernel
theorem dX7_driveAll_109 : decode cX7_driveAll 109 = .ok (.iload_n 1, 1) := by decide +kernel
theorem dX7_driveAll_110 : decode cX7_driveAll 110 = .ok (.putfield 74, 3) := by decide +kernel
theorem dX7_driveAll_113 : decode cX7_driveAll 113 = .ok (.return_, 1) := by decide +kernel
theorem dX7_relax_0 : decode cX7_relax 0 = .ok (.iload_n 1, 1) := by decide +kernel
theorem dX7_relax_1 : decode cX7_relax 1 = .ok (.iload_n 2, 1) := by decide +kernel
theorem dX7_relax_2 : decode cX7_relax 2 = .ok (.invokestatic 100, 3) := by decide +kernel
theorem dX7_relax_5 : decode cX7_relax 5 = .ok (.istore_n 3, 1) := by decide +kernel
theorem dX7_relax_6 : decode cX7_relax 6 = .ok (.aload_n 0, 1) := by decide +kernel
theorem dX7_relax_7 : decode cX7_relax 7 = .ok (.getfield 26, 3) := by decide +kernel
theorem dX7_relax_10 : decode cX7_relax 10 = .ok (.iload_n 3, 1) := by decide +kernel
theorem dX7_relax_11 : decode cX7_relax 11 = .ok (.iaload, 1) := by decide +kernel
theorem dX7_relax_12 : decode cX7_relax 12 = .ok (.iconst 1, 1) := by decide +kernel
theorem dX7_relax_13 : decode cX7_relax 13 = .ok (.if_icmp .ne 5, 3) := by decide +kernel
theorem dX7_relax_16 : decode cX7_relax 16 = .ok (.iconst 0, 1) := by decide +kernel
theorem dX7_relax_17 : decode cX7_relax 17 = .ok (.ireturn, 1) := by decide +kernel
theorem dX7_relax_18 : decode cX7_relax 18 = .ok (.aload_n 0, 1) := by decide +kernel
theorem dX7_relax_19 : decode cX7_relax 19 = .ok (.iload_n 1, 1) := by decide +kernel
theorem dX7_relax_20 : decode cX7_relax 20 = .ok (.iload_n 2, 1) := by decide +kernel
theorem dX7_relax_21 : decode cX7_relax 21 = .ok (.aload_n 0, 1) := by decide +kernel
theorem dX7_relax_22 : decode cX7_relax 22 = .ok (.getfield 22, 3) := by decide +kernel
theorem dX7_relax_25 : decode cX7_relax 25 = .ok (.iload_n 3, 1) := by decide +kernel
theorem dX7_relax_26 : decode cX7_relax 26 = .ok (.iaload, 1) := by decide +kernel
theorem dX7_relax_27 : decode cX7_relax 27 = .ok (.invokevirtual 139, 3) := by decide +kernel
theorem dX7_relax_30 : decode cX7_relax 30 = .ok (.istore 4, 2) := by decide +kernel
theorem dX7_relax_32 : decode cX7_relax 32 = .ok (.aload_n 0, 1) := by decide +kernel
theorem dX7_relax_33 : decode cX7_relax 33 = .ok (.getfield 22, 3) := by decide +kernel
theorem dX7_relax_36 : decode cX7_relax 36 = .ok (.iload_n 3, 1) := by decide +kernel
theorem dX7_relax_37 : decode cX7_relax 37 = .ok (.iaload, 1) := by decide +kernel
theorem dX7_relax_38 : decode cX7_relax 38 = .ok (.bipush 15, 2) := by decide +kernel
theorem dX7_relax_40 : decode cX7_relax 40 = .ok (.iadd, 1) := by decide +kernel
theorem dX7_relax_41 : decode cX7_relax 41 = .ok (.iconst 1, 1) := by decide +kernel
theorem dX7_relax_42 : decode cX7_relax 42 = .ok (.isub, 1) := by decide +kernel
theorem dX7_relax_43 : decode cX7_relax 43 = .ok (.bipush 15, 2) := by decide +kernel
theorem dX7_relax_45 : decode cX7_relax 45 = .ok (.irem, 1) := by decide +kernel
theorem dX7_relax_46 : decode cX7_relax 46 = .ok (.istore 5, 2) := by decide +kernel
theorem dX7_relax_48 : decode cX7_relax 48 = .ok (.aload_n 0, 1) := by decide +kernel
theorem dX7_relax_49 : decode cX7_relax 49 = .ok (.getfield 22, 3) := by decide +kernel
theorem dX7_relax_52 : decode cX7_relax 52 = .ok (.iload_n 3, 1) := by decide +kernel
theorem dX7_relax_53 : decode cX7_relax 53 = .ok (.iaload, 1) := by decide +kernel
theorem dX7_relax_54 : decode cX7_relax 54 = .ok (.iconst 1, 1) := by decide +kernel
theorem dX7_relax_55 : decode cX7_relax 55 = .ok (.iadd, 1) := by decide +kernel
theorem dX7_relax_56 : decode cX7_relax 56 = .ok (.bipush 15, 2) := by decide +kernel
theorem dX7_relax_58 : decode cX7_relax 58 = .ok (.irem, 1) := by decide +kernel
theorem dX7_relax_59 : decode cX7_relax 59 = .ok (.istore 6, 2) := by decide +kernel
theorem dX7_relax_61 : decode cX7_relax 61 = .ok (.iload 4, 2) := by decide +kernel
theorem dX7_relax_63 : decode cX7_relax 63 = .ok (.istore 7, 2) := by decide +kernel
theorem dX7_relax_65 : decode cX7_relax 65 = .ok (.aload_n 0, 1) := by decide +kernel
theorem dX7_relax_66 : decode cX7_relax 66 = .ok (.getfield 22, 3) := by decide +kernel
theorem dX7_relax_69 : decode cX7_relax 69 = .ok (.iload_n 3, 1) := by decide +kernel
theorem dX7_relax_70 : decode cX7_relax 70 = .ok (.iaload, 1) := by decide +kernel
theorem dX7_relax_71 : decode cX7_relax 71 = .ok (.istore 8, 2) := by decide +kernel
theorem dX7_relax_73 : decode cX7_relax 73 = .ok (.aload_n 0, 1) := by decide +kernel
theorem dX7_relax_74 : decode cX7_relax 74 = .ok (.iload_n 1, 1) := by decide +kernel
theorem dX7_relax_75 : decode cX7_relax 75 = .ok (.iload_n 2, 1) := by decide +kernel
theorem dX7_relax_76 : decode cX7_relax 76 = .ok (.iload 5, 2) := by decide +kernel
theorem dX7_relax_78 : decode cX7_relax 78 = .ok (.invokevirtual 139, 3) := by decide +kernel
theorem dX7_relax_81 : decode cX7_relax 81 = .ok (.iload 7, 2) := by decide +kernel
theorem dX7_relax_83 : decode cX7_relax 83 = .ok (.if_icmp .ge 17, 3) := by decide +kernel
theorem dX7_relax_86 : decode cX7_relax 86 = .ok (.aload_n 0, 1) := by decide +kernel
theorem dX7_relax_87 : decode cX7_relax 87 = .ok (.iload_n 1, 1) := by decide +kernel
theorem dX7_relax_88 : decode cX7_relax 88 = .ok (.iload_n 2, 1) := by decide +kernel
theorem dX7_relax_89 : decode cX7_relax 89 = .ok (.iload 5, 2) := by decide +kernel
theorem dX7_relax_91 : decode cX7_relax 91 = .ok (.invokevirtual 139, 3) := by decide +kernel
theorem dX7_relax_94 : decode cX7_relax 94 = .ok (.istore 7, 2) := by decide +kernel
theorem dX7_relax_96 : decode cX7_relax 96 = .ok (.iload 5, 2) := by decide +kernel
theorem dX7_relax_98 : decode cX7_relax 98 = .ok (.istore 8, 2) := by decide +kernel
theorem dX7_relax_100 : decode cX7_relax 100 = .ok (.aload_n 0, 1) := by decide +kernel
theorem dX7_relax_101 : decode cX7_relax 101 = .ok (.iload_n 1, 1) := by decide +kernel
theorem dX7_relax_102 : decode cX7_relax 102 = .ok (.iload_n 2, 1) := by decide +kernel
theorem dX7_relax_103 : decode cX7_relax 103 = .ok (.iload 6, 2) := by decide +kernel
theorem dX7_relax_105 : decode cX7_relax 105 = .ok (.invokevirtual 139, 3) := by decide +kernel
theorem dX7_relax_108 : decode cX7_relax 108 = .ok (.iload 7, 2) := by decide +kernel
theorem dX7_relax_110 : decode cX7_relax 110 = .ok (.if_icmp .ge 17, 3) := by decide +kernel
theorem dX7_relax_113 : decode cX7_relax 113 = .ok (.aload_n 0, 1) := by decide +kernel
theorem dX7_relax_114 : decode cX7_relax 114 = .ok (.iload_n 1, 1) := by decide +kernel
theorem dX7_relax_115 : decode cX7_relax 115 = .ok (.iload_n 2, 1) := by decide +kernel
theorem dX7_relax_116 : decode cX7_relax 116 = .ok (.iload 6, 2) := by decide +kernel
theorem dX7_relax_118 : decode cX7_relax 118 = .ok (.invokevirtual 139, 3) := by decide +kernel
theorem dX7_relax_121 : decode cX7_relax 121 = .ok (.istore 7, 2) := by decide +kernel
theorem dX7_relax_123 : decode cX7_relax 123 = .ok (.iload 6, 2) := by decide +kernel
theorem dX7_relax_125 : decode cX7_relax 125 = .ok (.istore 8, 2) := by decide +kernel
theorem dX7_relax_127 : decode cX7_relax 127 = .ok (.aload_n 0, 1) := by decide +kernel
theorem dX7_relax_128 : decode cX7_relax 128 = .ok (.getfield 22, 3) := by decide +kernel
theorem dX7_relax_131 : decode cX7_relax 131 = .ok (.iload_n 3, 1) := by decide +kernel
theorem dX7_relax_132 : decode cX7_relax 132 = .ok (.iload 8, 2) := by decide +kernel
theorem dX7_relax_134 : decode cX7_relax 134 = .ok (.iastore, 1) := by decide +kernel
theorem dX7_relax_135 : decode cX7_relax 135 = .ok (.iload 4, 2) := by decide +kernel
theorem dX7_relax_137 : decode cX7_relax 137 = .ok (.iload 7, 2) := by decide +kernel
theorem dX7_relax_139 : decode cX7_relax 139 = .ok (.isub, 1) := by decide +kernel
theorem dX7_relax_140 : decode cX7_relax 140 = .ok (.ireturn, 1) := by decide +kernel
theorem dX7_greyOf_0 : decode cX7_greyOf 0 = .ok (.iload_n 0, 1) := by decide +kernel
theorem dX7_greyOf_1 : decode cX7_greyOf 1 = .ok (.tableswitch 63 0 6 #[43, 45, 48, 51, 54, 57, 60], 43) := by decide +kernel
theorem dX7_greyOf_44 : decode cX7_greyOf 44 = .ok (.iconst 0, 1) := by decide +kernel
theorem dX7_greyOf_45 : decode cX7_greyOf 45 = .ok (.ireturn, 1) := by decide +kernel
theorem dX7_greyOf_46 : decode cX7_greyOf 46 = .ok (.bipush 17, 2) := by decide +kernel
theorem dX7_greyOf_48 : decode cX7_greyOf 48 = .ok (.ireturn, 1) := by decide +kernel
theorem dX7_greyOf_49 : decode cX7_greyOf 49 = .ok (.bipush 55, 2) := by decide +kernel
theorem dX7_greyOf_51 : decode cX7_greyOf 51 = .ok (.ireturn, 1) := by decide +kernel
theorem dX7_greyOf_52 : decode cX7_greyOf 52 = .ok (.bipush 90, 2) := by decide +kernel
theorem dX7_greyOf_54 : decode cX7_greyOf 54 = .ok (.ireturn, 1) := by decide +kernel
theorem dX7_greyOf_55 : decode cX7_greyOf 55 = .ok (.bipush 99, 2) := by decide +kernel
theorem dX7_greyOf_57 : decode cX7_greyOf 57 = .ok (.ireturn, 1) := by decide +kernel
theorem dX7_greyOf_58 : decode cX7_greyOf 58 = .ok (.bipush 75, 2) := by decide +kernel
theorem dX7_greyOf_60 : decode cX7_greyOf 60 = .ok (.ireturn, 1) := by decide +kernel
theorem dX7_greyOf_61 : decode cX7_greyOf 61 = .ok (.bipush 35, 2) := by decide +kernel
theorem dX7_greyOf_63 : decode cX7_greyOf 63 = .ok (.ireturn, 1) := by decide +kernel
theorem dX7_greyOf_64 : decode cX7_greyOf 64 = .ok (.iconst 4, 1) := by decide +kernel
theorem dX7_greyOf_65 : decode cX7_greyOf 65 = .ok (.ireturn, 1) := by decide +kernel
theorem dX7_greyAt_0 : decode cX7_greyAt 0 = .ok (.aload_n 0, 1) := by decide +kernel
theorem dX7_greyAt_1 : decode cX7_greyAt 1 = .ok (.getfield 22, 3) := by decide +kernel
theorem dX7_greyAt_4 : decode cX7_greyAt 4 = .ok (.iload_n 1, 1) := by decide +kernel
theorem dX7_greyAt_5 : decode cX7_greyAt 5 = .ok (.iload_n 2, 1) := by decide +kernel
theorem dX7_greyAt_6 : decode cX7_greyAt 6 = .ok (.invokestatic 100, 3) := by decide +kernel
theorem dX7_greyAt_9 : decode cX7_greyAt 9 = .ok (.iaload, 1) := by decide +kernel
theorem dX7_greyAt_10 : decode cX7_greyAt 10 = .ok (.iload_n 3, 1) := by decide +kernel
theorem dX7_greyAt_11 : decode cX7_greyAt 11 = .ok (.invokestatic 142, 3) := by decide +kernel
theorem dX7_greyAt_14 : decode cX7_greyAt 14 = .ok (.invokestatic 145, 3) := by decide +kernel
theorem dX7_greyAt_17 : decode cX7_greyAt 17 = .ok (.ireturn, 1) := by decide +kernel
theorem dX7_greyOfPixel_0 : decode cX7_greyOfPixel 0 = .ok (.iconst 0, 1) := by decide +kernel
theorem dX7_greyOfPixel_1 : decode cX7_greyOfPixel 1 = .ok (.istore_n 2, 1) := by decide +kernel
theorem dX7_greyOfPixel_2 : decode cX7_greyOfPixel 2 = .ok (.iconst 0, 1) := by decide +kernel
theorem dX7_greyOfPixel_3 : decode cX7_greyOfPixel 3 = .ok (.istore_n 3, 1) := by decide +kernel
theorem dX7_greyOfPixel_4 : decode cX7_greyOfPixel 4 = .ok (.iconst 0, 1) := by decide +kernel
theorem dX7_greyOfPixel_5 : decode cX7_greyOfPixel 5 = .ok (.istore 4, 2) := by decide +kernel
theorem dX7_greyOfPixel_7 : decode cX7_greyOfPixel 7 = .ok (.iload 4, 2) := by decide +kernel
theorem dX7_greyOfPixel_9 : decode cX7_greyOfPixel 9 = .ok (.aload_n 0, 1) := by decide +kernel
theorem dX7_greyOfPixel_10 : decode cX7_greyOfPixel 10 = .ok (.getfield 13, 3) := by decide +kernel
theorem dX7_greyOfPixel_13 : decode cX7_greyOfPixel 13 = .ok (.if_icmp .ge 61, 3) := by decide +kernel
theorem dX7_greyOfPixel_16 : decode cX7_greyOfPixel 16 = .ok (.iconst 0, 1) := by decide +kernel
theorem dX7_greyOfPixel_17 : decode cX7_greyOfPixel 17 = .ok (.istore 5, 2) := by decide +kernel
theorem dX7_greyOfPixel_19 : decode cX7_greyOfPixel 19 = .ok (.iload 5, 2) := by decide +kernel
theorem dX7_greyOfPixel_21 : decode cX7_greyOfPixel 21 = .ok (.aload_n 0, 1) := by decide +kernel
theorem dX7_greyOfPixel_22 : decode cX7_greyOfPixel 22 = .ok (.getfield 7, 3) := by decide +kernel
theorem dX7_greyOfPixel_25 : decode cX7_greyOfPixel 25 = .ok (.if_icmp .ge 43, 3) := by decide +kernel
theorem dX7_greyOfPixel_28 : decode cX7_greyOfPixel 28 = .ok (.aload_n 0, 1) := by decide +kernel
theorem dX7_greyOfPixel_29 : decode cX7_greyOfPixel 29 = .ok (.getfield 35, 3) := by decide +kernel
theorem dX7_greyOfPixel_32 : decode cX7_greyOfPixel 32 = .ok (.iload 5, 2) := by decide +kernel
theorem dX7_greyOfPixel_34 : decode cX7_greyOfPixel 34 = .ok (.iload 4, 2) := by decide +kernel
theorem dX7_greyOfPixel_36 : decode cX7_greyOfPixel 36 = .ok (.invokestatic 100, 3) := by decide +kernel
theorem dX7_greyOfPixel_39 : decode cX7_greyOfPixel 39 = .ok (.iaload, 1) := by decide +kernel
theorem dX7_greyOfPixel_40 : decode cX7_greyOfPixel 40 = .ok (.iload_n 1, 1) := by decide +kernel
theorem dX7_greyOfPixel_41 : decode cX7_greyOfPixel 41 = .ok (.if_icmp .ne 21, 3) := by decide +kernel
theorem dX7_greyOfPixel_44 : decode cX7_greyOfPixel 44 = .ok (.iload_n 2, 1) := by decide +kernel
theorem dX7_greyOfPixel_45 : decode cX7_greyOfPixel 45 = .ok (.aload_n 0, 1) := by decide +kernel
theorem dX7_greyOfPixel_46 : decode cX7_greyOfPixel 46 = .ok (.iload 5, 2) := by decide +kernel
theorem dX7_greyOfPixel_48 : decode cX7_greyOfPixel 48 = .ok (.iload 4, 2) := by decide +kernel
theorem dX7_greyOfPixel_50 : decode cX7_greyOfPixel 50 = .ok (.aload_n 0, 1) := by decide +kernel
theorem dX7_greyOfPixel_51 : decode cX7_greyOfPixel 51 = .ok (.getfield 148, 3) := by decide +kernel
theorem dX7_greyOfPixel_54 : decode cX7_greyOfPixel 54 = .ok (.invokevirtual 151, 3) := by decide +kernel
theorem dX7_greyOfPixel_57 : decode cX7_greyOfPixel 57 = .ok (.iadd, 1) := by decide +kernel
theorem dX7_greyOfPixel_58 : decode cX7_greyOfPixel 58 = .ok (.istore_n 2, 1) := by decide +kernel
theorem dX7_greyOfPixel_59 : decode cX7_greyOfPixel 59 = .ok (.iinc 3 1, 3) := by decide +kernel
theorem dX7_greyOfPixel_62 : decode cX7_greyOfPixel 62 = .ok (.iinc 5 1, 3) := by decide +kernel
theorem dX7_greyOfPixel_65 : decode cX7_greyOfPixel 65 = .ok (.goto (-46), 3) := by decide +kernel
theorem dX7_greyOfPixel_68 : decode cX7_greyOfPixel 68 = .ok (.iinc 4 1, 3) := by decide +kernel
theorem dX7_greyOfPixel_71 : decode cX7_greyOfPixel 71 = .ok (.goto (-64), 3) := by decide +kernel
theorem dX7_greyOfPixel_74 : decode cX7_greyOfPixel 74 = .ok (.iload_n 2, 1) := by decide +kernel
theorem dX7_greyOfPixel_75 : decode cX7_greyOfPixel 75 = .ok (.iload_n 3, 1) := by decide +kernel
theorem dX7_greyOfPixel_76 : decode cX7_greyOfPixel 76 = .ok (.idiv, 1) := by decide +kernel
theorem dX7_greyOfPixel_77 : decode cX7_greyOfPixel 77 = .ok (.ireturn, 1) := by decide +kernel
theorem dX7_tick_0 : decode cX7_tick 0 = .ok (.aload_n 0, 1) := by decide +kernel
theorem dX7_tick_1 : decode cX7_tick 1 = .ok (.iconst 0, 1) := by decide +kernel
theorem dX7_tick_2 : decode cX7_tick 2 = .ok (.putfield 89, 3) := by decide +kernel
theorem dX7_tick_5 : decode cX7_tick 5 = .ok (.iload_n 1, 1) := by decide +kernel
theorem dX7_tick_6 : decode cX7_tick 6 = .ok (.iconst 1, 1) := by decide +kernel
theorem dX7_tick_7 : decode cX7_tick 7 = .ok (.bipush 50, 2) := by decide +kernel
theorem dX7_tick_9 : decode cX7_tick 9 = .ok (.invokestatic 92, 3) := by decide +kernel
theorem dX7_tick_12 : decode cX7_tick 12 = .ok (.ifCond .ne 9, 3) := by decide +kernel
theorem dX7_tick_15 : decode cX7_tick 15 = .ok (.aload_n 0, 1) := by decide +kernel
theorem dX7_tick_16 : decode cX7_tick 16 = .ok (.iconst 1, 1) := by decide +kernel
theorem dX7_tick_17 : decode cX7_tick 17 = .ok (.invokevirtual 122, 3) := by decide +kernel
theorem dX7_tick_20 : decode cX7_tick 20 = .ok (.ireturn, 1) := by decide +kernel
theorem dX7_tick_21 : decode cX7_tick 21 = .ok (.aload_n 0, 1) := by decide +kernel
theorem dX7_tick_22 : decode cX7_tick 22 = .ok (.getfield 80, 3) := by decide +kernel
theorem dX7_tick_25 : decode cX7_tick 25 = .ok (.iload_n 1, 1) := by decide +kernel
theorem dX7_tick_26 : decode cX7_tick 26 = .ok (.iadd, 1) := by decide +kernel
theorem dX7_tick_27 : decode cX7_tick 27 = .ok (.sipush 2000, 3) := by decide +kernel
theorem dX7_tick_30 : decode cX7_tick 30 = .ok (.if_icmp .le 9, 3) := by decide +kernel
theorem dX7_tick_33 : decode cX7_tick 33 = .ok (.aload_n 0, 1) := by decide +kernel
theorem dX7_tick_34 : decode cX7_tick 34 = .ok (.iconst 2, 1) := by decide +kernel
theorem dX7_tick_35 : decode cX7_tick 35 = .ok (.invokevirtual 122, 3) := by decide +kernel
theorem dX7_tick_38 : decode cX7_tick 38 = .ok (.ireturn, 1) := by decide +kernel
theorem dX7_tick_39 : decode cX7_tick 39 = .ok (.iconst 0, 1) := by decide +kernel
theorem dX7_tick_40 : decode cX7_tick 40 = .ok (.istore_n 2, 1) := by decide +kernel
theorem dX7_tick_41 : decode cX7_tick 41 = .ok (.iconst 0, 1) := by decide +kernel
theorem dX7_tick_42 : decode cX7_tick 42 = .ok (.istore_n 3, 1) := by decide +kernel
theorem dX7_tick_43 : decode cX7_tick 43 = .ok (.iload_n 3, 1) := by decide +kernel
theorem dX7_tick_44 : decode cX7_tick 44 = .ok (.iload_n 1, 1) := by decide +kernel
theorem dX7_tick_45 : decode cX7_tick 45 = .ok (.if_icmp .ge 126, 3) := by decide +kernel
theorem dX7_tick_48 : decode cX7_tick 48 = .ok (.aload_n 0, 1) := by decide +kernel
theorem dX7_tick_49 : decode cX7_tick 49 = .ok (.dup, 1) := by decide +kernel
theorem dX7_tick_50 : decode cX7_tick 50 = .ok (.getfield 80, 3) := by decide +kernel
theorem dX7_tick_53 : decode cX7_tick 53 = .ok (.iconst 1, 1) := by decide +kernel
theorem dX7_tick_54 : decode cX7_tick 54 = .ok (.iadd, 1) := by decide +kernel
theorem dX7_tick_55 : decode cX7_tick 55 = .ok (.putfield 80, 3) := by decide +kernel
theorem dX7_tick_58 : decode cX7_tick 58 = .ok (.aload_n 0, 1) := by decide +kernel
theorem dX7_tick_59 : decode cX7_tick 59 = .ok (.invokevirtual 154, 3) := by decide +kernel
theorem dX7_tick_62 : decode cX7_tick 62 = .ok (.iconst 0, 1) := by decide +kernel
theorem dX7_tick_63 : decode cX7_tick 63 = .ok (.istore 4, 2) := by decide +kernel
theorem dX7_tick_65 : decode cX7_tick 65 = .ok (.iload 4, 2) := by decide +kernel
theorem dX7_tick_67 : decode cX7_tick 67 = .ok (.aload_n 0, 1) := by decide +kernel
theorem dX7_tick_68 : decode cX7_tick 68 = .ok (.getfield 13, 3) := by decide +kernel
theorem dX7_tick_71 : decode cX7_tick 71 = .ok (.if_icmp .ge 38, 3) := by decide +kernel
theorem dX7_tick_74 : decode cX7_tick 74 = .ok (.iconst 0, 1) := by decide +kernel
theorem dX7_tick_75 : decode cX7_tick 75 = .ok (.istore 5, 2) := by decide +kernel
theorem dX7_tick_77 : decode cX7_tick 77 = .ok (.iload 5, 2) := by decide +kernel
theorem dX7_tick_79 : decode cX7_tick 79 = .ok (.aload_n 0, 1) := by decide +kernel
theorem dX7_tick_80 : decode cX7_tick 80 = .ok (.getfield 7, 3) := by decide +kernel
theorem dX7_tick_83 : decode cX7_tick 83 = .ok (.if_icmp .ge 20, 3) := by decide +kernel
theorem dX7_tick_86 : decode cX7_tick 86 = .ok (.iload_n 2, 1) := by decide +kernel
theorem dX7_tick_87 : decode cX7_tick 87 = .ok (.aload_n 0, 1) := by decide +kernel
theorem dX7_tick_88 : decode cX7_tick 88 = .ok (.iload 5, 2) := by decide +kernel
theorem dX7_tick_90 : decode cX7_tick 90 = .ok (.iload 4, 2) := by decide +kernel
theorem dX7_tick_92 : decode cX7_tick 92 = .ok (.invokevirtual 157, 3) := by decide +kernel
theorem dX7_tick_95 : decode cX7_tick 95 = .ok (.iadd, 1) := by decide +kernel
theorem dX7_tick_96 : decode cX7_tick 96 = .ok (.istore_n 2, 1) := by decide +kernel
theorem dX7_tick_97 : decode cX7_tick 97 = .ok (.iinc 5 1, 3) := by decide +kernel
theorem dX7_tick_100 : decode cX7_tick 100 = .ok (.goto (-23), 3) := by decide +kernel
theorem dX7_tick_103 : decode cX7_tick 103 = .ok (.iinc 4 1, 3) := by decide +kernel
theorem dX7_tick_106 : decode cX7_tick 106 = .ok (.goto (-41), 3) := by decide +kernel
theorem dX7_tick_109 : decode cX7_tick 109 = .ok (.iconst 0, 1) := by decide +kernel
theorem dX7_tick_110 : decode cX7_tick 110 = .ok (.istore 4, 2) := by decide +kernel
theorem dX7_tick_112 : decode cX7_tick 112 = .ok (.iload 4, 2) := by decide +kernel
theorem dX7_tick_114 : decode cX7_tick 114 = .ok (.aload_n 0, 1) := by decide +kernel
theorem dX7_tick_115 : decode cX7_tick 115 = .ok (.getfield 71, 3) := by decide +kernel
theorem dX7_tick_118 : decode cX7_tick 118 = .ok (.if_icmp .ge 47, 3) := by decide +kernel
theorem dX7_tick_121 : decode cX7_tick 121 = .ok (.aload_n 0, 1) := by decide +kernel
theorem dX7_tick_122 : decode cX7_tick 122 = .ok (.getfield 44, 3) := by decide +kernel
theorem dX7_tick_125 : decode cX7_tick 125 = .ok (.bipush 8, 2) := by decide +kernel
theorem dX7_tick_127 : decode cX7_tick 127 = .ok (.iload 4, 2) := by decide +kernel
theorem dX7_tick_129 : decode cX7_tick 129 = .ok (.imul, 1) := by decide +kernel
theorem dX7_tick_130 : decode cX7_tick 130 = .ok (.aload_n 0, 1) := by decide +kernel
theorem dX7_tick_131 : decode cX7_tick 131 = .ok (.getfield 47, 3) := by decide +kernel
theorem dX7_tick_134 : decode cX7_tick 134 = .ok (.iload 4, 2) := by decide +kernel
theorem dX7_tick_136 : decode cX7_tick 136 = .ok (.iaload, 1) := by decide +kernel
theorem dX7_tick_137 : decode cX7_tick 137 = .ok (.bipush 8, 2) := by decide +kernel
theorem dX7_tick_139 : decode cX7_tick 139 = .ok (.irem, 1) := by decide +kernel
theorem dX7_tick_140 : decode cX7_tick 140 = .ok (.iadd, 1) := by decide +kernel
theorem dX7_tick_141 : decode cX7_tick 141 = .ok (.aload_n 0, 1) := by decide +kernel
theorem dX7_tick_142 : decode cX7_tick 142 = .ok (.iload 4, 2) := by decide +kernel
theorem dX7_tick_144 : decode cX7_tick 144 = .ok (.invokevirtual 160, 3) := by decide +kernel
theorem dX7_tick_147 : decode cX7_tick 147 = .ok (.iastore, 1) := by decide +kernel
theorem dX7_tick_148 : decode cX7_tick 148 = .ok (.aload_n 0, 1) := by decide +kernel
theorem dX7_tick_149 : decode cX7_tick 149 = .ok (.getfield 47, 3) := by decide +kernel
theorem dX7_tick_152 : decode cX7_tick 152 = .ok (.iload 4, 2) := by decide +kernel
theorem dX7_tick_154 : decode cX7_tick 154 = .ok (.dup2, 1) := by decide +kernel
theorem dX7_tick_155 : decode cX7_tick 155 = .ok (.iaload, 1) := by decide +kernel
theorem dX7_tick_156 : decode cX7_tick 156 = .ok (.iconst 1, 1) := by decide +kernel
theorem dX7_tick_157 : decode cX7_tick 157 = .ok (.iadd, 1) := by decide +kernel
theorem dX7_tick_158 : decode cX7_tick 158 = .ok (.iastore, 1) := by decide +kernel
theorem dX7_tick_159 : decode cX7_tick 159 = .ok (.iinc 4 1, 3) := by decide +kernel
theorem dX7_tick_162 : decode cX7_tick 162 = .ok (.goto (-50), 3) := by decide +kernel
theorem dX7_tick_165 : decode cX7_tick 165 = .ok (.iinc 3 1, 3) := by decide +kernel
theorem dX7_tick_168 : decode cX7_tick 168 = .ok (.goto (-125), 3) := by decide +kernel
theorem dX7_tick_171 : decode cX7_tick 171 = .ok (.aload_n 0, 1) := by decide +kernel
theorem dX7_tick_172 : decode cX7_tick 172 = .ok (.dup, 1) := by decide +kernel
theorem dX7_tick_173 : decode cX7_tick 173 = .ok (.getfield 86, 3) := by decide +kernel
theorem dX7_tick_176 : decode cX7_tick 176 = .ok (.iload_n 2, 1) := by decide +kernel
theorem dX7_tick_177 : decode cX7_tick 177 = .ok (.iadd, 1) := by decide +kernel
theorem dX7_tick_178 : decode cX7_tick 178 = .ok (.putfield 86, 3) := by decide +kernel
theorem dX7_tick_181 : decode cX7_tick 181 = .ok (.iload_n 2, 1) := by decide +kernel
theorem dX7_tick_182 : decode cX7_tick 182 = .ok (.ireturn, 1) := by decide +kernel
theorem dX7_plates_0 : decode cX7_plates 0 = .ok (.aload_n 0, 1) := by decide +kernel
theorem dX7_plates_1 : decode cX7_plates 1 = .ok (.iconst 0, 1) := by decide +kernel
theorem dX7_plates_2 : decode cX7_plates 2 = .ok (.putfield 89, 3) := by decide +kernel
theorem dX7_plates_5 : decode cX7_plates 5 = .ok (.iload_n 1, 1) := by decide +kernel
theorem dX7_plates_6 : decode cX7_plates 6 = .ok (.invokestatic 129, 3) := by decide +kernel
theorem dX7_plates_9 : decode cX7_plates 9 = .ok (.ifCond .ne 9, 3) := by decide +kernel
theorem dX7_plates_12 : decode cX7_plates 12 = .ok (.aload_n 0, 1) := by decide +kernel
theorem dX7_plates_13 : decode cX7_plates 13 = .ok (.iconst 1, 1) := by decide +kernel
theorem dX7_plates_14 : decode cX7_plates 14 = .ok (.invokevirtual 122, 3) := by decide +kernel
theorem dX7_plates_17 : decode cX7_plates 17 = .ok (.ireturn, 1) := by decide +kernel
theorem dX7_plates_18 : decode cX7_plates 18 = .ok (.aload_n 0, 1) := by decide +kernel
theorem dX7_plates_19 : decode cX7_plates 19 = .ok (.getfield 148, 3) := by decide +kernel
theorem dX7_plates_22 : decode cX7_plates 22 = .ok (.istore_n 2, 1) := by decide +kernel
theorem dX7_plates_23 : decode cX7_plates 23 = .ok (.aload_n 0, 1) := by decide +kernel
theorem dX7_plates_24 : decode cX7_plates 24 = .ok (.iload_n 1, 1) := by decide +kernel
theorem dX7_plates_25 : decode cX7_plates 25 = .ok (.putfield 148, 3) := by decide +kernel
theorem dX7_plates_28 : decode cX7_plates 28 = .ok (.iload_n 2, 1) := by decide +kernel
theorem dX7_plates_29 : decode cX7_plates 29 = .ok (.ireturn, 1) := by decide +kernel
theorem dX7_picture_0 : decode cX7_picture 0 = .ok (.aload_n 0, 1) := by decide +kernel
theorem dX7_picture_1 : decode cX7_picture 1 = .ok (.iconst 0, 1) := by decide +kernel
theorem dX7_picture_2 : decode cX7_picture 2 = .ok (.putfield 89, 3) := by decide +kernel
theorem dX7_picture_5 : decode cX7_picture 5 = .ok (.aload_n 0, 1) := by decide +kernel
theorem dX7_picture_6 : decode cX7_picture 6 = .ok (.getfield 77, 3) := by decide +kernel
theorem dX7_picture_9 : decode cX7_picture 9 = .ok (.bipush 10, 2) := by decide +kernel
theorem dX7_picture_11 : decode cX7_picture 11 = .ok (.if_icmp .ne 9, 3) := by decide +kernel
theorem dX7_picture_14 : decode cX7_picture 14 = .ok (.aload_n 0, 1) := by decide +kernel
theorem dX7_picture_15 : decode cX7_picture 15 = .ok (.iconst 1, 1) := by decide +kernel
theorem dX7_picture_16 : decode cX7_picture 16 = .ok (.invokevirtual 122, 3) := by decide +kernel
theorem dX7_picture_19 : decode cX7_picture 19 = .ok (.ireturn, 1) := by decide +kernel
theorem dX7_picture_20 : decode cX7_picture 20 = .ok (.aload_n 0, 1) := by decide +kernel
theorem dX7_picture_21 : decode cX7_picture 21 = .ok (.getfield 62, 3) := by decide +kernel
theorem dX7_picture_24 : decode cX7_picture 24 = .ok (.aload_n 0, 1) := by decide +kernel
theorem dX7_picture_25 : decode cX7_picture 25 = .ok (.getfield 77, 3) := by decide +kernel
theorem dX7_picture_28 : decode cX7_picture 28 = .ok (.aload_n 0, 1) := by decide +kernel
theorem dX7_picture_29 : decode cX7_picture 29 = .ok (.getfield 148, 3) := by decide +kernel
theorem dX7_picture_32 : decode cX7_picture 32 = .ok (.iastore, 1) := by decide +kernel
theorem dX7_picture_33 : decode cX7_picture 33 = .ok (.iconst 0, 1) := by decide +kernel
theorem dX7_picture_34 : decode cX7_picture 34 = .ok (.istore_n 1, 1) := by decide +kernel
theorem dX7_picture_35 : decode cX7_picture 35 = .ok (.iload_n 1, 1) := by decide +kernel
theorem dX7_picture_36 : decode cX7_picture 36 = .ok (.aload_n 0, 1) := by decide +kernel
theorem dX7_picture_37 : decode cX7_picture 37 = .ok (.getfield 13, 3) := by decide +kernel
theorem dX7_picture_40 : decode cX7_picture 40 = .ok (.if_icmp .ge 54, 3) := by decide +kernel
theorem dX7_picture_43 : decode cX7_picture 43 = .ok (.iconst 0, 1) := by decide +kernel
theorem dX7_picture_44 : decode cX7_picture 44 = .ok (.istore_n 2, 1) := by decide +kernel
theorem dX7_picture_45 : decode cX7_picture 45 = .ok (.iload_n 2, 1) := by decide +kernel
theorem dX7_picture_46 : decode cX7_picture 46 = .ok (.aload_n 0, 1) := by decide +kernel
theorem dX7_picture_47 : decode cX7_picture 47 = .ok (.getfield 7, 3) := by decide +kernel
theorem dX7_picture_50 : decode cX7_picture 50 = .ok (.if_icmp .ge 38, 3) := by decide +kernel
theorem dX7_picture_53 : decode cX7_picture 53 = .ok (.aload_n 0, 1) := by decide +kernel
theorem dX7_picture_54 : decode cX7_picture 54 = .ok (.getfield 65, 3) := by decide +kernel
theorem dX7_picture_57 : decode cX7_picture 57 = .ok (.sipush 144, 3) := by decide +kernel
theorem dX7_picture_60 : decode cX7_picture 60 = .ok (.aload_n 0, 1) := by decide +kernel
theorem dX7_picture_61 : decode cX7_picture 61 = .ok (.getfield 77, 3) := by decide +kernel
theorem dX7_picture_64 : decode cX7_picture 64 = .ok (.imul, 1) := by decide +kernel
theorem dX7_picture_65 : decode cX7_picture 65 = .ok (.iload_n 2, 1) := by decide +kernel
theorem dX7_picture_66 : decode cX7_picture 66 = .ok (.iload_n 1, 1) := by decide +kernel
theorem dX7_picture_67 : decode cX7_picture 67 = .ok (.invokestatic 100, 3) := by decide +kernel
theorem dX7_picture_70 : decode cX7_picture 70 = .ok (.iadd, 1) := by decide +kernel
theorem dX7_picture_71 : decode cX7_picture 71 = .ok (.aload_n 0, 1) := by decide +kernel
theorem dX7_picture_72 : decode cX7_picture 72 = .ok (.iload_n 2, 1) := by decide +kernel
theorem dX7_picture_73 : decode cX7_picture 73 = .ok (.iload_n 1, 1) := by decide +kernel
theorem dX7_picture_74 : decode cX7_picture 74 = .ok (.aload_n 0, 1) := by decide +kernel
theorem dX7_picture_75 : decode cX7_picture 75 = .ok (.getfield 148, 3) := by decide +kernel
theorem dX7_picture_78 : decode cX7_picture 78 = .ok (.invokevirtual 151, 3) := by decide +kernel
theorem dX7_picture_81 : decode cX7_picture 81 = .ok (.iastore, 1) := by decide +kernel
theorem dX7_picture_82 : decode cX7_picture 82 = .ok (.iinc 2 1, 3) := by decide +kernel
theorem dX7_picture_85 : decode cX7_picture 85 = .ok (.goto (-40), 3) := by decide +kernel
theorem dX7_picture_88 : decode cX7_picture 88 = .ok (.iinc 1 1, 3) := by decide +kernel
theorem dX7_picture_91 : decode cX7_picture 91 = .ok (.goto (-56), 3) := by decide +kernel
theorem dX7_picture_94 : decode cX7_picture 94 = .ok (.aload_n 0, 1) := by decide +kernel
theorem dX7_picture_95 : decode cX7_picture 95 = .ok (.dup, 1) := by decide +kernel
theorem dX7_picture_96 : decode cX7_picture 96 = .ok (.getfield 77, 3) := by decide +kernel
theorem dX7_picture_99 : decode cX7_picture 99 = .ok (.iconst 1, 1) := by decide +kernel
theorem dX7_picture_100 : decode cX7_picture 100 = .ok (.iadd, 1) := by decide +kernel
theorem dX7_picture_101 : decode cX7_picture 101 = .ok (.putfield 77, 3) := by decide +kernel
theorem dX7_picture_104 : decode cX7_picture 104 = .ok (.aload_n 0, 1) := by decide +kernel
theorem dX7_picture_105 : decode cX7_picture 105 = .ok (.getfield 77, 3) := by decide +kernel
theorem dX7_picture_108 : decode cX7_picture 108 = .ok (.iconst 1, 1) := by decide +kernel
theorem dX7_picture_109 : decode cX7_picture 109 = .ok (.isub, 1) := by decide +kernel
theorem dX7_picture_110 : decode cX7_picture 110 = .ok (.ireturn, 1) := by decide +kernel
theorem dX7_now_0 : decode cX7_now 0 = .ok (.aload_n 0, 1) := by decide +kernel
theorem dX7_now_1 : decode cX7_now 1 = .ok (.iconst 0, 1) := by decide +kernel
theorem dX7_now_2 : decode cX7_now 2 = .ok (.putfield 89, 3) := by decide +kernel
theorem dX7_now_5 : decode cX7_now 5 = .ok (.aload_n 0, 1) := by decide +kernel
theorem dX7_now_6 : decode cX7_now 6 = .ok (.getfield 80, 3) := by decide +kernel
theorem dX7_now_9 : decode cX7_now 9 = .ok (.ireturn, 1) := by decide +kernel
theorem dX7_told_0 : decode cX7_told 0 = .ok (.aload_n 0, 1) := by decide +kernel
theorem dX7_told_1 : decode cX7_told 1 = .ok (.iconst 0, 1) := by decide +kernel
theorem dX7_told_2 : decode cX7_told 2 = .ok (.putfield 89, 3) := by decide +kernel
theorem dX7_told_5 : decode cX7_told 5 = .ok (.aload_n 0, 1) := by decide +kernel
theorem dX7_told_6 : decode cX7_told 6 = .ok (.iload_n 1, 1) := by decide +kernel
theorem dX7_told_7 : decode cX7_told 7 = .ok (.iload_n 2, 1) := by decide +kernel
theorem dX7_told_8 : decode cX7_told 8 = .ok (.invokevirtual 106, 3) := by decide +kernel
theorem dX7_told_11 : decode cX7_told 11 = .ok (.ifCond .ne 9, 3) := by decide +kernel
theorem dX7_told_14 : decode cX7_told 14 = .ok (.aload_n 0, 1) := by decide +kernel
theorem dX7_told_15 : decode cX7_told 15 = .ok (.iconst 1, 1) := by decide +kernel
theorem dX7_told_16 : decode cX7_told 16 = .ok (.invokevirtual 122, 3) := by decide +kernel
theorem dX7_told_19 : decode cX7_told 19 = .ok (.ireturn, 1) := by decide +kernel
theorem dX7_told_20 : decode cX7_told 20 = .ok (.iload_n 3, 1) := by decide +kernel
theorem dX7_told_21 : decode cX7_told 21 = .ok (.iconst 0, 1) := by decide +kernel
theorem dX7_told_22 : decode cX7_told 22 = .ok (.iconst 4, 1) := by decide +kernel
theorem dX7_told_23 : decode cX7_told 23 = .ok (.invokestatic 92, 3) := by decide +kernel
theorem dX7_told_26 : decode cX7_told 26 = .ok (.ifCond .ne 9, 3) := by decide +kernel
theorem dX7_told_29 : decode cX7_told 29 = .ok (.aload_n 0, 1) := by decide +kernel
theorem dX7_told_30 : decode cX7_told 30 = .ok (.iconst 2, 1) := by decide +kernel
theorem dX7_told_31 : decode cX7_told 31 = .ok (.invokevirtual 122, 3) := by decide +kernel
theorem dX7_told_34 : decode cX7_told 34 = .ok (.ireturn, 1) := by decide +kernel
theorem dX7_told_35 : decode cX7_told 35 = .ok (.iload_n 1, 1) := by decide +kernel
theorem dX7_told_36 : decode cX7_told 36 = .ok (.iload_n 2, 1) := by decide +kernel
theorem dX7_told_37 : decode cX7_told 37 = .ok (.invokestatic 100, 3) := by decide +kernel
theorem dX7_told_40 : decode cX7_told 40 = .ok (.istore 4, 2) := by decide +kernel
theorem dX7_told_42 : decode cX7_told 42 = .ok (.iload_n 3, 1) := by decide +kernel
theorem dX7_told_43 : decode cX7_told 43 = .ok (.tableswitch 64 0 3 #[29, 37, 45, 53], 29) := by decide +kernel
theorem dX7_told_72 : decode cX7_told 72 = .ok (.aload_n 0, 1) := by decide +kernel
theorem dX7_told_73 : decode cX7_told 73 = .ok (.getfield 22, 3) := by decide +kernel
theorem dX7_told_76 : decode cX7_told 76 = .ok (.iload 4, 2) := by decide +kernel
theorem dX7_told_78 : decode cX7_told 78 = .ok (.iaload, 1) := by decide +kernel
theorem dX7_told_79 : decode cX7_told 79 = .ok (.ireturn, 1) := by decide +kernel
theorem dX7_told_80 : decode cX7_told 80 = .ok (.aload_n 0, 1) := by decide +kernel
theorem dX7_told_81 : decode cX7_told 81 = .ok (.getfield 26, 3) := by decide +kernel
theorem dX7_told_84 : decode cX7_told 84 = .ok (.iload 4, 2) := by decide +kernel
theorem dX7_told_86 : decode cX7_told 86 = .ok (.iaload, 1) := by decide +kernel
theorem dX7_told_87 : decode cX7_told 87 = .ok (.ireturn, 1) := by decide +kernel
theorem dX7_told_88 : decode cX7_told 88 = .ok (.aload_n 0, 1) := by decide +kernel
theorem dX7_told_89 : decode cX7_told 89 = .ok (.getfield 35, 3) := by decide +kernel
theorem dX7_told_92 : decode cX7_told 92 = .ok (.iload 4, 2) := by decide +kernel
theorem dX7_told_94 : decode cX7_told 94 = .ok (.iaload, 1) := by decide +kernel
theorem dX7_told_95 : decode cX7_told 95 = .ok (.ireturn, 1) := by decide +kernel
theorem dX7_told_96 : decode cX7_told 96 = .ok (.aload_n 0, 1) := by decide +kernel
theorem dX7_told_97 : decode cX7_told 97 = .ok (.iload_n 1, 1) := by decide +kernel
theorem dX7_told_98 : decode cX7_told 98 = .ok (.iload_n 2, 1) := by decide +kernel
theorem dX7_told_99 : decode cX7_told 99 = .ok (.aload_n 0, 1) := by decide +kernel
theorem dX7_told_100 : decode cX7_told 100 = .ok (.getfield 148, 3) := by decide +kernel
theorem dX7_told_103 : decode cX7_told 103 = .ok (.invokevirtual 151, 3) := by decide +kernel
theorem dX7_told_106 : decode cX7_told 106 = .ok (.ireturn, 1) := by decide +kernel
theorem dX7_told_107 : decode cX7_told 107 = .ok (.aload_n 0, 1) := by decide +kernel
theorem dX7_told_108 : decode cX7_told 108 = .ok (.iload_n 1, 1) := by decide +kernel
theorem dX7_told_109 : decode cX7_told 109 = .ok (.iload_n 2, 1) := by decide +kernel
theorem dX7_told_110 : decode cX7_told 110 = .ok (.aload_n 0, 1) := by decide +kernel
theorem dX7_told_111 : decode cX7_told 111 = .ok (.getfield 22, 3) := by decide +kernel
theorem dX7_told_114 : decode cX7_told 114 = .ok (.iload 4, 2) := by decide +kernel
theorem dX7_told_116 : decode cX7_told 116 = .ok (.iaload, 1) := by decide +kernel
theorem dX7_told_117 : decode cX7_told 117 = .ok (.invokevirtual 139, 3) := by decide +kernel
theorem dX7_told_120 : decode cX7_told 120 = .ok (.ireturn, 1) := by decide +kernel
theorem dX7_energy_0 : decode cX7_energy 0 = .ok (.aload_n 0, 1) := by decide +kernel
theorem dX7_energy_1 : decode cX7_energy 1 = .ok (.iconst 0, 1) := by decide +kernel
theorem dX7_energy_2 : decode cX7_energy 2 = .ok (.putfield 89, 3) := by decide +kernel
theorem dX7_energy_5 : decode cX7_energy 5 = .ok (.aload_n 0, 1) := by decide +kernel
theorem dX7_energy_6 : decode cX7_energy 6 = .ok (.invokevirtual 118, 3) := by decide +kernel
theorem dX7_energy_9 : decode cX7_energy 9 = .ok (.ireturn, 1) := by decide +kernel
theorem dX7_energyAnew_0 : decode cX7_energyAnew 0 = .ok (.aload_n 0, 1) := by decide +kernel
theorem dX7_energyAnew_1 : decode cX7_energyAnew 1 = .ok (.iconst 0, 1) := by decide +kernel
theorem dX7_energyAnew_2 : decode cX7_energyAnew 2 = .ok (.putfield 89, 3) := by decide +kernel
theorem dX7_energyAnew_5 : decode cX7_energyAnew 5 = .ok (.aload_n 0, 1) := by decide +kernel
theorem dX7_energyAnew_6 : decode cX7_energyAnew 6 = .ok (.invokevirtual 118, 3) := by decide +kernel
theorem dX7_energyAnew_9 : decode cX7_energyAnew 9 = .ok (.ireturn, 1) := by decide +kernel
theorem dX7_spent_0 : decode cX7_spent 0 = .ok (.aload_n 0, 1) := by decide +kernel
theorem dX7_spent_1 : decode cX7_spent 1 = .ok (.iconst 0, 1) := by decide +kernel
theorem dX7_spent_2 : decode cX7_spent 2 = .ok (.putfield 89, 3) := by decide +kernel
theorem dX7_spent_5 : decode cX7_spent 5 = .ok (.iload_n 1, 1) := by decide +kernel
theorem dX7_spent_6 : decode cX7_spent 6 = .ok (.ifCond .eq 10, 3) := by decide +kernel
theorem dX7_spent_9 : decode cX7_spent 9 = .ok (.aload_n 0, 1) := by decide +kernel
theorem dX7_spent_10 : decode cX7_spent 10 = .ok (.getfield 86, 3) := by decide +kernel
theorem dX7_spent_13 : decode cX7_spent 13 = .ok (.goto 7, 3) := by decide +kernel
theorem dX7_spent_16 : decode cX7_spent 16 = .ok (.aload_n 0, 1) := by decide +kernel
theorem dX7_spent_17 : decode cX7_spent 17 = .ok (.getfield 83, 3) := by decide +kernel
theorem dX7_spent_20 : decode cX7_spent 20 = .ok (.ireturn, 1) := by decide +kernel
theorem dX7_least_0 : decode cX7_least 0 = .ok (.aload_n 0, 1) := by decide +kernel
theorem dX7_least_1 : decode cX7_least 1 = .ok (.iconst 0, 1) := by decide +kernel
theorem dX7_least_2 : decode cX7_least 2 = .ok (.putfield 89, 3) := by decide +kernel
theorem dX7_least_5 : decode cX7_least 5 = .ok (.iload_n 3, 1) := by decide +kernel
theorem dX7_least_6 : decode cX7_least 6 = .ok (.ifCond .eq 9, 3) := by decide +kernel
theorem dX7_least_9 : decode cX7_least 9 = .ok (.iload_n 1, 1) := by decide +kernel
theorem dX7_least_10 : decode cX7_least 10 = .ok (.iconst 1, 1) := by decide +kernel
theorem dX7_least_11 : decode cX7_least 11 = .ok (.iadd, 1) := by decide +kernel
theorem dX7_least_12 : decode cX7_least 12 = .ok (.goto 4, 3) := by decide +kernel
theorem dX7_least_15 : decode cX7_least 15 = .ok (.iload_n 1, 1) := by decide +kernel
theorem dX7_least_16 : decode cX7_least 16 = .ok (.istore 4, 2) := by decide +kernel
theorem dX7_least_18 : decode cX7_least 18 = .ok (.iload_n 3, 1) := by decide +kernel
theorem dX7_least_19 : decode cX7_least 19 = .ok (.ifCond .eq 7, 3) := by decide +kernel
theorem dX7_least_22 : decode cX7_least 22 = .ok (.iload_n 2, 1) := by decide +kernel
theorem dX7_least_23 : decode cX7_least 23 = .ok (.goto 6, 3) := by decide +kernel
theorem dX7_least_26 : decode cX7_least 26 = .ok (.iload_n 2, 1) := by decide +kernel
theorem dX7_least_27 : decode cX7_least 27 = .ok (.iconst 1, 1) := by decide +kernel
theorem dX7_least_28 : decode cX7_least 28 = .ok (.iadd, 1) := by decide +kernel
theorem dX7_least_29 : decode cX7_least 29 = .ok (.istore 5, 2) := by decide +kernel
theorem dX7_least_31 : decode cX7_least 31 = .ok (.aload_n 0, 1) := by decide +kernel
theorem dX7_least_32 : decode cX7_least 32 = .ok (.iload_n 1, 1) := by decide +kernel
theorem dX7_least_33 : decode cX7_least 33 = .ok (.iload_n 2, 1) := by decide +kernel
theorem dX7_least_34 : decode cX7_least 34 = .ok (.invokevirtual 106, 3) := by decide +kernel
theorem dX7_least_37 : decode cX7_least 37 = .ok (.ifCond .eq 14, 3) := by decide +kernel
theorem dX7_least_40 : decode cX7_least 40 = .ok (.aload_n 0, 1) := by decide +kernel
theorem dX7_least_41 : decode cX7_least 41 = .ok (.iload 4, 2) := by decide +kernel
theorem dX7_least_43 : decode cX7_least 43 = .ok (.iload 5, 2) := by decide +kernel
theorem dX7_least_45 : decode cX7_least 45 = .ok (.invokevirtual 106, 3) := by decide +kernel
theorem dX7_least_48 : decode cX7_least 48 = .ok (.ifCond .ne 9, 3) := by decide +kernel
theorem dX7_least_51 : decode cX7_least 51 = .ok (.aload_n 0, 1) := by decide +kernel
theorem dX7_least_52 : decode cX7_least 52 = .ok (.iconst 1, 1) := by decide +kernel
theorem dX7_least_53 : decode cX7_least 53 = .ok (.invokevirtual 122, 3) := by decide +kernel
theorem dX7_least_56 : decode cX7_least 56 = .ok (.ireturn, 1) := by decide +kernel
theorem dX7_least_57 : decode cX7_least 57 = .ok (.iload_n 1, 1) := by decide +kernel
theorem dX7_least_58 : decode cX7_least 58 = .ok (.iload_n 2, 1) := by decide +kernel
theorem dX7_least_59 : decode cX7_least 59 = .ok (.invokestatic 100, 3) := by decide +kernel
theorem dX7_least_62 : decode cX7_least 62 = .ok (.istore 6, 2) := by decide +kernel
theorem dX7_least_64 : decode cX7_least 64 = .ok (.iload 4, 2) := by decide +kernel
theorem dX7_least_66 : decode cX7_least 66 = .ok (.iload 5, 2) := by decide +kernel
theorem dX7_least_68 : decode cX7_least 68 = .ok (.invokestatic 100, 3) := by decide +kernel
theorem dX7_least_71 : decode cX7_least 71 = .ok (.istore 7, 2) := by decide +kernel
theorem dX7_least_73 : decode cX7_least 73 = .ok (.aload_n 0, 1) := by decide +kernel
theorem dX7_least_74 : decode cX7_least 74 = .ok (.getfield 22, 3) := by decide +kernel
theorem dX7_least_77 : decode cX7_least 77 = .ok (.iload 6, 2) := by decide +kernel
theorem dX7_least_79 : decode cX7_least 79 = .ok (.iaload, 1) := by decide +kernel
theorem dX7_least_80 : decode cX7_least 80 = .ok (.istore 8, 2) := by decide +kernel
theorem dX7_least_82 : decode cX7_least 82 = .ok (.aload_n 0, 1) := by decide +kernel
theorem dX7_least_83 : decode cX7_least 83 = .ok (.getfield 22, 3) := by decide +kernel
theorem dX7_least_86 : decode cX7_least 86 = .ok (.iload 7, 2) := by decide +kernel
theorem dX7_least_88 : decode cX7_least 88 = .ok (.iaload, 1) := by decide +kernel
theorem dX7_least_89 : decode cX7_least 89 = .ok (.istore 9, 2) := by decide +kernel
theorem dX7_least_91 : decode cX7_least 91 = .ok (.ldc 163, 2) := by decide +kernel
theorem dX7_least_93 : decode cX7_least 93 = .ok (.istore 10, 2) := by decide +kernel
theorem dX7_least_95 : decode cX7_least 95 = .ok (.iconst 0, 1) := by decide +kernel
theorem dX7_least_96 : decode cX7_least 96 = .ok (.istore 11, 2) := by decide +kernel
theorem dX7_least_98 : decode cX7_least 98 = .ok (.iload 11, 2) := by decide +kernel
theorem dX7_least_100 : decode cX7_least 100 = .ok (.sipush 225, 3) := by decide +kernel
theorem dX7_least_103 : decode cX7_least 103 = .ok (.if_icmp .ge 143, 3) := by decide +kernel
theorem dX7_least_106 : decode cX7_least 106 = .ok (.iload 11, 2) := by decide +kernel
theorem dX7_least_108 : decode cX7_least 108 = .ok (.bipush 15, 2) := by decide +kernel
theorem dX7_least_110 : decode cX7_least 110 = .ok (.idiv, 1) := by decide +kernel
theorem dX7_least_111 : decode cX7_least 111 = .ok (.istore 12, 2) := by decide +kernel
theorem dX7_least_113 : decode cX7_least 113 = .ok (.iload 11, 2) := by decide +kernel
theorem dX7_least_115 : decode cX7_least 115 = .ok (.bipush 15, 2) := by decide +kernel
theorem dX7_least_117 : decode cX7_least 117 = .ok (.irem, 1) := by decide +kernel
theorem dX7_least_118 : decode cX7_least 118 = .ok (.istore 13, 2) := by decide +kernel
theorem dX7_least_120 : decode cX7_least 120 = .ok (.aload_n 0, 1) := by decide +kernel
theorem dX7_least_121 : decode cX7_least 121 = .ok (.getfield 26, 3) := by decide +kernel
theorem dX7_least_124 : decode cX7_least 124 = .ok (.iload 6, 2) := by decide +kernel
theorem dX7_least_126 : decode cX7_least 126 = .ok (.iaload, 1) := by decide +kernel
theorem dX7_least_127 : decode cX7_least 127 = .ok (.iconst 1, 1) := by decide +kernel
theorem dX7_least_128 : decode cX7_least 128 = .ok (.if_icmp .ne 10, 3) := by decide +kernel
theorem dX7_least_131 : decode cX7_least 131 = .ok (.iload 12, 2) := by decide +kernel
theorem dX7_least_133 : decode cX7_least 133 = .ok (.iload 8, 2) := by decide +kernel
theorem dX7_least_135 : decode cX7_least 135 = .ok (.if_icmp .ne 25, 3) := by decide +kernel
theorem dX7_least_138 : decode cX7_least 138 = .ok (.aload_n 0, 1) := by decide +kernel
theorem dX7_least_139 : decode cX7_least 139 = .ok (.getfield 26, 3) := by decide +kernel
theorem dX7_least_142 : decode cX7_least 142 = .ok (.iload 7, 2) := by decide +kernel
theorem dX7_least_144 : decode cX7_least 144 = .ok (.iaload, 1) := by decide +kernel
theorem dX7_least_145 : decode cX7_least 145 = .ok (.iconst 1, 1) := by decide +kernel
theorem dX7_least_146 : decode cX7_least 146 = .ok (.if_icmp .ne 10, 3) := by decide +kernel
theorem dX7_least_149 : decode cX7_least 149 = .ok (.iload 13, 2) := by decide +kernel
theorem dX7_least_151 : decode cX7_least 151 = .ok (.iload 9, 2) := by decide +kernel
theorem dX7_least_153 : decode cX7_least 153 = .ok (.if_icmp .ne 7, 3) := by decide +kernel
theorem dX7_least_156 : decode cX7_least 156 = .ok (.iconst 1, 1) := by decide +kernel
theorem dX7_least_157 : decode cX7_least 157 = .ok (.goto 4, 3) := by decide +kernel
theorem dX7_least_160 : decode cX7_least 160 = .ok (.iconst 0, 1) := by decide +kernel
theorem dX7_least_161 : decode cX7_least 161 = .ok (.istore 14, 2) := by decide +kernel
theorem dX7_least_163 : decode cX7_least 163 = .ok (.iload 14, 2) := by decide +kernel
theorem dX7_least_165 : decode cX7_least 165 = .ok (.ifCond .eq 75, 3) := by decide +kernel
theorem dX7_least_168 : decode cX7_least 168 = .ok (.aload_n 0, 1) := by decide +kernel
theorem dX7_least_169 : decode cX7_least 169 = .ok (.getfield 22, 3) := by decide +kernel
theorem dX7_least_172 : decode cX7_least 172 = .ok (.iload 6, 2) := by decide +kernel
theorem dX7_least_174 : decode cX7_least 174 = .ok (.iload 12, 2) := by decide +kernel
theorem dX7_least_176 : decode cX7_least 176 = .ok (.iastore, 1) := by decide +kernel
theorem dX7_least_177 : decode cX7_least 177 = .ok (.aload_n 0, 1) := by decide +kernel
theorem dX7_least_178 : decode cX7_least 178 = .ok (.getfield 22, 3) := by decide +kernel
theorem dX7_least_181 : decode cX7_least 181 = .ok (.iload 7, 2) := by decide +kernel
theorem dX7_least_183 : decode cX7_least 183 = .ok (.iload 13, 2) := by decide +kernel
theorem dX7_least_185 : decode cX7_least 185 = .ok (.iastore, 1) := by decide +kernel
theorem dX7_least_186 : decode cX7_least 186 = .ok (.aload_n 0, 1) := by decide +kernel
theorem dX7_least_187 : decode cX7_least 187 = .ok (.iload_n 1, 1) := by decide +kernel
theorem dX7_least_188 : decode cX7_least 188 = .ok (.iload_n 2, 1) := by decide +kernel
theorem dX7_least_189 : decode cX7_least 189 = .ok (.iload 12, 2) := by decide +kernel
theorem dX7_least_191 : decode cX7_least 191 = .ok (.invokevirtual 139, 3) := by decide +kernel
theorem dX7_least_194 : decode cX7_least 194 = .ok (.aload_n 0, 1) := by decide +kernel
theorem dX7_least_195 : decode cX7_least 195 = .ok (.iload 4, 2) := by decide +kernel
theorem dX7_least_197 : decode cX7_least 197 = .ok (.iload 5, 2) := by decide +kernel
theorem dX7_least_199 : decode cX7_least 199 = .ok (.iload 13, 2) := by decide +kernel
theorem dX7_least_201 : decode cX7_least 201 = .ok (.invokevirtual 139, 3) := by decide +kernel
theorem dX7_least_204 : decode cX7_least 204 = .ok (.iadd, 1) := by decide +kernel
theorem dX7_least_205 : decode cX7_least 205 = .ok (.aload_n 0, 1) := by decide +kernel
theorem dX7_least_206 : decode cX7_least 206 = .ok (.iload_n 1, 1) := by decide +kernel
theorem dX7_least_207 : decode cX7_least 207 = .ok (.iload_n 2, 1) := by decide +kernel
theorem dX7_least_208 : decode cX7_least 208 = .ok (.iload 12, 2) := by decide +kernel
theorem dX7_least_210 : decode cX7_least 210 = .ok (.iload 4, 2) := by decide +kernel
theorem dX7_least_212 : decode cX7_least 212 = .ok (.iload_n 1, 1) := by decide +kernel
theorem dX7_least_213 : decode cX7_least 213 = .ok (.isub, 1) := by decide +kernel
theorem dX7_least_214 : decode cX7_least 214 = .ok (.iload 5, 2) := by decide +kernel
theorem dX7_least_216 : decode cX7_least 216 = .ok (.iload_n 2, 1) := by decide +kernel
theorem dX7_least_217 : decode cX7_least 217 = .ok (.isub, 1) := by decide +kernel
theorem dX7_least_218 : decode cX7_least 218 = .ok (.invokevirtual 114, 3) := by decide +kernel
theorem dX7_least_221 : decode cX7_least 221 = .ok (.isub, 1) := by decide +kernel
theorem dX7_least_222 : decode cX7_least 222 = .ok (.istore 15, 2) := by decide +kernel
theorem dX7_least_224 : decode cX7_least 224 = .ok (.iload 15, 2) := by decide +kernel
theorem dX7_least_226 : decode cX7_least 226 = .ok (.iload 10, 2) := by decide +kernel
theorem dX7_least_228 : decode cX7_least 228 = .ok (.if_icmp .ge 8, 3) := by decide +kernel
theorem dX7_least_231 : decode cX7_least 231 = .ok (.iload 15, 2) := by decide +kernel
theorem dX7_least_233 : decode cX7_least 233 = .ok (.goto 5, 3) := by decide +kernel
theorem dX7_least_236 : decode cX7_least 236 = .ok (.iload 10, 2) := by decide +kernel
theorem dX7_least_238 : decode cX7_least 238 = .ok (.istore 10, 2) := by decide +kernel
theorem dX7_least_240 : decode cX7_least 240 = .ok (.iinc 11 1, 3) := by decide +kernel
theorem dX7_least_243 : decode cX7_least 243 = .ok (.goto (-145), 3) := by decide +kernel
theorem dX7_least_246 : decode cX7_least 246 = .ok (.aload_n 0, 1) := by decide +kernel
theorem dX7_least_247 : decode cX7_least 247 = .ok (.getfield 22, 3) := by decide +kernel
theorem dX7_least_250 : decode cX7_least 250 = .ok (.iload 6, 2) := by decide +kernel
theorem dX7_least_252 : decode cX7_least 252 = .ok (.iload 8, 2) := by decide +kernel
theorem dX7_least_254 : decode cX7_least 254 = .ok (.iastore, 1) := by decide +kernel
theorem dX7_least_255 : decode cX7_least 255 = .ok (.aload_n 0, 1) := by decide +kernel
theorem dX7_least_256 : decode cX7_least 256 = .ok (.getfield 22, 3) := by decide +kernel
theorem dX7_least_259 : decode cX7_least 259 = .ok (.iload 7, 2) := by decide +kernel
theorem dX7_least_261 : decode cX7_least 261 = .ok (.iload 9, 2) := by decide +kernel
theorem dX7_least_263 : decode cX7_least 263 = .ok (.iastore, 1) := by decide +kernel
theorem dX7_least_264 : decode cX7_least 264 = .ok (.iload 10, 2) := by decide +kernel
theorem dX7_least_266 : decode cX7_least 266 = .ok (.ireturn, 1) := by decide +kernel
theorem dX7_directionAt_0 : decode cX7_directionAt 0 = .ok (.aload_n 0, 1) := by decide +kernel
theorem dX7_directionAt_1 : decode cX7_directionAt 1 = .ok (.getfield 22, 3) := by decide +kernel
theorem dX7_directionAt_4 : decode cX7_directionAt 4 = .ok (.iload_n 1, 1) := by decide +kernel
theorem dX7_directionAt_5 : decode cX7_directionAt 5 = .ok (.iload_n 2, 1) := by decide +kernel
theorem dX7_directionAt_6 : decode cX7_directionAt 6 = .ok (.invokestatic 100, 3) := by decide +kernel
theorem dX7_directionAt_9 : decode cX7_directionAt 9 = .ok (.iaload, 1) := by decide +kernel
theorem dX7_directionAt_10 : decode cX7_directionAt 10 = .ok (.ireturn, 1) := by decide +kernel
theorem dX7_windingAt_0 : decode cX7_windingAt 0 = .ok (.aload_n 0, 1) := by decide +kernel
theorem dX7_windingAt_1 : decode cX7_windingAt 1 = .ok (.iload_n 1, 1) := by decide +kernel
theorem dX7_windingAt_2 : decode cX7_windingAt 2 = .ok (.iload_n 2, 1) := by decide +kernel
theorem dX7_windingAt_3 : decode cX7_windingAt 3 = .ok (.invokevirtual 164, 3) := by decide +kernel
theorem dX7_windingAt_6 : decode cX7_windingAt 6 = .ok (.istore_n 3, 1) := by decide +kernel
theorem dX7_windingAt_7 : decode cX7_windingAt 7 = .ok (.aload_n 0, 1) := by decide +kernel
theorem dX7_windingAt_8 : decode cX7_windingAt 8 = .ok (.iload_n 1, 1) := by decide +kernel
theorem dX7_windingAt_9 : decode cX7_windingAt 9 = .ok (.iconst 1, 1) := by decide +kernel
theorem dX7_windingAt_10 : decode cX7_windingAt 10 = .ok (.iadd, 1) := by decide +kernel
theorem dX7_windingAt_11 : decode cX7_windingAt 11 = .ok (.iload_n 2, 1) := by decide +kernel
theorem dX7_windingAt_12 : decode cX7_windingAt 12 = .ok (.invokevirtual 164, 3) := by decide +kernel
theorem dX7_windingAt_15 : decode cX7_windingAt 15 = .ok (.istore 4, 2) := by decide +kernel
theorem dX7_windingAt_17 : decode cX7_windingAt 17 = .ok (.aload_n 0, 1) := by decide +kernel
theorem dX7_windingAt_18 : decode cX7_windingAt 18 = .ok (.iload_n 1, 1) := by decide +kernel
theorem dX7_windingAt_19 : decode cX7_windingAt 19 = .ok (.iconst 1, 1) := by decide +kernel
theorem dX7_windingAt_20 : decode cX7_windingAt 20 = .ok (.iadd, 1) := by decide +kernel
theorem dX7_windingAt_21 : decode cX7_windingAt 21 = .ok (.iload_n 2, 1) := by decide +kernel
theorem dX7_windingAt_22 : decode cX7_windingAt 22 = .ok (.iconst 1, 1) := by decide +kernel
theorem dX7_windingAt_23 : decode cX7_windingAt 23 = .ok (.iadd, 1) := by decide +kernel
theorem dX7_windingAt_24 : decode cX7_windingAt 24 = .ok (.invokevirtual 164, 3) := by decide +kernel
theorem dX7_windingAt_27 : decode cX7_windingAt 27 = .ok (.istore 5, 2) := by decide +kernel
theorem dX7_windingAt_29 : decode cX7_windingAt 29 = .ok (.aload_n 0, 1) := by decide +kernel
theorem dX7_windingAt_30 : decode cX7_windingAt 30 = .ok (.iload_n 1, 1) := by decide +kernel
theorem dX7_windingAt_31 : decode cX7_windingAt 31 = .ok (.iload_n 2, 1) := by decide +kernel
theorem dX7_windingAt_32 : decode cX7_windingAt 32 = .ok (.iconst 1, 1) := by decide +kernel
theorem dX7_windingAt_33 : decode cX7_windingAt 33 = .ok (.iadd, 1) := by decide +kernel
theorem dX7_windingAt_34 : decode cX7_windingAt 34 = .ok (.invokevirtual 164, 3) := by decide +kernel
theorem dX7_windingAt_37 : decode cX7_windingAt 37 = .ok (.istore 6, 2) := by decide +kernel
theorem dX7_windingAt_39 : decode cX7_windingAt 39 = .ok (.iload 6, 2) := by decide +kernel
theorem dX7_windingAt_41 : decode cX7_windingAt 41 = .ok (.iload_n 3, 1) := by decide +kernel
theorem dX7_windingAt_42 : decode cX7_windingAt 42 = .ok (.invokestatic 96, 3) := by decide +kernel
theorem dX7_windingAt_45 : decode cX7_windingAt 45 = .ok (.iload_n 3, 1) := by decide +kernel
theorem dX7_windingAt_46 : decode cX7_windingAt 46 = .ok (.iload 4, 2) := by decide +kernel
theorem dX7_windingAt_48 : decode cX7_windingAt 48 = .ok (.invokestatic 96, 3) := by decide +kernel
theorem dX7_windingAt_51 : decode cX7_windingAt 51 = .ok (.iadd, 1) := by decide +kernel
theorem dX7_windingAt_52 : decode cX7_windingAt 52 = .ok (.iload 4, 2) := by decide +kernel
theorem dX7_windingAt_54 : decode cX7_windingAt 54 = .ok (.iload 5, 2) := by decide +kernel
theorem dX7_windingAt_56 : decode cX7_windingAt 56 = .ok (.invokestatic 96, 3) := by decide +kernel
theorem dX7_windingAt_59 : decode cX7_windingAt 59 = .ok (.iadd, 1) := by decide +kernel
theorem dX7_windingAt_60 : decode cX7_windingAt 60 = .ok (.iload 5, 2) := by decide +kernel
theorem dX7_windingAt_62 : decode cX7_windingAt 62 = .ok (.iload 6, 2) := by decide +kernel
theorem dX7_windingAt_64 : decode cX7_windingAt 64 = .ok (.invokestatic 96, 3) := by decide +kernel
theorem dX7_windingAt_67 : decode cX7_windingAt 67 = .ok (.iadd, 1) := by decide +kernel
theorem dX7_windingAt_68 : decode cX7_windingAt 68 = .ok (.bipush 15, 2) := by decide +kernel
theorem dX7_windingAt_70 : decode cX7_windingAt 70 = .ok (.idiv, 1) := by decide +kernel
theorem dX7_windingAt_71 : decode cX7_windingAt 71 = .ok (.ireturn, 1) := by decide +kernel
theorem dX7_winding_0 : decode cX7_winding 0 = .ok (.aload_n 0, 1) := by decide +kernel
theorem dX7_winding_1 : decode cX7_winding 1 = .ok (.iconst 0, 1) := by decide +kernel
theorem dX7_winding_2 : decode cX7_winding 2 = .ok (.putfield 89, 3) := by decide +kernel
theorem dX7_winding_5 : decode cX7_winding 5 = .ok (.iload_n 1, 1) := by decide +kernel
theorem dX7_winding_6 : decode cX7_winding 6 = .ok (.iconst 0, 1) := by decide +kernel
theorem dX7_winding_7 : decode cX7_winding 7 = .ok (.aload_n 0, 1) := by decide +kernel
theorem dX7_winding_8 : decode cX7_winding 8 = .ok (.getfield 7, 3) := by decide +kernel
theorem dX7_winding_11 : decode cX7_winding 11 = .ok (.iconst 2, 1) := by decide +kernel
theorem dX7_winding_12 : decode cX7_winding 12 = .ok (.isub, 1) := by decide +kernel
theorem dX7_winding_13 : decode cX7_winding 13 = .ok (.invokestatic 92, 3) := by decide +kernel
theorem dX7_winding_16 : decode cX7_winding 16 = .ok (.ifCond .eq 17, 3) := by decide +kernel
theorem dX7_winding_19 : decode cX7_winding 19 = .ok (.iload_n 2, 1) := by decide +kernel
theorem dX7_winding_20 : decode cX7_winding 20 = .ok (.iconst 0, 1) := by decide +kernel
theorem dX7_winding_21 : decode cX7_winding 21 = .ok (.aload_n 0, 1) := by decide +kernel
theorem dX7_winding_22 : decode cX7_winding 22 = .ok (.getfield 13, 3) := by decide +kernel
theorem dX7_winding_25 : decode cX7_winding 25 = .ok (.iconst 2, 1) := by decide +kernel
theorem dX7_winding_26 : decode cX7_winding 26 = .ok (.isub, 1) := by decide +kernel
theorem dX7_winding_27 : decode cX7_winding 27 = .ok (.invokestatic 92, 3) := by decide +kernel
theorem dX7_winding_30 : decode cX7_winding 30 = .ok (.ifCond .ne 9, 3) := by decide +kernel
theorem dX7_winding_33 : decode cX7_winding 33 = .ok (.aload_n 0, 1) := by decide +kernel
theorem dX7_winding_34 : decode cX7_winding 34 = .ok (.iconst 1, 1) := by decide +kernel
theorem dX7_winding_35 : decode cX7_winding 35 = .ok (.invokevirtual 122, 3) := by decide +kernel
theorem dX7_winding_38 : decode cX7_winding 38 = .ok (.ireturn, 1) := by decide +kernel
theorem dX7_winding_39 : decode cX7_winding 39 = .ok (.aload_n 0, 1) := by decide +kernel
theorem dX7_winding_40 : decode cX7_winding 40 = .ok (.iload_n 1, 1) := by decide +kernel
theorem dX7_winding_41 : decode cX7_winding 41 = .ok (.iload_n 2, 1) := by decide +kernel
theorem dX7_winding_42 : decode cX7_winding 42 = .ok (.invokevirtual 167, 3) := by decide +kernel
theorem dX7_winding_45 : decode cX7_winding 45 = .ok (.ireturn, 1) := by decide +kernel
theorem dX7_isRefused_0 : decode cX7_isRefused 0 = .ok (.aload_n 0, 1) := by decide +kernel
theorem dX7_isRefused_1 : decode cX7_isRefused 1 = .ok (.aload_n 0, 1) := by decide +kernel
theorem dX7_isRefused_2 : decode cX7_isRefused 2 = .ok (.iload_n 1, 1) := by decide +kernel
theorem dX7_isRefused_3 : decode cX7_isRefused 3 = .ok (.iload_n 2, 1) := by decide +kernel
theorem dX7_isRefused_4 : decode cX7_isRefused 4 = .ok (.invokevirtual 106, 3) := by decide +kernel
theorem dX7_isRefused_7 : decode cX7_isRefused 7 = .ok (.ifCond .eq 13, 3) := by decide +kernel
theorem dX7_isRefused_10 : decode cX7_isRefused 10 = .ok (.aload_n 0, 1) := by decide +kernel
theorem dX7_isRefused_11 : decode cX7_isRefused 11 = .ok (.iload_n 3, 1) := by decide +kernel
theorem dX7_isRefused_12 : decode cX7_isRefused 12 = .ok (.iload 4, 2) := by decide +kernel
theorem dX7_isRefused_14 : decode cX7_isRefused 14 = .ok (.invokevirtual 106, 3) := by decide +kernel
theorem dX7_isRefused_17 : decode cX7_isRefused 17 = .ok (.ifCond .ne 7, 3) := by decide +kernel
theorem dX7_isRefused_20 : decode cX7_isRefused 20 = .ok (.iconst 1, 1) := by decide +kernel
theorem dX7_isRefused_21 : decode cX7_isRefused 21 = .ok (.goto 19, 3) := by decide +kernel
theorem dX7_isRefused_24 : decode cX7_isRefused 24 = .ok (.iload_n 3, 1) := by decide +kernel
theorem dX7_isRefused_25 : decode cX7_isRefused 25 = .ok (.iload_n 1, 1) := by decide +kernel
theorem dX7_isRefused_26 : decode cX7_isRefused 26 = .ok (.if_icmp .le 9, 3) := by decide +kernel
theorem dX7_isRefused_29 : decode cX7_isRefused 29 = .ok (.iload 4, 2) := by decide +kernel
theorem dX7_isRefused_31 : decode cX7_isRefused 31 = .ok (.iload_n 2, 1) := by decide +kernel
theorem dX7_isRefused_32 : decode cX7_isRefused 32 = .ok (.if_icmp .gt 7, 3) := by decide +kernel
theorem dX7_isRefused_35 : decode cX7_isRefused 35 = .ok (.iconst 2, 1) := by decide +kernel
theorem dX7_isRefused_36 : decode cX7_isRefused 36 = .ok (.goto 4, 3) := by decide +kernel
theorem dX7_isRefused_39 : decode cX7_isRefused 39 = .ok (.iconst 0, 1) := by decide +kernel
theorem dX7_isRefused_40 : decode cX7_isRefused 40 = .ok (.putfield 89, 3) := by decide +kernel
theorem dX7_isRefused_43 : decode cX7_isRefused 43 = .ok (.aload_n 0, 1) := by decide +kernel
theorem dX7_isRefused_44 : decode cX7_isRefused 44 = .ok (.getfield 89, 3) := by decide +kernel
theorem dX7_isRefused_47 : decode cX7_isRefused 47 = .ok (.ifCond .le 7, 3) := by decide +kernel
theorem dX7_isRefused_50 : decode cX7_isRefused 50 = .ok (.iconst 1, 1) := by decide +kernel
theorem dX7_isRefused_51 : decode cX7_isRefused 51 = .ok (.goto 4, 3) := by decide +kernel
theorem dX7_isRefused_54 : decode cX7_isRefused 54 = .ok (.iconst 0, 1) := by decide +kernel
theorem dX7_isRefused_55 : decode cX7_isRefused 55 = .ok (.ireturn, 1) := by decide +kernel
theorem dX7_within_0 : decode cX7_within 0 = .ok (.aload_n 0, 1) := by decide +kernel
theorem dX7_within_1 : decode cX7_within 1 = .ok (.iload_n 1, 1) := by decide +kernel
theorem dX7_within_2 : decode cX7_within 2 = .ok (.iload_n 2, 1) := by decide +kernel
theorem dX7_within_3 : decode cX7_within 3 = .ok (.iload_n 3, 1) := by decide +kernel
theorem dX7_within_4 : decode cX7_within 4 = .ok (.iload 4, 2) := by decide +kernel
theorem dX7_within_6 : decode cX7_within 6 = .ok (.invokevirtual 170, 3) := by decide +kernel
theorem dX7_within_9 : decode cX7_within 9 = .ok (.ifCond .eq 5, 3) := by decide +kernel
theorem dX7_within_12 : decode cX7_within 12 = .ok (.iconst 0, 1) := by decide +kernel
theorem dX7_within_13 : decode cX7_within 13 = .ok (.ireturn, 1) := by decide +kernel
theorem dX7_within_14 : decode cX7_within 14 = .ok (.iconst 0, 1) := by decide +kernel
theorem dX7_within_15 : decode cX7_within 15 = .ok (.istore 5, 2) := by decide +kernel
theorem dX7_within_17 : decode cX7_within 17 = .ok (.iload_n 2, 1) := by decide +kernel
theorem dX7_within_18 : decode cX7_within 18 = .ok (.istore 6, 2) := by decide +kernel
theorem dX7_within_20 : decode cX7_within 20 = .ok (.iload 6, 2) := by decide +kernel
theorem dX7_within_22 : decode cX7_within 22 = .ok (.iload 4, 2) := by decide +kernel
theorem dX7_within_24 : decode cX7_within 24 = .ok (.if_icmp .ge 37, 3) := by decide +kernel
theorem dX7_within_27 : decode cX7_within 27 = .ok (.iload_n 1, 1) := by decide +kernel
theorem dX7_within_28 : decode cX7_within 28 = .ok (.istore 7, 2) := by decide +kernel
theorem dX7_within_30 : decode cX7_within 30 = .ok (.iload 7, 2) := by decide +kernel
theorem dX7_within_32 : decode cX7_within 32 = .ok (.iload_n 3, 1) := by decide +kernel
theorem dX7_within_33 : decode cX7_within 33 = .ok (.if_icmp .ge 22, 3) := by decide +kernel
theorem dX7_within_36 : decode cX7_within 36 = .ok (.iload 5, 2) := by decide +kernel
theorem dX7_within_38 : decode cX7_within 38 = .ok (.aload_n 0, 1) := by decide +kernel
theorem dX7_within_39 : decode cX7_within 39 = .ok (.iload 7, 2) := by decide +kernel
theorem dX7_within_41 : decode cX7_within 41 = .ok (.iload 6, 2) := by decide +kernel
theorem dX7_within_43 : decode cX7_within 43 = .ok (.invokevirtual 167, 3) := by decide +kernel
theorem dX7_within_46 : decode cX7_within 46 = .ok (.iadd, 1) := by decide +kernel
theorem dX7_within_47 : decode cX7_within 47 = .ok (.istore 5, 2) := by decide +kernel
theorem dX7_within_49 : decode cX7_within 49 = .ok (.iinc 7 1, 3) := by decide +kernel
theorem dX7_within_52 : decode cX7_within 52 = .ok (.goto (-22), 3) := by decide +kernel
theorem dX7_within_55 : decode cX7_within 55 = .ok (.iinc 6 1, 3) := by decide +kernel
theorem dX7_within_58 : decode cX7_within 58 = .ok (.goto (-38), 3) := by decide +kernel
theorem dX7_within_61 : decode cX7_within 61 = .ok (.iload 5, 2) := by decide +kernel
theorem dX7_within_63 : decode cX7_within 63 = .ok (.ireturn, 1) := by decide +kernel
theorem dX7_border_0 : decode cX7_border 0 = .ok (.aload_n 0, 1) := by decide +kernel
theorem dX7_border_1 : decode cX7_border 1 = .ok (.iload_n 1, 1) := by decide +kernel
theorem dX7_border_2 : decode cX7_border 2 = .ok (.iload_n 2, 1) := by decide +kernel
theorem dX7_border_3 : decode cX7_border 3 = .ok (.iload_n 3, 1) := by decide +kernel
theorem dX7_border_4 : decode cX7_border 4 = .ok (.iload 4, 2) := by decide +kernel
theorem dX7_border_6 : decode cX7_border 6 = .ok (.invokevirtual 170, 3) := by decide +kernel
theorem dX7_border_9 : decode cX7_border 9 = .ok (.ifCond .eq 5, 3) := by decide +kernel
theorem dX7_border_12 : decode cX7_border 12 = .ok (.iconst 0, 1) := by decide +kernel
theorem dX7_border_13 : decode cX7_border 13 = .ok (.ireturn, 1) := by decide +kernel
theorem dX7_border_14 : decode cX7_border 14 = .ok (.iconst 0, 1) := by decide +kernel
theorem dX7_border_15 : decode cX7_border 15 = .ok (.istore 5, 2) := by decide +kernel
theorem dX7_border_17 : decode cX7_border 17 = .ok (.iload_n 1, 1) := by decide +kernel
theorem dX7_border_18 : decode cX7_border 18 = .ok (.istore 6, 2) := by decide +kernel
theorem dX7_border_20 : decode cX7_border 20 = .ok (.iload 6, 2) := by decide +kernel
theorem dX7_border_22 : decode cX7_border 22 = .ok (.iload_n 3, 1) := by decide +kernel
theorem dX7_border_23 : decode cX7_border 23 = .ok (.if_icmp .ge 59, 3) := by decide +kernel
theorem dX7_border_26 : decode cX7_border 26 = .ok (.iload 5, 2) := by decide +kernel
theorem dX7_border_28 : decode cX7_border 28 = .ok (.aload_n 0, 1) := by decide +kernel
theorem dX7_border_29 : decode cX7_border 29 = .ok (.iload 6, 2) := by decide +kernel
theorem dX7_border_31 : decode cX7_border 31 = .ok (.iload_n 2, 1) := by decide +kernel
theorem dX7_border_32 : decode cX7_border 32 = .ok (.invokevirtual 164, 3) := by decide +kernel
theorem dX7_border_35 : decode cX7_border 35 = .ok (.aload_n 0, 1) := by decide +kernel
theorem dX7_border_36 : decode cX7_border 36 = .ok (.iload 6, 2) := by decide +kernel
theorem dX7_border_38 : decode cX7_border 38 = .ok (.iconst 1, 1) := by decide +kernel
theorem dX7_border_39 : decode cX7_border 39 = .ok (.iadd, 1) := by decide +kernel
theorem dX7_border_40 : decode cX7_border 40 = .ok (.iload_n 2, 1) := by decide +kernel
theorem dX7_border_41 : decode cX7_border 41 = .ok (.invokevirtual 164, 3) := by decide +kernel
theorem dX7_border_44 : decode cX7_border 44 = .ok (.invokestatic 96, 3) := by decide +kernel
theorem dX7_border_47 : decode cX7_border 47 = .ok (.iadd, 1) := by decide +kernel
theorem dX7_border_48 : decode cX7_border 48 = .ok (.istore 5, 2) := by decide +kernel
theorem dX7_border_50 : decode cX7_border 50 = .ok (.iload 5, 2) := by decide +kernel
theorem dX7_border_52 : decode cX7_border 52 = .ok (.aload_n 0, 1) := by decide +kernel
theorem dX7_border_53 : decode cX7_border 53 = .ok (.iload 6, 2) := by decide +kernel
theorem dX7_border_55 : decode cX7_border 55 = .ok (.iconst 1, 1) := by decide +kernel
theorem dX7_border_56 : decode cX7_border 56 = .ok (.iadd, 1) := by decide +kernel
theorem dX7_border_57 : decode cX7_border 57 = .ok (.iload 4, 2) := by decide +kernel
theorem dX7_border_59 : decode cX7_border 59 = .ok (.invokevirtual 164, 3) := by decide +kernel
theorem dX7_border_62 : decode cX7_border 62 = .ok (.aload_n 0, 1) := by decide +kernel
theorem dX7_border_63 : decode cX7_border 63 = .ok (.iload 6, 2) := by decide +kernel
theorem dX7_border_65 : decode cX7_border 65 = .ok (.iload 4, 2) := by decide +kernel
theorem dX7_border_67 : decode cX7_border 67 = .ok (.invokevirtual 164, 3) := by decide +kernel
theorem dX7_border_70 : decode cX7_border 70 = .ok (.invokestatic 96, 3) := by decide +kernel
theorem dX7_border_73 : decode cX7_border 73 = .ok (.iadd, 1) := by decide +kernel
theorem dX7_border_74 : decode cX7_border 74 = .ok (.istore 5, 2) := by decide +kernel
theorem dX7_border_76 : decode cX7_border 76 = .ok (.iinc 6 1, 3) := by decide +kernel
theorem dX7_border_79 : decode cX7_border 79 = .ok (.goto (-59), 3) := by decide +kernel
theorem dX7_border_82 : decode cX7_border 82 = .ok (.iload_n 2, 1) := by decide +kernel
theorem dX7_border_83 : decode cX7_border 83 = .ok (.istore 6, 2) := by decide +kernel
theorem dX7_border_85 : decode cX7_border 85 = .ok (.iload 6, 2) := by decide +kernel
theorem dX7_border_87 : decode cX7_border 87 = .ok (.iload 4, 2) := by decide +kernel
theorem dX7_border_89 : decode cX7_border 89 = .ok (.if_icmp .ge 57, 3) := by decide +kernel
theorem dX7_border_92 : decode cX7_border 92 = .ok (.iload 5, 2) := by decide +kernel
theorem dX7_border_94 : decode cX7_border 94 = .ok (.aload_n 0, 1) := by decide +kernel
theorem dX7_border_95 : decode cX7_border 95 = .ok (.iload_n 3, 1) := by decide +kernel
theorem dX7_border_96 : decode cX7_border 96 = .ok (.iload 6, 2) := by decide +kernel
theorem dX7_border_98 : decode cX7_border 98 = .ok (.invokevirtual 164, 3) := by decide +kernel
theorem dX7_border_101 : decode cX7_border 101 = .ok (.aload_n 0, 1) := by decide +kernel
theorem dX7_border_102 : decode cX7_border 102 = .ok (.iload_n 3, 1) := by decide +kernel
theorem dX7_border_103 : decode cX7_border 103 = .ok (.iload 6, 2) := by decide +kernel
theorem dX7_border_105 : decode cX7_border 105 = .ok (.iconst 1, 1) := by decide +kernel
theorem dX7_border_106 : decode cX7_border 106 = .ok (.iadd, 1) := by decide +kernel
theorem dX7_border_107 : decode cX7_border 107 = .ok (.invokevirtual 164, 3) := by decide +kernel
theorem dX7_border_110 : decode cX7_border 110 = .ok (.invokestatic 96, 3) := by decide +kernel
theorem dX7_border_113 : decode cX7_border 113 = .ok (.iadd, 1) := by decide +kernel
theorem dX7_border_114 : decode cX7_border 114 = .ok (.istore 5, 2) := by decide +kernel
theorem dX7_border_116 : decode cX7_border 116 = .ok (.iload 5, 2) := by decide +kernel
theorem dX7_border_118 : decode cX7_border 118 = .ok (.aload_n 0, 1) := by decide +kernel
theorem dX7_border_119 : decode cX7_border 119 = .ok (.iload_n 1, 1) := by decide +kernel
theorem dX7_border_120 : decode cX7_border 120 = .ok (.iload 6, 2) := by decide +kernel
theorem dX7_border_122 : decode cX7_border 122 = .ok (.iconst 1, 1) := by decide +kernel
theorem dX7_border_123 : decode cX7_border 123 = .ok (.iadd, 1) := by decide +kernel
theorem dX7_border_124 : decode cX7_border 124 = .ok (.invokevirtual 164, 3) := by decide +kernel
theorem dX7_border_127 : decode cX7_border 127 = .ok (.aload_n 0, 1) := by decide +kernel
theorem dX7_border_128 : decode cX7_border 128 = .ok (.iload_n 1, 1) := by decide +kernel
theorem dX7_border_129 : decode cX7_border 129 = .ok (.iload 6, 2) := by decide +kernel
theorem dX7_border_131 : decode cX7_border 131 = .ok (.invokevirtual 164, 3) := by decide +kernel
theorem dX7_border_134 : decode cX7_border 134 = .ok (.invokestatic 96, 3) := by decide +kernel
theorem dX7_border_137 : decode cX7_border 137 = .ok (.iadd, 1) := by decide +kernel
theorem dX7_border_138 : decode cX7_border 138 = .ok (.istore 5, 2) := by decide +kernel
theorem dX7_border_140 : decode cX7_border 140 = .ok (.iinc 6 1, 3) := by decide +kernel
theorem dX7_border_143 : decode cX7_border 143 = .ok (.goto (-58), 3) := by decide +kernel
theorem dX7_border_146 : decode cX7_border 146 = .ok (.iload 5, 2) := by decide +kernel
theorem dX7_border_148 : decode cX7_border 148 = .ok (.bipush 15, 2) := by decide +kernel
theorem dX7_border_150 : decode cX7_border 150 = .ok (.idiv, 1) := by decide +kernel
theorem dX7_border_151 : decode cX7_border 151 = .ok (.ireturn, 1) := by decide +kernel
theorem dX7_defects_0 : decode cX7_defects 0 = .ok (.aload_n 0, 1) := by decide +kernel
theorem dX7_defects_1 : decode cX7_defects 1 = .ok (.iconst 0, 1) := by decide +kernel
theorem dX7_defects_2 : decode cX7_defects 2 = .ok (.putfield 89, 3) := by decide +kernel
theorem dX7_defects_5 : decode cX7_defects 5 = .ok (.iconst 0, 1) := by decide +kernel
theorem dX7_defects_6 : decode cX7_defects 6 = .ok (.istore_n 1, 1) := by decide +kernel
theorem dX7_defects_7 : decode cX7_defects 7 = .ok (.iconst 0, 1) := by decide +kernel
theorem dX7_defects_8 : decode cX7_defects 8 = .ok (.istore_n 2, 1) := by decide +kernel
theorem dX7_defects_9 : decode cX7_defects 9 = .ok (.iload_n 2, 1) := by decide +kernel
theorem dX7_defects_10 : decode cX7_defects 10 = .ok (.aload_n 0, 1) := by decide +kernel
theorem dX7_defects_11 : decode cX7_defects 11 = .ok (.getfield 13, 3) := by decide +kernel
theorem dX7_defects_14 : decode cX7_defects 14 = .ok (.iconst 1, 1) := by decide +kernel
theorem dX7_defects_15 : decode cX7_defects 15 = .ok (.isub, 1) := by decide +kernel
theorem dX7_defects_16 : decode cX7_defects 16 = .ok (.if_icmp .ge 44, 3) := by decide +kernel
theorem dX7_defects_19 : decode cX7_defects 19 = .ok (.iconst 0, 1) := by decide +kernel
theorem dX7_defects_20 : decode cX7_defects 20 = .ok (.istore_n 3, 1) := by decide +kernel
theorem dX7_defects_21 : decode cX7_defects 21 = .ok (.iload_n 3, 1) := by decide +kernel
theorem dX7_defects_22 : decode cX7_defects 22 = .ok (.aload_n 0, 1) := by decide +kernel
theorem dX7_defects_23 : decode cX7_defects 23 = .ok (.getfield 7, 3) := by decide +kernel
theorem dX7_defects_26 : decode cX7_defects 26 = .ok (.iconst 1, 1) := by decide +kernel
theorem dX7_defects_27 : decode cX7_defects 27 = .ok (.isub, 1) := by decide +kernel
theorem dX7_defects_28 : decode cX7_defects 28 = .ok (.if_icmp .ge 26, 3) := by decide +kernel
theorem dX7_defects_31 : decode cX7_defects 31 = .ok (.iload_n 1, 1) := by decide +kernel
theorem dX7_defects_32 : decode cX7_defects 32 = .ok (.aload_n 0, 1) := by decide +kernel
theorem dX7_defects_33 : decode cX7_defects 33 = .ok (.iload_n 3, 1) := by decide +kernel
theorem dX7_defects_34 : decode cX7_defects 34 = .ok (.iload_n 2, 1) := by decide +kernel
theorem dX7_defects_35 : decode cX7_defects 35 = .ok (.invokevirtual 167, 3) := by decide +kernel
theorem dX7_defects_38 : decode cX7_defects 38 = .ok (.ifCond .eq 7, 3) := by decide +kernel
theorem dX7_defects_41 : decode cX7_defects 41 = .ok (.iconst 1, 1) := by decide +kernel
theorem dX7_defects_42 : decode cX7_defects 42 = .ok (.goto 4, 3) := by decide +kernel
theorem dX7_defects_45 : decode cX7_defects 45 = .ok (.iconst 0, 1) := by decide +kernel
theorem dX7_defects_46 : decode cX7_defects 46 = .ok (.iadd, 1) := by decide +kernel
theorem dX7_defects_47 : decode cX7_defects 47 = .ok (.istore_n 1, 1) := by decide +kernel
theorem dX7_defects_48 : decode cX7_defects 48 = .ok (.iinc 3 1, 3) := by decide +kernel
theorem dX7_defects_51 : decode cX7_defects 51 = .ok (.goto (-30), 3) := by decide +kernel
theorem dX7_defects_54 : decode cX7_defects 54 = .ok (.iinc 2 1, 3) := by decide +kernel
theorem dX7_defects_57 : decode cX7_defects 57 = .ok (.goto (-48), 3) := by decide +kernel
theorem dX7_defects_60 : decode cX7_defects 60 = .ok (.iload_n 1, 1) := by decide +kernel
theorem dX7_defects_61 : decode cX7_defects 61 = .ok (.ireturn, 1) := by decide +kernel
theorem dX7_defect_0 : decode cX7_defect 0 = .ok (.aload_n 0, 1) := by decide +kernel
theorem dX7_defect_1 : decode cX7_defect 1 = .ok (.iconst 0, 1) := by decide +kernel
theorem dX7_defect_2 : decode cX7_defect 2 = .ok (.putfield 89, 3) := by decide +kernel
theorem dX7_defect_5 : decode cX7_defect 5 = .ok (.iload_n 1, 1) := by decide +kernel
theorem dX7_defect_6 : decode cX7_defect 6 = .ok (.istore_n 3, 1) := by decide +kernel
theorem dX7_defect_7 : decode cX7_defect 7 = .ok (.iconst (-1), 1) := by decide +kernel
theorem dX7_defect_8 : decode cX7_defect 8 = .ok (.istore 4, 2) := by decide +kernel
theorem dX7_defect_10 : decode cX7_defect 10 = .ok (.iconst (-1), 1) := by decide +kernel
theorem dX7_defect_11 : decode cX7_defect 11 = .ok (.istore 5, 2) := by decide +kernel
theorem dX7_defect_13 : decode cX7_defect 13 = .ok (.iconst 0, 1) := by decide +kernel
theorem dX7_defect_14 : decode cX7_defect 14 = .ok (.istore 6, 2) := by decide +kernel
theorem dX7_defect_16 : decode cX7_defect 16 = .ok (.iload 6, 2) := by decide +kernel
theorem dX7_defect_18 : decode cX7_defect 18 = .ok (.aload_n 0, 1) := by decide +kernel
theorem dX7_defect_19 : decode cX7_defect 19 = .ok (.getfield 13, 3) := by decide +kernel
theorem dX7_defect_22 : decode cX7_defect 22 = .ok (.iconst 1, 1) := by decide +kernel
theorem dX7_defect_23 : decode cX7_defect 23 = .ok (.isub, 1) := by decide +kernel
theorem dX7_defect_24 : decode cX7_defect 24 = .ok (.if_icmp .ge 77, 3) := by decide +kernel
theorem dX7_defect_27 : decode cX7_defect 27 = .ok (.iload_n 3, 1) := by decide +kernel
theorem dX7_defect_28 : decode cX7_defect 28 = .ok (.ifCond .lt 73, 3) := by decide +kernel
theorem dX7_defect_31 : decode cX7_defect 31 = .ok (.iconst 0, 1) := by decide +kernel
theorem dX7_defect_32 : decode cX7_defect 32 = .ok (.istore 7, 2) := by decide +kernel
theorem dX7_defect_34 : decode cX7_defect 34 = .ok (.iload 7, 2) := by decide +kernel
theorem dX7_defect_36 : decode cX7_defect 36 = .ok (.aload_n 0, 1) := by decide +kernel
theorem dX7_defect_37 : decode cX7_defect 37 = .ok (.getfield 7, 3) := by decide +kernel
theorem dX7_defect_40 : decode cX7_defect 40 = .ok (.iconst 1, 1) := by decide +kernel
theorem dX7_defect_41 : decode cX7_defect 41 = .ok (.isub, 1) := by decide +kernel
theorem dX7_defect_42 : decode cX7_defect 42 = .ok (.if_icmp .ge 53, 3) := by decide +kernel
theorem dX7_defect_45 : decode cX7_defect 45 = .ok (.iload_n 3, 1) := by decide +kernel
theorem dX7_defect_46 : decode cX7_defect 46 = .ok (.ifCond .lt 49, 3) := by decide +kernel
theorem dX7_defect_49 : decode cX7_defect 49 = .ok (.aload_n 0, 1) := by decide +kernel
theorem dX7_defect_50 : decode cX7_defect 50 = .ok (.iload 7, 2) := by decide +kernel
theorem dX7_defect_52 : decode cX7_defect 52 = .ok (.iload 6, 2) := by decide +kernel
theorem dX7_defect_54 : decode cX7_defect 54 = .ok (.invokevirtual 167, 3) := by decide +kernel
theorem dX7_defect_57 : decode cX7_defect 57 = .ok (.ifCond .eq 32, 3) := by decide +kernel
theorem dX7_defect_60 : decode cX7_defect 60 = .ok (.iload_n 3, 1) := by decide +kernel
theorem dX7_defect_61 : decode cX7_defect 61 = .ok (.ifCond .ne 8, 3) := by decide +kernel
theorem dX7_defect_64 : decode cX7_defect 64 = .ok (.iload 7, 2) := by decide +kernel
theorem dX7_defect_66 : decode cX7_defect 66 = .ok (.goto 5, 3) := by decide +kernel
theorem dX7_defect_69 : decode cX7_defect 69 = .ok (.iload 4, 2) := by decide +kernel
theorem dX7_defect_71 : decode cX7_defect 71 = .ok (.istore 4, 2) := by decide +kernel
theorem dX7_defect_73 : decode cX7_defect 73 = .ok (.iload_n 3, 1) := by decide +kernel
theorem dX7_defect_74 : decode cX7_defect 74 = .ok (.ifCond .ne 8, 3) := by decide +kernel
theorem dX7_defect_77 : decode cX7_defect 77 = .ok (.iload 6, 2) := by decide +kernel
theorem dX7_defect_79 : decode cX7_defect 79 = .ok (.goto 5, 3) := by decide +kernel
theorem dX7_defect_82 : decode cX7_defect 82 = .ok (.iload 5, 2) := by decide +kernel
theorem dX7_defect_84 : decode cX7_defect 84 = .ok (.istore 5, 2) := by decide +kernel
theorem dX7_defect_86 : decode cX7_defect 86 = .ok (.iinc 3 (-1), 3) := by decide +kernel
theorem dX7_defect_89 : decode cX7_defect 89 = .ok (.iinc 7 1, 3) := by decide +kernel
theorem dX7_defect_92 : decode cX7_defect 92 = .ok (.goto (-58), 3) := by decide +kernel
theorem dX7_defect_95 : decode cX7_defect 95 = .ok (.iinc 6 1, 3) := by decide +kernel
theorem dX7_defect_98 : decode cX7_defect 98 = .ok (.goto (-82), 3) := by decide +kernel
theorem dX7_defect_101 : decode cX7_defect 101 = .ok (.iload 4, 2) := by decide +kernel
theorem dX7_defect_103 : decode cX7_defect 103 = .ok (.iconst (-1), 1) := by decide +kernel
theorem dX7_defect_104 : decode cX7_defect 104 = .ok (.if_icmp .ne 9, 3) := by decide +kernel
theorem dX7_defect_107 : decode cX7_defect 107 = .ok (.aload_n 0, 1) := by decide +kernel
theorem dX7_defect_108 : decode cX7_defect 108 = .ok (.iconst 1, 1) := by decide +kernel
theorem dX7_defect_109 : decode cX7_defect 109 = .ok (.invokevirtual 122, 3) := by decide +kernel
theorem dX7_defect_112 : decode cX7_defect 112 = .ok (.ireturn, 1) := by decide +kernel
theorem dX7_defect_113 : decode cX7_defect 113 = .ok (.iload_n 2, 1) := by decide +kernel
theorem dX7_defect_114 : decode cX7_defect 114 = .ok (.iconst 0, 1) := by decide +kernel
theorem dX7_defect_115 : decode cX7_defect 115 = .ok (.iconst 2, 1) := by decide +kernel
theorem dX7_defect_116 : decode cX7_defect 116 = .ok (.invokestatic 92, 3) := by decide +kernel
theorem dX7_defect_119 : decode cX7_defect 119 = .ok (.ifCond .ne 9, 3) := by decide +kernel
theorem dX7_defect_122 : decode cX7_defect 122 = .ok (.aload_n 0, 1) := by decide +kernel
theorem dX7_defect_123 : decode cX7_defect 123 = .ok (.iconst 2, 1) := by decide +kernel
theorem dX7_defect_124 : decode cX7_defect 124 = .ok (.invokevirtual 122, 3) := by decide +kernel
theorem dX7_defect_127 : decode cX7_defect 127 = .ok (.ireturn, 1) := by decide +kernel
theorem dX7_defect_128 : decode cX7_defect 128 = .ok (.iload_n 2, 1) := by decide +kernel
theorem dX7_defect_129 : decode cX7_defect 129 = .ok (.ifCond .ne 8, 3) := by decide +kernel
theorem dX7_defect_132 : decode cX7_defect 132 = .ok (.iload 4, 2) := by decide +kernel
theorem dX7_defect_134 : decode cX7_defect 134 = .ok (.goto 21, 3) := by decide +kernel
theorem dX7_defect_137 : decode cX7_defect 137 = .ok (.iload_n 2, 1) := by decide +kernel
theorem dX7_defect_138 : decode cX7_defect 138 = .ok (.iconst 1, 1) := by decide +kernel
theorem dX7_defect_139 : decode cX7_defect 139 = .ok (.if_icmp .ne 8, 3) := by decide +kernel
theorem dX7_defect_142 : decode cX7_defect 142 = .ok (.iload 5, 2) := by decide +kernel
theorem dX7_defect_144 : decode cX7_defect 144 = .ok (.goto 11, 3) := by decide +kernel
theorem dX7_defect_147 : decode cX7_defect 147 = .ok (.aload_n 0, 1) := by decide +kernel
theorem dX7_defect_148 : decode cX7_defect 148 = .ok (.iload 4, 2) := by decide +kernel
theorem dX7_defect_150 : decode cX7_defect 150 = .ok (.iload 5, 2) := by decide +kernel
theorem dX7_defect_152 : decode cX7_defect 152 = .ok (.invokevirtual 167, 3) := by decide +kernel
theorem dX7_defect_155 : decode cX7_defect 155 = .ok (.ireturn, 1) := by decide +kernel
theorem dX7_flickers_0 : decode cX7_flickers 0 = .ok (.aload_n 0, 1) := by decide +kernel
theorem dX7_flickers_1 : decode cX7_flickers 1 = .ok (.getfield 47, 3) := by decide +kernel
theorem dX7_flickers_4 : decode cX7_flickers 4 = .ok (.iload_n 1, 1) := by decide +kernel
theorem dX7_flickers_5 : decode cX7_flickers 5 = .ok (.iaload, 1) := by decide +kernel
theorem dX7_flickers_6 : decode cX7_flickers 6 = .ok (.bipush 8, 2) := by decide +kernel
theorem dX7_flickers_8 : decode cX7_flickers 8 = .ok (.if_icmp .ge 12, 3) := by decide +kernel
theorem dX7_flickers_11 : decode cX7_flickers 11 = .ok (.aload_n 0, 1) := by decide +kernel
theorem dX7_flickers_12 : decode cX7_flickers 12 = .ok (.getfield 47, 3) := by decide +kernel
theorem dX7_flickers_15 : decode cX7_flickers 15 = .ok (.iload_n 1, 1) := by decide +kernel
theorem dX7_flickers_16 : decode cX7_flickers 16 = .ok (.iaload, 1) := by decide +kernel
theorem dX7_flickers_17 : decode cX7_flickers 17 = .ok (.goto 5, 3) := by decide +kernel
theorem dX7_flickers_20 : decode cX7_flickers 20 = .ok (.bipush 8, 2) := by decide +kernel
theorem dX7_flickers_22 : decode cX7_flickers 22 = .ok (.istore_n 2, 1) := by decide +kernel
theorem dX7_flickers_23 : decode cX7_flickers 23 = .ok (.bipush 100, 2) := by decide +kernel
theorem dX7_flickers_25 : decode cX7_flickers 25 = .ok (.istore_n 3, 1) := by decide +kernel
theorem dX7_flickers_26 : decode cX7_flickers 26 = .ok (.iconst 0, 1) := by decide +kernel
theorem dX7_flickers_27 : decode cX7_flickers 27 = .ok (.istore 4, 2) := by decide +kernel
theorem dX7_flickers_29 : decode cX7_flickers 29 = .ok (.iconst 0, 1) := by decide +kernel
theorem dX7_flickers_30 : decode cX7_flickers 30 = .ok (.istore 5, 2) := by decide +kernel
theorem dX7_flickers_32 : decode cX7_flickers 32 = .ok (.iload 5, 2) := by decide +kernel
theorem dX7_flickers_34 : decode cX7_flickers 34 = .ok (.iload_n 2, 1) := by decide +kernel
theorem dX7_flickers_35 : decode cX7_flickers 35 = .ok (.if_icmp .ge 52, 3) := by decide +kernel
theorem dX7_flickers_38 : decode cX7_flickers 38 = .ok (.aload_n 0, 1) := by decide +kernel
theorem dX7_flickers_39 : decode cX7_flickers 39 = .ok (.getfield 44, 3) := by decide +kernel
theorem dX7_flickers_42 : decode cX7_flickers 42 = .ok (.bipush 8, 2) := by decide +kernel
theorem dX7_flickers_44 : decode cX7_flickers 44 = .ok (.iload_n 1, 1) := by decide +kernel
theorem dX7_flickers_45 : decode cX7_flickers 45 = .ok (.imul, 1) := by decide +kernel
theorem dX7_flickers_46 : decode cX7_flickers 46 = .ok (.iload 5, 2) := by decide +kernel
theorem dX7_flickers_48 : decode cX7_flickers 48 = .ok (.iadd, 1) := by decide +kernel
theorem dX7_flickers_49 : decode cX7_flickers 49 = .ok (.iaload, 1) := by decide +kernel
theorem dX7_flickers_50 : decode cX7_flickers 50 = .ok (.istore 6, 2) := by decide +kernel
theorem dX7_flickers_52 : decode cX7_flickers 52 = .ok (.iload 6, 2) := by decide +kernel
theorem dX7_flickers_54 : decode cX7_flickers 54 = .ok (.iload_n 3, 1) := by decide +kernel
theorem dX7_flickers_55 : decode cX7_flickers 55 = .ok (.if_icmp .ge 8, 3) := by decide +kernel
theorem dX7_flickers_58 : decode cX7_flickers 58 = .ok (.iload 6, 2) := by decide +kernel
theorem dX7_flickers_60 : decode cX7_flickers 60 = .ok (.goto 4, 3) := by decide +kernel
theorem dX7_flickers_63 : decode cX7_flickers 63 = .ok (.iload_n 3, 1) := by decide +kernel
theorem dX7_flickers_64 : decode cX7_flickers 64 = .ok (.istore_n 3, 1) := by decide +kernel
theorem dX7_flickers_65 : decode cX7_flickers 65 = .ok (.iload 6, 2) := by decide +kernel
theorem dX7_flickers_67 : decode cX7_flickers 67 = .ok (.iload 4, 2) := by decide +kernel
theorem dX7_flickers_69 : decode cX7_flickers 69 = .ok (.if_icmp .le 8, 3) := by decide +kernel
theorem dX7_flickers_72 : decode cX7_flickers 72 = .ok (.iload 6, 2) := by decide +kernel
theorem dX7_flickers_74 : decode cX7_flickers 74 = .ok (.goto 5, 3) := by decide +kernel
theorem dX7_flickers_77 : decode cX7_flickers 77 = .ok (.iload 4, 2) := by decide +kernel
theorem dX7_flickers_79 : decode cX7_flickers 79 = .ok (.istore 4, 2) := by decide +kernel
theorem dX7_flickers_81 : decode cX7_flickers 81 = .ok (.iinc 5 1, 3) := by decide +kernel
theorem dX7_flickers_84 : decode cX7_flickers 84 = .ok (.goto (-52), 3) := by decide +kernel
theorem dX7_flickers_87 : decode cX7_flickers 87 = .ok (.iload_n 2, 1) := by decide +kernel
theorem dX7_flickers_88 : decode cX7_flickers 88 = .ok (.ifCond .ne 7, 3) := by decide +kernel
theorem dX7_flickers_91 : decode cX7_flickers 91 = .ok (.iconst 0, 1) := by decide +kernel
theorem dX7_flickers_92 : decode cX7_flickers 92 = .ok (.goto 7, 3) := by decide +kernel
theorem dX7_flickers_95 : decode cX7_flickers 95 = .ok (.iload 4, 2) := by decide +kernel
theorem dX7_flickers_97 : decode cX7_flickers 97 = .ok (.iload_n 3, 1) := by decide +kernel
theorem dX7_flickers_98 : decode cX7_flickers 98 = .ok (.isub, 1) := by decide +kernel
theorem dX7_flickers_99 : decode cX7_flickers 99 = .ok (.ireturn, 1) := by decide +kernel
theorem dX7_isGood_0 : decode cX7_isGood 0 = .ok (.iconst 0, 1) := by decide +kernel
theorem dX7_isGood_1 : decode cX7_isGood 1 = .ok (.istore_n 2, 1) := by decide +kernel
theorem dX7_isGood_2 : decode cX7_isGood 2 = .ok (.iload_n 2, 1) := by decide +kernel
theorem dX7_isGood_3 : decode cX7_isGood 3 = .ok (.aload_n 0, 1) := by decide +kernel
theorem dX7_isGood_4 : decode cX7_isGood 4 = .ok (.getfield 13, 3) := by decide +kernel
theorem dX7_isGood_7 : decode cX7_isGood 7 = .ok (.iconst 1, 1) := by decide +kernel
theorem dX7_isGood_8 : decode cX7_isGood 8 = .ok (.isub, 1) := by decide +kernel
theorem dX7_isGood_9 : decode cX7_isGood 9 = .ok (.if_icmp .ge 114, 3) := by decide +kernel
theorem dX7_isGood_12 : decode cX7_isGood 12 = .ok (.iconst 0, 1) := by decide +kernel
theorem dX7_isGood_13 : decode cX7_isGood 13 = .ok (.istore_n 3, 1) := by decide +kernel
theorem dX7_isGood_14 : decode cX7_isGood 14 = .ok (.iload_n 3, 1) := by decide +kernel
theorem dX7_isGood_15 : decode cX7_isGood 15 = .ok (.aload_n 0, 1) := by decide +kernel
theorem dX7_isGood_16 : decode cX7_isGood 16 = .ok (.getfield 7, 3) := by decide +kernel
theorem dX7_isGood_19 : decode cX7_isGood 19 = .ok (.iconst 1, 1) := by decide +kernel
theorem dX7_isGood_20 : decode cX7_isGood 20 = .ok (.isub, 1) := by decide +kernel
theorem dX7_isGood_21 : decode cX7_isGood 21 = .ok (.if_icmp .ge 96, 3) := by decide +kernel
theorem dX7_isGood_24 : decode cX7_isGood 24 = .ok (.aload_n 0, 1) := by decide +kernel
theorem dX7_isGood_25 : decode cX7_isGood 25 = .ok (.getfield 35, 3) := by decide +kernel
theorem dX7_isGood_28 : decode cX7_isGood 28 = .ok (.iload_n 3, 1) := by decide +kernel
theorem dX7_isGood_29 : decode cX7_isGood 29 = .ok (.iload_n 2, 1) := by decide +kernel
theorem dX7_isGood_30 : decode cX7_isGood 30 = .ok (.invokestatic 100, 3) := by decide +kernel
theorem dX7_isGood_33 : decode cX7_isGood 33 = .ok (.iaload, 1) := by decide +kernel
theorem dX7_isGood_34 : decode cX7_isGood 34 = .ok (.iload_n 1, 1) := by decide +kernel
theorem dX7_isGood_35 : decode cX7_isGood 35 = .ok (.if_icmp .eq 53, 3) := by decide +kernel
theorem dX7_isGood_38 : decode cX7_isGood 38 = .ok (.aload_n 0, 1) := by decide +kernel
theorem dX7_isGood_39 : decode cX7_isGood 39 = .ok (.getfield 35, 3) := by decide +kernel
theorem dX7_isGood_42 : decode cX7_isGood 42 = .ok (.iload_n 3, 1) := by decide +kernel
theorem dX7_isGood_43 : decode cX7_isGood 43 = .ok (.iconst 1, 1) := by decide +kernel
theorem dX7_isGood_44 : decode cX7_isGood 44 = .ok (.iadd, 1) := by decide +kernel
theorem dX7_isGood_45 : decode cX7_isGood 45 = .ok (.iload_n 2, 1) := by decide +kernel
theorem dX7_isGood_46 : decode cX7_isGood 46 = .ok (.invokestatic 100, 3) := by decide +kernel
theorem dX7_isGood_49 : decode cX7_isGood 49 = .ok (.iaload, 1) := by decide +kernel
theorem dX7_isGood_50 : decode cX7_isGood 50 = .ok (.iload_n 1, 1) := by decide +kernel
theorem dX7_isGood_51 : decode cX7_isGood 51 = .ok (.if_icmp .eq 37, 3) := by decide +kernel
theorem dX7_isGood_54 : decode cX7_isGood 54 = .ok (.aload_n 0, 1) := by decide +kernel
theorem dX7_isGood_55 : decode cX7_isGood 55 = .ok (.getfield 35, 3) := by decide +kernel
theorem dX7_isGood_58 : decode cX7_isGood 58 = .ok (.iload_n 3, 1) := by decide +kernel
theorem dX7_isGood_59 : decode cX7_isGood 59 = .ok (.iload_n 2, 1) := by decide +kernel
theorem dX7_isGood_60 : decode cX7_isGood 60 = .ok (.iconst 1, 1) := by decide +kernel
theorem dX7_isGood_61 : decode cX7_isGood 61 = .ok (.iadd, 1) := by decide +kernel
theorem dX7_isGood_62 : decode cX7_isGood 62 = .ok (.invokestatic 100, 3) := by decide +kernel
theorem dX7_isGood_65 : decode cX7_isGood 65 = .ok (.iaload, 1) := by decide +kernel
theorem dX7_isGood_66 : decode cX7_isGood 66 = .ok (.iload_n 1, 1) := by decide +kernel
theorem dX7_isGood_67 : decode cX7_isGood 67 = .ok (.if_icmp .eq 21, 3) := by decide +kernel
theorem dX7_isGood_70 : decode cX7_isGood 70 = .ok (.aload_n 0, 1) := by decide +kernel
theorem dX7_isGood_71 : decode cX7_isGood 71 = .ok (.getfield 35, 3) := by decide +kernel
theorem dX7_isGood_74 : decode cX7_isGood 74 = .ok (.iload_n 3, 1) := by decide +kernel
theorem dX7_isGood_75 : decode cX7_isGood 75 = .ok (.iconst 1, 1) := by decide +kernel
theorem dX7_isGood_76 : decode cX7_isGood 76 = .ok (.iadd, 1) := by decide +kernel
theorem dX7_isGood_77 : decode cX7_isGood 77 = .ok (.iload_n 2, 1) := by decide +kernel
theorem dX7_isGood_78 : decode cX7_isGood 78 = .ok (.iconst 1, 1) := by decide +kernel
theorem dX7_isGood_79 : decode cX7_isGood 79 = .ok (.iadd, 1) := by decide +kernel
theorem dX7_isGood_80 : decode cX7_isGood 80 = .ok (.invokestatic 100, 3) := by decide +kernel
theorem dX7_isGood_83 : decode cX7_isGood 83 = .ok (.iaload, 1) := by decide +kernel
theorem dX7_isGood_84 : decode cX7_isGood 84 = .ok (.iload_n 1, 1) := by decide +kernel
theorem dX7_isGood_85 : decode cX7_isGood 85 = .ok (.if_icmp .ne 7, 3) := by decide +kernel
theorem dX7_isGood_88 : decode cX7_isGood 88 = .ok (.iconst 1, 1) := by decide +kernel
theorem dX7_isGood_89 : decode cX7_isGood 89 = .ok (.goto 4, 3) := by decide +kernel
theorem dX7_isGood_92 : decode cX7_isGood 92 = .ok (.iconst 0, 1) := by decide +kernel
theorem dX7_isGood_93 : decode cX7_isGood 93 = .ok (.istore 4, 2) := by decide +kernel
theorem dX7_isGood_95 : decode cX7_isGood 95 = .ok (.iload 4, 2) := by decide +kernel
theorem dX7_isGood_97 : decode cX7_isGood 97 = .ok (.ifCond .eq 14, 3) := by decide +kernel
theorem dX7_isGood_100 : decode cX7_isGood 100 = .ok (.aload_n 0, 1) := by decide +kernel
theorem dX7_isGood_101 : decode cX7_isGood 101 = .ok (.iload_n 3, 1) := by decide +kernel
theorem dX7_isGood_102 : decode cX7_isGood 102 = .ok (.iload_n 2, 1) := by decide +kernel
theorem dX7_isGood_103 : decode cX7_isGood 103 = .ok (.invokevirtual 167, 3) := by decide +kernel
theorem dX7_isGood_106 : decode cX7_isGood 106 = .ok (.ifCond .eq 5, 3) := by decide +kernel
theorem dX7_isGood_109 : decode cX7_isGood 109 = .ok (.iconst 0, 1) := by decide +kernel
theorem dX7_isGood_110 : decode cX7_isGood 110 = .ok (.ireturn, 1) := by decide +kernel
theorem dX7_isGood_111 : decode cX7_isGood 111 = .ok (.iinc 3 1, 3) := by decide +kernel
theorem dX7_isGood_114 : decode cX7_isGood 114 = .ok (.goto (-100), 3) := by decide +kernel
theorem dX7_isGood_117 : decode cX7_isGood 117 = .ok (.iinc 2 1, 3) := by decide +kernel
theorem dX7_isGood_120 : decode cX7_isGood 120 = .ok (.goto (-118), 3) := by decide +kernel
theorem dX7_isGood_123 : decode cX7_isGood 123 = .ok (.iconst 1, 1) := by decide +kernel
theorem dX7_isGood_124 : decode cX7_isGood 124 = .ok (.ireturn, 1) := by decide +kernel
theorem dX7_ofPixel_0 : decode cX7_ofPixel 0 = .ok (.aload_n 0, 1) := by decide +kernel
theorem dX7_ofPixel_1 : decode cX7_ofPixel 1 = .ok (.iconst 0, 1) := by decide +kernel
theorem dX7_ofPixel_2 : decode cX7_ofPixel 2 = .ok (.putfield 89, 3) := by decide +kernel
theorem dX7_ofPixel_5 : decode cX7_ofPixel 5 = .ok (.aload_n 0, 1) := by decide +kernel
theorem dX7_ofPixel_6 : decode cX7_ofPixel 6 = .ok (.iload_n 1, 1) := by decide +kernel
theorem dX7_ofPixel_7 : decode cX7_ofPixel 7 = .ok (.invokevirtual 133, 3) := by decide +kernel
theorem dX7_ofPixel_10 : decode cX7_ofPixel 10 = .ok (.ifCond .ne 9, 3) := by decide +kernel
theorem dX7_ofPixel_13 : decode cX7_ofPixel 13 = .ok (.aload_n 0, 1) := by decide +kernel
theorem dX7_ofPixel_14 : decode cX7_ofPixel 14 = .ok (.iconst 1, 1) := by decide +kernel
theorem dX7_ofPixel_15 : decode cX7_ofPixel 15 = .ok (.invokevirtual 122, 3) := by decide +kernel
theorem dX7_ofPixel_18 : decode cX7_ofPixel 18 = .ok (.ireturn, 1) := by decide +kernel
theorem dX7_ofPixel_19 : decode cX7_ofPixel 19 = .ok (.iload_n 2, 1) := by decide +kernel
theorem dX7_ofPixel_20 : decode cX7_ofPixel 20 = .ok (.iconst 0, 1) := by decide +kernel
theorem dX7_ofPixel_21 : decode cX7_ofPixel 21 = .ok (.iconst 4, 1) := by decide +kernel
theorem dX7_ofPixel_22 : decode cX7_ofPixel 22 = .ok (.invokestatic 92, 3) := by decide +kernel
theorem dX7_ofPixel_25 : decode cX7_ofPixel 25 = .ok (.ifCond .ne 9, 3) := by decide +kernel
theorem dX7_ofPixel_28 : decode cX7_ofPixel 28 = .ok (.aload_n 0, 1) := by decide +kernel
theorem dX7_ofPixel_29 : decode cX7_ofPixel 29 = .ok (.iconst 2, 1) := by decide +kernel
theorem dX7_ofPixel_30 : decode cX7_ofPixel 30 = .ok (.invokevirtual 122, 3) := by decide +kernel
theorem dX7_ofPixel_33 : decode cX7_ofPixel 33 = .ok (.ireturn, 1) := by decide +kernel
theorem dX7_ofPixel_34 : decode cX7_ofPixel 34 = .ok (.iload_n 2, 1) := by decide +kernel
theorem dX7_ofPixel_35 : decode cX7_ofPixel 35 = .ok (.tableswitch 62 0 3 #[29, 35, 41, 55], 29) := by decide +kernel
theorem dX7_ofPixel_64 : decode cX7_ofPixel 64 = .ok (.aload_n 0, 1) := by decide +kernel
theorem dX7_ofPixel_65 : decode cX7_ofPixel 65 = .ok (.iload_n 1, 1) := by decide +kernel
theorem dX7_ofPixel_66 : decode cX7_ofPixel 66 = .ok (.invokevirtual 160, 3) := by decide +kernel
theorem dX7_ofPixel_69 : decode cX7_ofPixel 69 = .ok (.ireturn, 1) := by decide +kernel
theorem dX7_ofPixel_70 : decode cX7_ofPixel 70 = .ok (.aload_n 0, 1) := by decide +kernel
theorem dX7_ofPixel_71 : decode cX7_ofPixel 71 = .ok (.iload_n 1, 1) := by decide +kernel
theorem dX7_ofPixel_72 : decode cX7_ofPixel 72 = .ok (.invokevirtual 174, 3) := by decide +kernel
theorem dX7_ofPixel_75 : decode cX7_ofPixel 75 = .ok (.ireturn, 1) := by decide +kernel
theorem dX7_ofPixel_76 : decode cX7_ofPixel 76 = .ok (.aload_n 0, 1) := by decide +kernel
theorem dX7_ofPixel_77 : decode cX7_ofPixel 77 = .ok (.iload_n 1, 1) := by decide +kernel
theorem dX7_ofPixel_78 : decode cX7_ofPixel 78 = .ok (.invokevirtual 177, 3) := by decide +kernel
theorem dX7_ofPixel_81 : decode cX7_ofPixel 81 = .ok (.ifCond .eq 7, 3) := by decide +kernel
theorem dX7_ofPixel_84 : decode cX7_ofPixel 84 = .ok (.iconst 1, 1) := by decide +kernel
theorem dX7_ofPixel_85 : decode cX7_ofPixel 85 = .ok (.goto 4, 3) := by decide +kernel
theorem dX7_ofPixel_88 : decode cX7_ofPixel 88 = .ok (.iconst 0, 1) := by decide +kernel
theorem dX7_ofPixel_89 : decode cX7_ofPixel 89 = .ok (.ireturn, 1) := by decide +kernel
theorem dX7_ofPixel_90 : decode cX7_ofPixel 90 = .ok (.aload_n 0, 1) := by decide +kernel
theorem dX7_ofPixel_91 : decode cX7_ofPixel 91 = .ok (.getfield 38, 3) := by decide +kernel
theorem dX7_ofPixel_94 : decode cX7_ofPixel 94 = .ok (.iload_n 1, 1) := by decide +kernel
theorem dX7_ofPixel_95 : decode cX7_ofPixel 95 = .ok (.iaload, 1) := by decide +kernel
theorem dX7_ofPixel_96 : decode cX7_ofPixel 96 = .ok (.ireturn, 1) := by decide +kernel
theorem dX7_ofPixel_97 : decode cX7_ofPixel 97 = .ok (.aload_n 0, 1) := by decide +kernel
theorem dX7_ofPixel_98 : decode cX7_ofPixel 98 = .ok (.getfield 41, 3) := by decide +kernel
theorem dX7_ofPixel_101 : decode cX7_ofPixel 101 = .ok (.iload_n 1, 1) := by decide +kernel
theorem dX7_ofPixel_102 : decode cX7_ofPixel 102 = .ok (.iaload, 1) := by decide +kernel
theorem dX7_ofPixel_103 : decode cX7_ofPixel 103 = .ok (.ireturn, 1) := by decide +kernel
theorem dX7_pictured_0 : decode cX7_pictured 0 = .ok (.aload_n 0, 1) := by decide +kernel
theorem dX7_pictured_1 : decode cX7_pictured 1 = .ok (.iconst 0, 1) := by decide +kernel
theorem dX7_pictured_2 : decode cX7_pictured 2 = .ok (.putfield 89, 3) := by decide +kernel
theorem dX7_pictured_5 : decode cX7_pictured 5 = .ok (.iload_n 1, 1) := by decide +kernel
theorem dX7_pictured_6 : decode cX7_pictured 6 = .ok (.iconst 0, 1) := by decide +kernel
theorem dX7_pictured_7 : decode cX7_pictured 7 = .ok (.aload_n 0, 1) := by decide +kernel
theorem dX7_pictured_8 : decode cX7_pictured 8 = .ok (.getfield 77, 3) := by decide +kernel
theorem dX7_pictured_11 : decode cX7_pictured 11 = .ok (.iconst 1, 1) := by decide +kernel
theorem dX7_pictured_12 : decode cX7_pictured 12 = .ok (.isub, 1) := by decide +kernel
theorem dX7_pictured_13 : decode cX7_pictured 13 = .ok (.invokestatic 92, 3) := by decide +kernel
theorem dX7_pictured_16 : decode cX7_pictured 16 = .ok (.ifCond .eq 12, 3) := by decide +kernel
theorem dX7_pictured_19 : decode cX7_pictured 19 = .ok (.aload_n 0, 1) := by decide +kernel
theorem dX7_pictured_20 : decode cX7_pictured 20 = .ok (.iload_n 2, 1) := by decide +kernel
theorem dX7_pictured_21 : decode cX7_pictured 21 = .ok (.iload_n 3, 1) := by decide +kernel
theorem dX7_pictured_22 : decode cX7_pictured 22 = .ok (.invokevirtual 106, 3) := by decide +kernel
theorem dX7_pictured_25 : decode cX7_pictured 25 = .ok (.ifCond .ne 9, 3) := by decide +kernel
theorem dX7_pictured_28 : decode cX7_pictured 28 = .ok (.aload_n 0, 1) := by decide +kernel
theorem dX7_pictured_29 : decode cX7_pictured 29 = .ok (.iconst 1, 1) := by decide +kernel
theorem dX7_pictured_30 : decode cX7_pictured 30 = .ok (.invokevirtual 122, 3) := by decide +kernel
theorem dX7_pictured_33 : decode cX7_pictured 33 = .ok (.ireturn, 1) := by decide +kernel
theorem dX7_pictured_34 : decode cX7_pictured 34 = .ok (.aload_n 0, 1) := by decide +kernel
theorem dX7_pictured_35 : decode cX7_pictured 35 = .ok (.getfield 65, 3) := by decide +kernel
theorem dX7_pictured_38 : decode cX7_pictured 38 = .ok (.sipush 144, 3) := by decide +kernel
theorem dX7_pictured_41 : decode cX7_pictured 41 = .ok (.iload_n 1, 1) := by decide +kernel
theorem dX7_pictured_42 : decode cX7_pictured 42 = .ok (.imul, 1) := by decide +kernel
theorem dX7_pictured_43 : decode cX7_pictured 43 = .ok (.iload_n 2, 1) := by decide +kernel
theorem dX7_pictured_44 : decode cX7_pictured 44 = .ok (.iload_n 3, 1) := by decide +kernel
theorem dX7_pictured_45 : decode cX7_pictured 45 = .ok (.invokestatic 100, 3) := by decide +kernel
theorem dX7_pictured_48 : decode cX7_pictured 48 = .ok (.iadd, 1) := by decide +kernel
theorem dX7_pictured_49 : decode cX7_pictured 49 = .ok (.iaload, 1) := by decide +kernel
theorem dX7_pictured_50 : decode cX7_pictured 50 = .ok (.ireturn, 1) := by decide +kernel
theorem dX7_ghosts_0 : decode cX7_ghosts 0 = .ok (.aload_n 0, 1) := by decide +kernel
theorem dX7_ghosts_1 : decode cX7_ghosts 1 = .ok (.iconst 0, 1) := by decide +kernel
theorem dX7_ghosts_2 : decode cX7_ghosts 2 = .ok (.putfield 89, 3) := by decide +kernel
theorem dX7_ghosts_5 : decode cX7_ghosts 5 = .ok (.iload_n 1, 1) := by decide +kernel
theorem dX7_ghosts_6 : decode cX7_ghosts 6 = .ok (.iconst 0, 1) := by decide +kernel
theorem dX7_ghosts_7 : decode cX7_ghosts 7 = .ok (.aload_n 0, 1) := by decide +kernel
theorem dX7_ghosts_8 : decode cX7_ghosts 8 = .ok (.getfield 77, 3) := by decide +kernel
theorem dX7_ghosts_11 : decode cX7_ghosts 11 = .ok (.iconst 1, 1) := by decide +kernel
theorem dX7_ghosts_12 : decode cX7_ghosts 12 = .ok (.isub, 1) := by decide +kernel
theorem dX7_ghosts_13 : decode cX7_ghosts 13 = .ok (.invokestatic 92, 3) := by decide +kernel
theorem dX7_ghosts_16 : decode cX7_ghosts 16 = .ok (.ifCond .ne 9, 3) := by decide +kernel
theorem dX7_ghosts_19 : decode cX7_ghosts 19 = .ok (.aload_n 0, 1) := by decide +kernel
theorem dX7_ghosts_20 : decode cX7_ghosts 20 = .ok (.iconst 1, 1) := by decide +kernel
theorem dX7_ghosts_21 : decode cX7_ghosts 21 = .ok (.invokevirtual 122, 3) := by decide +kernel
theorem dX7_ghosts_24 : decode cX7_ghosts 24 = .ok (.ireturn, 1) := by decide +kernel
theorem dX7_ghosts_25 : decode cX7_ghosts 25 = .ok (.iconst 0, 1) := by decide +kernel
theorem dX7_ghosts_26 : decode cX7_ghosts 26 = .ok (.istore_n 2, 1) := by decide +kernel
theorem dX7_ghosts_27 : decode cX7_ghosts 27 = .ok (.iconst 0, 1) := by decide +kernel
theorem dX7_ghosts_28 : decode cX7_ghosts 28 = .ok (.istore_n 3, 1) := by decide +kernel
theorem dX7_ghosts_29 : decode cX7_ghosts 29 = .ok (.iload_n 3, 1) := by decide +kernel
theorem dX7_ghosts_30 : decode cX7_ghosts 30 = .ok (.aload_n 0, 1) := by decide +kernel
theorem dX7_ghosts_31 : decode cX7_ghosts 31 = .ok (.getfield 13, 3) := by decide +kernel
theorem dX7_ghosts_34 : decode cX7_ghosts 34 = .ok (.if_icmp .ge 68, 3) := by decide +kernel
theorem dX7_ghosts_37 : decode cX7_ghosts 37 = .ok (.iconst 0, 1) := by decide +kernel
theorem dX7_ghosts_38 : decode cX7_ghosts 38 = .ok (.istore 4, 2) := by decide +kernel
theorem dX7_ghosts_40 : decode cX7_ghosts 40 = .ok (.iload 4, 2) := by decide +kernel
theorem dX7_ghosts_42 : decode cX7_ghosts 42 = .ok (.aload_n 0, 1) := by decide +kernel
theorem dX7_ghosts_43 : decode cX7_ghosts 43 = .ok (.getfield 7, 3) := by decide +kernel
theorem dX7_ghosts_46 : decode cX7_ghosts 46 = .ok (.if_icmp .ge 50, 3) := by decide +kernel
theorem dX7_ghosts_49 : decode cX7_ghosts 49 = .ok (.iload_n 2, 1) := by decide +kernel
theorem dX7_ghosts_50 : decode cX7_ghosts 50 = .ok (.aload_n 0, 1) := by decide +kernel
theorem dX7_ghosts_51 : decode cX7_ghosts 51 = .ok (.iload 4, 2) := by decide +kernel
theorem dX7_ghosts_53 : decode cX7_ghosts 53 = .ok (.iload_n 3, 1) := by decide +kernel
theorem dX7_ghosts_54 : decode cX7_ghosts 54 = .ok (.aload_n 0, 1) := by decide +kernel
theorem dX7_ghosts_55 : decode cX7_ghosts 55 = .ok (.getfield 62, 3) := by decide +kernel
theorem dX7_ghosts_58 : decode cX7_ghosts 58 = .ok (.iload_n 1, 1) := by decide +kernel
theorem dX7_ghosts_59 : decode cX7_ghosts 59 = .ok (.iaload, 1) := by decide +kernel
theorem dX7_ghosts_60 : decode cX7_ghosts 60 = .ok (.invokevirtual 151, 3) := by decide +kernel
theorem dX7_ghosts_63 : decode cX7_ghosts 63 = .ok (.aload_n 0, 1) := by decide +kernel
theorem dX7_ghosts_64 : decode cX7_ghosts 64 = .ok (.getfield 65, 3) := by decide +kernel
theorem dX7_ghosts_67 : decode cX7_ghosts 67 = .ok (.sipush 144, 3) := by decide +kernel
theorem dX7_ghosts_70 : decode cX7_ghosts 70 = .ok (.iload_n 1, 1) := by decide +kernel
theorem dX7_ghosts_71 : decode cX7_ghosts 71 = .ok (.imul, 1) := by decide +kernel
theorem dX7_ghosts_72 : decode cX7_ghosts 72 = .ok (.iload 4, 2) := by decide +kernel
theorem dX7_ghosts_74 : decode cX7_ghosts 74 = .ok (.iload_n 3, 1) := by decide +kernel
theorem dX7_ghosts_75 : decode cX7_ghosts 75 = .ok (.invokestatic 100, 3) := by decide +kernel
theorem dX7_ghosts_78 : decode cX7_ghosts 78 = .ok (.iadd, 1) := by decide +kernel
theorem dX7_ghosts_79 : decode cX7_ghosts 79 = .ok (.iaload, 1) := by decide +kernel
theorem dX7_ghosts_80 : decode cX7_ghosts 80 = .ok (.if_icmp .eq 7, 3) := by decide +kernel
theorem dX7_ghosts_83 : decode cX7_ghosts 83 = .ok (.iconst 1, 1) := by decide +kernel
theorem dX7_ghosts_84 : decode cX7_ghosts 84 = .ok (.goto 4, 3) := by decide +kernel
theorem dX7_ghosts_87 : decode cX7_ghosts 87 = .ok (.iconst 0, 1) := by decide +kernel
theorem dX7_ghosts_88 : decode cX7_ghosts 88 = .ok (.iadd, 1) := by decide +kernel
theorem dX7_ghosts_89 : decode cX7_ghosts 89 = .ok (.istore_n 2, 1) := by decide +kernel
theorem dX7_ghosts_90 : decode cX7_ghosts 90 = .ok (.iinc 4 1, 3) := by decide +kernel
theorem dX7_ghosts_93 : decode cX7_ghosts 93 = .ok (.goto (-53), 3) := by decide +kernel
theorem dX7_ghosts_96 : decode cX7_ghosts 96 = .ok (.iinc 3 1, 3) := by decide +kernel
theorem dX7_ghosts_99 : decode cX7_ghosts 99 = .ok (.goto (-70), 3) := by decide +kernel
theorem dX7_ghosts_102 : decode cX7_ghosts 102 = .ok (.iload_n 2, 1) := by decide +kernel
theorem dX7_ghosts_103 : decode cX7_ghosts 103 = .ok (.ireturn, 1) := by decide +kernel
theorem dX7_guesses_0 : decode cX7_guesses 0 = .ok (.aload_n 0, 1) := by decide +kernel
theorem dX7_guesses_1 : decode cX7_guesses 1 = .ok (.iconst 0, 1) := by decide +kernel
theorem dX7_guesses_2 : decode cX7_guesses 2 = .ok (.putfield 89, 3) := by decide +kernel
theorem dX7_guesses_5 : decode cX7_guesses 5 = .ok (.iload_n 1, 1) := by decide +kernel
theorem dX7_guesses_6 : decode cX7_guesses 6 = .ok (.iconst 0, 1) := by decide +kernel
theorem dX7_guesses_7 : decode cX7_guesses 7 = .ok (.aload_n 0, 1) := by decide +kernel
theorem dX7_guesses_8 : decode cX7_guesses 8 = .ok (.getfield 77, 3) := by decide +kernel
theorem dX7_guesses_11 : decode cX7_guesses 11 = .ok (.iconst 1, 1) := by decide +kernel
theorem dX7_guesses_12 : decode cX7_guesses 12 = .ok (.isub, 1) := by decide +kernel
theorem dX7_guesses_13 : decode cX7_guesses 13 = .ok (.invokestatic 92, 3) := by decide +kernel
theorem dX7_guesses_16 : decode cX7_guesses 16 = .ok (.ifCond .eq 12, 3) := by decide +kernel
theorem dX7_guesses_19 : decode cX7_guesses 19 = .ok (.aload_n 0, 1) := by decide +kernel
theorem dX7_guesses_20 : decode cX7_guesses 20 = .ok (.iload_n 2, 1) := by decide +kernel
theorem dX7_guesses_21 : decode cX7_guesses 21 = .ok (.iload_n 3, 1) := by decide +kernel
theorem dX7_guesses_22 : decode cX7_guesses 22 = .ok (.invokevirtual 106, 3) := by decide +kernel
theorem dX7_guesses_25 : decode cX7_guesses 25 = .ok (.ifCond .ne 9, 3) := by decide +kernel
theorem dX7_guesses_28 : decode cX7_guesses 28 = .ok (.aload_n 0, 1) := by decide +kernel
theorem dX7_guesses_29 : decode cX7_guesses 29 = .ok (.iconst 1, 1) := by decide +kernel
theorem dX7_guesses_30 : decode cX7_guesses 30 = .ok (.invokevirtual 122, 3) := by decide +kernel
theorem dX7_guesses_33 : decode cX7_guesses 33 = .ok (.ireturn, 1) := by decide +kernel
theorem dX7_guesses_34 : decode cX7_guesses 34 = .ok (.iconst 0, 1) := by decide +kernel
theorem dX7_guesses_35 : decode cX7_guesses 35 = .ok (.istore 4, 2) := by decide +kernel
theorem dX7_guesses_37 : decode cX7_guesses 37 = .ok (.iconst 0, 1) := by decide +kernel
theorem dX7_guesses_38 : decode cX7_guesses 38 = .ok (.istore 5, 2) := by decide +kernel
theorem dX7_guesses_40 : decode cX7_guesses 40 = .ok (.iload 5, 2) := by decide +kernel
theorem dX7_guesses_42 : decode cX7_guesses 42 = .ok (.bipush 15, 2) := by decide +kernel
theorem dX7_guesses_44 : decode cX7_guesses 44 = .ok (.if_icmp .ge 52, 3) := by decide +kernel
theorem dX7_guesses_47 : decode cX7_guesses 47 = .ok (.iload 4, 2) := by decide +kernel
theorem dX7_guesses_49 : decode cX7_guesses 49 = .ok (.iload 5, 2) := by decide +kernel
theorem dX7_guesses_51 : decode cX7_guesses 51 = .ok (.aload_n 0, 1) := by decide +kernel
theorem dX7_guesses_52 : decode cX7_guesses 52 = .ok (.getfield 62, 3) := by decide +kernel
theorem dX7_guesses_55 : decode cX7_guesses 55 = .ok (.iload_n 1, 1) := by decide +kernel
theorem dX7_guesses_56 : decode cX7_guesses 56 = .ok (.iaload, 1) := by decide +kernel
theorem dX7_guesses_57 : decode cX7_guesses 57 = .ok (.invokestatic 142, 3) := by decide +kernel
theorem dX7_guesses_60 : decode cX7_guesses 60 = .ok (.invokestatic 145, 3) := by decide +kernel
theorem dX7_guesses_63 : decode cX7_guesses 63 = .ok (.aload_n 0, 1) := by decide +kernel
theorem dX7_guesses_64 : decode cX7_guesses 64 = .ok (.getfield 65, 3) := by decide +kernel
theorem dX7_guesses_67 : decode cX7_guesses 67 = .ok (.sipush 144, 3) := by decide +kernel
theorem dX7_guesses_70 : decode cX7_guesses 70 = .ok (.iload_n 1, 1) := by decide +kernel
theorem dX7_guesses_71 : decode cX7_guesses 71 = .ok (.imul, 1) := by decide +kernel
theorem dX7_guesses_72 : decode cX7_guesses 72 = .ok (.iload_n 2, 1) := by decide +kernel
theorem dX7_guesses_73 : decode cX7_guesses 73 = .ok (.iload_n 3, 1) := by decide +kernel
theorem dX7_guesses_74 : decode cX7_guesses 74 = .ok (.invokestatic 100, 3) := by decide +kernel
theorem dX7_guesses_77 : decode cX7_guesses 77 = .ok (.iadd, 1) := by decide +kernel
theorem dX7_guesses_78 : decode cX7_guesses 78 = .ok (.iaload, 1) := by decide +kernel
theorem dX7_guesses_79 : decode cX7_guesses 79 = .ok (.if_icmp .ne 7, 3) := by decide +kernel
theorem dX7_guesses_82 : decode cX7_guesses 82 = .ok (.iconst 1, 1) := by decide +kernel
theorem dX7_guesses_83 : decode cX7_guesses 83 = .ok (.goto 4, 3) := by decide +kernel
theorem dX7_guesses_86 : decode cX7_guesses 86 = .ok (.iconst 0, 1) := by decide +kernel
theorem dX7_guesses_87 : decode cX7_guesses 87 = .ok (.iadd, 1) := by decide +kernel
theorem dX7_guesses_88 : decode cX7_guesses 88 = .ok (.istore 4, 2) := by decide +kernel
theorem dX7_guesses_90 : decode cX7_guesses 90 = .ok (.iinc 5 1, 3) := by decide +kernel
theorem dX7_guesses_93 : decode cX7_guesses 93 = .ok (.goto (-53), 3) := by decide +kernel
theorem dX7_guesses_96 : decode cX7_guesses 96 = .ok (.iload 4, 2) := by decide +kernel
theorem dX7_guesses_98 : decode cX7_guesses 98 = .ok (.ireturn, 1) := by decide +kernel
