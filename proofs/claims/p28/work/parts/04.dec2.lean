theorem dX6_init_0 : decode cX6_init 0 = .ok (.aload_n 0, 1) := by decide +kernel
theorem dX6_init_1 : decode cX6_init 1 = .ok (.invokespecial 3, 3) := by decide +kernel
theorem dX6_init_4 : decode cX6_init 4 = .ok (.aload_n 0, 1) := by decide +kernel
theorem dX6_init_5 : decode cX6_init 5 = .ok (.new 9, 3) := by decide +kernel
theorem dX6_init_8 : decode cX6_init 8 = .ok (.dup, 1) := by decide +kernel
theorem dX6_init_9 : decode cX6_init 9 = .ok (.invokespecial 11, 3) := by decide +kernel
theorem dX6_init_12 : decode cX6_init 12 = .ok (.putfield 12, 3) := by decide +kernel
theorem dX6_init_15 : decode cX6_init 15 = .ok (.aload_n 0, 1) := by decide +kernel
theorem dX6_init_16 : decode cX6_init 16 = .ok (.new 16, 3) := by decide +kernel
theorem dX6_init_19 : decode cX6_init 19 = .ok (.dup, 1) := by decide +kernel
theorem dX6_init_20 : decode cX6_init 20 = .ok (.aload_n 0, 1) := by decide +kernel
theorem dX6_init_21 : decode cX6_init 21 = .ok (.getfield 12, 3) := by decide +kernel
theorem dX6_init_24 : decode cX6_init 24 = .ok (.invokespecial 18, 3) := by decide +kernel
theorem dX6_init_27 : decode cX6_init 27 = .ok (.putfield 21, 3) := by decide +kernel
theorem dX6_init_30 : decode cX6_init 30 = .ok (.aload_n 0, 1) := by decide +kernel
theorem dX6_init_31 : decode cX6_init 31 = .ok (.new 25, 3) := by decide +kernel
theorem dX6_init_34 : decode cX6_init 34 = .ok (.dup, 1) := by decide +kernel
theorem dX6_init_35 : decode cX6_init 35 = .ok (.aload_n 0, 1) := by decide +kernel
theorem dX6_init_36 : decode cX6_init 36 = .ok (.getfield 21, 3) := by decide +kernel
theorem dX6_init_39 : decode cX6_init 39 = .ok (.invokespecial 27, 3) := by decide +kernel
theorem dX6_init_42 : decode cX6_init 42 = .ok (.putfield 30, 3) := by decide +kernel
theorem dX6_init_45 : decode cX6_init 45 = .ok (.aload_n 0, 1) := by decide +kernel
theorem dX6_init_46 : decode cX6_init 46 = .ok (.new 34, 3) := by decide +kernel
theorem dX6_init_49 : decode cX6_init 49 = .ok (.dup, 1) := by decide +kernel
theorem dX6_init_50 : decode cX6_init 50 = .ok (.invokespecial 36, 3) := by decide +kernel
theorem dX6_init_53 : decode cX6_init 53 = .ok (.putfield 37, 3) := by decide +kernel
theorem dX6_init_56 : decode cX6_init 56 = .ok (.aload_n 0, 1) := by decide +kernel
theorem dX6_init_57 : decode cX6_init 57 = .ok (.new 41, 3) := by decide +kernel
theorem dX6_init_60 : decode cX6_init 60 = .ok (.dup, 1) := by decide +kernel
theorem dX6_init_61 : decode cX6_init 61 = .ok (.invokespecial 43, 3) := by decide +kernel
theorem dX6_init_64 : decode cX6_init 64 = .ok (.putfield 44, 3) := by decide +kernel
theorem dX6_init_67 : decode cX6_init 67 = .ok (.aload_n 0, 1) := by decide +kernel
theorem dX6_init_68 : decode cX6_init 68 = .ok (.iconst 0, 1) := by decide +kernel
theorem dX6_init_69 : decode cX6_init 69 = .ok (.putfield 48, 3) := by decide +kernel
theorem dX6_init_72 : decode cX6_init 72 = .ok (.aload_n 0, 1) := by decide +kernel
theorem dX6_init_73 : decode cX6_init 73 = .ok (.iconst 4, 1) := by decide +kernel
theorem dX6_init_74 : decode cX6_init 74 = .ok (.iconst 4, 1) := by decide +kernel
theorem dX6_init_75 : decode cX6_init 75 = .ok (.invokevirtual 52, 3) := by decide +kernel
theorem dX6_init_78 : decode cX6_init 78 = .ok (.return_, 1) := by decide +kernel
theorem dX6_grid_0 : decode cX6_grid 0 = .ok (.iload_n 1, 1) := by decide +kernel
theorem dX6_grid_1 : decode cX6_grid 1 = .ok (.iconst 2, 1) := by decide +kernel
theorem dX6_grid_2 : decode cX6_grid 2 = .ok (.bipush 12, 2) := by decide +kernel
theorem dX6_grid_4 : decode cX6_grid 4 = .ok (.invokestatic 56, 3) := by decide +kernel
theorem dX6_grid_7 : decode cX6_grid 7 = .ok (.ifCond .eq 13, 3) := by decide +kernel
theorem dX6_grid_10 : decode cX6_grid 10 = .ok (.iload_n 2, 1) := by decide +kernel
theorem dX6_grid_11 : decode cX6_grid 11 = .ok (.iconst 2, 1) := by decide +kernel
theorem dX6_grid_12 : decode cX6_grid 12 = .ok (.bipush 12, 2) := by decide +kernel
theorem dX6_grid_14 : decode cX6_grid 14 = .ok (.invokestatic 56, 3) := by decide +kernel
theorem dX6_grid_17 : decode cX6_grid 17 = .ok (.ifCond .ne 13, 3) := by decide +kernel
theorem dX6_grid_20 : decode cX6_grid 20 = .ok (.new 60, 3) := by decide +kernel
theorem dX6_grid_23 : decode cX6_grid 23 = .ok (.dup, 1) := by decide +kernel
theorem dX6_grid_24 : decode cX6_grid 24 = .ok (.ldc 62, 2) := by decide +kernel
theorem dX6_grid_26 : decode cX6_grid 26 = .ok (.invokespecial 64, 3) := by decide +kernel
theorem dX6_grid_29 : decode cX6_grid 29 = .ok (.athrow, 1) := by decide +kernel
theorem dX6_grid_30 : decode cX6_grid 30 = .ok (.aload_n 0, 1) := by decide +kernel
theorem dX6_grid_31 : decode cX6_grid 31 = .ok (.iload_n 1, 1) := by decide +kernel
theorem dX6_grid_32 : decode cX6_grid 32 = .ok (.iload_n 2, 1) := by decide +kernel
theorem dX6_grid_33 : decode cX6_grid 33 = .ok (.invokevirtual 52, 3) := by decide +kernel
theorem dX6_grid_36 : decode cX6_grid 36 = .ok (.return_, 1) := by decide +kernel
theorem dX6_turn_0 : decode cX6_turn 0 = .ok (.aload_n 0, 1) := by decide +kernel
theorem dX6_turn_1 : decode cX6_turn 1 = .ok (.getfield 21, 3) := by decide +kernel
theorem dX6_turn_4 : decode cX6_turn 4 = .ok (.iload_n 1, 1) := by decide +kernel
theorem dX6_turn_5 : decode cX6_turn 5 = .ok (.iload_n 2, 1) := by decide +kernel
theorem dX6_turn_6 : decode cX6_turn 6 = .ok (.invokevirtual 77, 3) := by decide +kernel
theorem dX6_turn_9 : decode cX6_turn 9 = .ok (.ifCond .ne 13, 3) := by decide +kernel
theorem dX6_turn_12 : decode cX6_turn 12 = .ok (.new 81, 3) := by decide +kernel
theorem dX6_turn_15 : decode cX6_turn 15 = .ok (.dup, 1) := by decide +kernel
theorem dX6_turn_16 : decode cX6_turn 16 = .ok (.ldc 83, 2) := by decide +kernel
theorem dX6_turn_18 : decode cX6_turn 18 = .ok (.invokespecial 85, 3) := by decide +kernel
theorem dX6_turn_21 : decode cX6_turn 21 = .ok (.athrow, 1) := by decide +kernel
theorem dX6_turn_22 : decode cX6_turn 22 = .ok (.iload_n 3, 1) := by decide +kernel
theorem dX6_turn_23 : decode cX6_turn 23 = .ok (.invokestatic 86, 3) := by decide +kernel
theorem dX6_turn_26 : decode cX6_turn 26 = .ok (.ifCond .ne 13, 3) := by decide +kernel
theorem dX6_turn_29 : decode cX6_turn 29 = .ok (.new 60, 3) := by decide +kernel
theorem dX6_turn_32 : decode cX6_turn 32 = .ok (.dup, 1) := by decide +kernel
theorem dX6_turn_33 : decode cX6_turn 33 = .ok (.ldc 90, 2) := by decide +kernel
theorem dX6_turn_35 : decode cX6_turn 35 = .ok (.invokespecial 64, 3) := by decide +kernel
theorem dX6_turn_38 : decode cX6_turn 38 = .ok (.athrow, 1) := by decide +kernel
theorem dX6_turn_39 : decode cX6_turn 39 = .ok (.aload_n 0, 1) := by decide +kernel
theorem dX6_turn_40 : decode cX6_turn 40 = .ok (.getfield 21, 3) := by decide +kernel
theorem dX6_turn_43 : decode cX6_turn 43 = .ok (.iload_n 1, 1) := by decide +kernel
theorem dX6_turn_44 : decode cX6_turn 44 = .ok (.iload_n 2, 1) := by decide +kernel
theorem dX6_turn_45 : decode cX6_turn 45 = .ok (.invokevirtual 92, 3) := by decide +kernel
theorem dX6_turn_48 : decode cX6_turn 48 = .ok (.iconst 1, 1) := by decide +kernel
theorem dX6_turn_49 : decode cX6_turn 49 = .ok (.if_icmp .ne 13, 3) := by decide +kernel
theorem dX6_turn_52 : decode cX6_turn 52 = .ok (.new 95, 3) := by decide +kernel
theorem dX6_turn_55 : decode cX6_turn 55 = .ok (.dup, 1) := by decide +kernel
theorem dX6_turn_56 : decode cX6_turn 56 = .ok (.ldc 97, 2) := by decide +kernel
theorem dX6_turn_58 : decode cX6_turn 58 = .ok (.invokespecial 99, 3) := by decide +kernel
theorem dX6_turn_61 : decode cX6_turn 61 = .ok (.athrow, 1) := by decide +kernel
theorem dX6_turn_62 : decode cX6_turn 62 = .ok (.aload_n 0, 1) := by decide +kernel
theorem dX6_turn_63 : decode cX6_turn 63 = .ok (.aload_n 0, 1) := by decide +kernel
theorem dX6_turn_64 : decode cX6_turn 64 = .ok (.getfield 21, 3) := by decide +kernel
theorem dX6_turn_67 : decode cX6_turn 67 = .ok (.iload_n 1, 1) := by decide +kernel
theorem dX6_turn_68 : decode cX6_turn 68 = .ok (.iload_n 2, 1) := by decide +kernel
theorem dX6_turn_69 : decode cX6_turn 69 = .ok (.iload_n 3, 1) := by decide +kernel
theorem dX6_turn_70 : decode cX6_turn 70 = .ok (.invokevirtual 100, 3) := by decide +kernel
theorem dX6_turn_73 : decode cX6_turn 73 = .ok (.invokevirtual 73, 3) := by decide +kernel
theorem dX6_turn_76 : decode cX6_turn 76 = .ok (.ireturn, 1) := by decide +kernel
theorem dX6_anchor_0 : decode cX6_anchor 0 = .ok (.aload_n 0, 1) := by decide +kernel
theorem dX6_anchor_1 : decode cX6_anchor 1 = .ok (.getfield 21, 3) := by decide +kernel
theorem dX6_anchor_4 : decode cX6_anchor 4 = .ok (.iload_n 1, 1) := by decide +kernel
theorem dX6_anchor_5 : decode cX6_anchor 5 = .ok (.iload_n 2, 1) := by decide +kernel
theorem dX6_anchor_6 : decode cX6_anchor 6 = .ok (.invokevirtual 77, 3) := by decide +kernel
theorem dX6_anchor_9 : decode cX6_anchor 9 = .ok (.ifCond .ne 13, 3) := by decide +kernel
theorem dX6_anchor_12 : decode cX6_anchor 12 = .ok (.new 81, 3) := by decide +kernel
theorem dX6_anchor_15 : decode cX6_anchor 15 = .ok (.dup, 1) := by decide +kernel
theorem dX6_anchor_16 : decode cX6_anchor 16 = .ok (.ldc 83, 2) := by decide +kernel
theorem dX6_anchor_18 : decode cX6_anchor 18 = .ok (.invokespecial 85, 3) := by decide +kernel
theorem dX6_anchor_21 : decode cX6_anchor 21 = .ok (.athrow, 1) := by decide +kernel
theorem dX6_anchor_22 : decode cX6_anchor 22 = .ok (.iload_n 3, 1) := by decide +kernel
theorem dX6_anchor_23 : decode cX6_anchor 23 = .ok (.iconst 0, 1) := by decide +kernel
theorem dX6_anchor_24 : decode cX6_anchor 24 = .ok (.iconst 2, 1) := by decide +kernel
theorem dX6_anchor_25 : decode cX6_anchor 25 = .ok (.invokestatic 56, 3) := by decide +kernel
theorem dX6_anchor_28 : decode cX6_anchor 28 = .ok (.ifCond .eq 22, 3) := by decide +kernel
theorem dX6_anchor_31 : decode cX6_anchor 31 = .ok (.iload 4, 2) := by decide +kernel
theorem dX6_anchor_33 : decode cX6_anchor 33 = .ok (.invokestatic 86, 3) := by decide +kernel
theorem dX6_anchor_36 : decode cX6_anchor 36 = .ok (.ifCond .eq 14, 3) := by decide +kernel
theorem dX6_anchor_39 : decode cX6_anchor 39 = .ok (.iload 5, 2) := by decide +kernel
theorem dX6_anchor_41 : decode cX6_anchor 41 = .ok (.iconst 1, 1) := by decide +kernel
theorem dX6_anchor_42 : decode cX6_anchor 42 = .ok (.bipush 100, 2) := by decide +kernel
theorem dX6_anchor_44 : decode cX6_anchor 44 = .ok (.invokestatic 56, 3) := by decide +kernel
theorem dX6_anchor_47 : decode cX6_anchor 47 = .ok (.ifCond .ne 13, 3) := by decide +kernel
theorem dX6_anchor_50 : decode cX6_anchor 50 = .ok (.new 60, 3) := by decide +kernel
theorem dX6_anchor_53 : decode cX6_anchor 53 = .ok (.dup, 1) := by decide +kernel
theorem dX6_anchor_54 : decode cX6_anchor 54 = .ok (.ldc 104, 2) := by decide +kernel
theorem dX6_anchor_56 : decode cX6_anchor 56 = .ok (.invokespecial 64, 3) := by decide +kernel
theorem dX6_anchor_59 : decode cX6_anchor 59 = .ok (.athrow, 1) := by decide +kernel
theorem dX6_anchor_60 : decode cX6_anchor 60 = .ok (.aload_n 0, 1) := by decide +kernel
theorem dX6_anchor_61 : decode cX6_anchor 61 = .ok (.aload_n 0, 1) := by decide +kernel
theorem dX6_anchor_62 : decode cX6_anchor 62 = .ok (.getfield 21, 3) := by decide +kernel
theorem dX6_anchor_65 : decode cX6_anchor 65 = .ok (.iload_n 1, 1) := by decide +kernel
theorem dX6_anchor_66 : decode cX6_anchor 66 = .ok (.iload_n 2, 1) := by decide +kernel
theorem dX6_anchor_67 : decode cX6_anchor 67 = .ok (.iload_n 3, 1) := by decide +kernel
theorem dX6_anchor_68 : decode cX6_anchor 68 = .ok (.iload 4, 2) := by decide +kernel
theorem dX6_anchor_70 : decode cX6_anchor 70 = .ok (.iload 5, 2) := by decide +kernel
theorem dX6_anchor_72 : decode cX6_anchor 72 = .ok (.invokevirtual 106, 3) := by decide +kernel
theorem dX6_anchor_75 : decode cX6_anchor 75 = .ok (.invokevirtual 73, 3) := by decide +kernel
theorem dX6_anchor_78 : decode cX6_anchor 78 = .ok (.ireturn, 1) := by decide +kernel
theorem dX6_pixel_0 : decode cX6_pixel 0 = .ok (.aload_n 0, 1) := by decide +kernel
theorem dX6_pixel_1 : decode cX6_pixel 1 = .ok (.getfield 21, 3) := by decide +kernel
theorem dX6_pixel_4 : decode cX6_pixel 4 = .ok (.iload_n 1, 1) := by decide +kernel
theorem dX6_pixel_5 : decode cX6_pixel 5 = .ok (.iload_n 2, 1) := by decide +kernel
theorem dX6_pixel_6 : decode cX6_pixel 6 = .ok (.invokevirtual 77, 3) := by decide +kernel
theorem dX6_pixel_9 : decode cX6_pixel 9 = .ok (.ifCond .ne 13, 3) := by decide +kernel
theorem dX6_pixel_12 : decode cX6_pixel 12 = .ok (.new 81, 3) := by decide +kernel
theorem dX6_pixel_15 : decode cX6_pixel 15 = .ok (.dup, 1) := by decide +kernel
theorem dX6_pixel_16 : decode cX6_pixel 16 = .ok (.ldc 83, 2) := by decide +kernel
theorem dX6_pixel_18 : decode cX6_pixel 18 = .ok (.invokespecial 85, 3) := by decide +kernel
theorem dX6_pixel_21 : decode cX6_pixel 21 = .ok (.athrow, 1) := by decide +kernel
theorem dX6_pixel_22 : decode cX6_pixel 22 = .ok (.iload_n 3, 1) := by decide +kernel
theorem dX6_pixel_23 : decode cX6_pixel 23 = .ok (.iconst 1, 1) := by decide +kernel
theorem dX6_pixel_24 : decode cX6_pixel 24 = .ok (.bipush 12, 2) := by decide +kernel
theorem dX6_pixel_26 : decode cX6_pixel 26 = .ok (.invokestatic 56, 3) := by decide +kernel
theorem dX6_pixel_29 : decode cX6_pixel 29 = .ok (.ifCond .eq 14, 3) := by decide +kernel
theorem dX6_pixel_32 : decode cX6_pixel 32 = .ok (.iload 4, 2) := by decide +kernel
theorem dX6_pixel_34 : decode cX6_pixel 34 = .ok (.iconst 1, 1) := by decide +kernel
theorem dX6_pixel_35 : decode cX6_pixel 35 = .ok (.bipush 12, 2) := by decide +kernel
theorem dX6_pixel_37 : decode cX6_pixel 37 = .ok (.invokestatic 56, 3) := by decide +kernel
theorem dX6_pixel_40 : decode cX6_pixel 40 = .ok (.ifCond .ne 13, 3) := by decide +kernel
theorem dX6_pixel_43 : decode cX6_pixel 43 = .ok (.new 60, 3) := by decide +kernel
theorem dX6_pixel_46 : decode cX6_pixel 46 = .ok (.dup, 1) := by decide +kernel
theorem dX6_pixel_47 : decode cX6_pixel 47 = .ok (.ldc 110, 2) := by decide +kernel
theorem dX6_pixel_49 : decode cX6_pixel 49 = .ok (.invokespecial 64, 3) := by decide +kernel
theorem dX6_pixel_52 : decode cX6_pixel 52 = .ok (.athrow, 1) := by decide +kernel
theorem dX6_pixel_53 : decode cX6_pixel 53 = .ok (.aload_n 0, 1) := by decide +kernel
theorem dX6_pixel_54 : decode cX6_pixel 54 = .ok (.getfield 21, 3) := by decide +kernel
theorem dX6_pixel_57 : decode cX6_pixel 57 = .ok (.iload_n 1, 1) := by decide +kernel
theorem dX6_pixel_58 : decode cX6_pixel 58 = .ok (.iload_n 3, 1) := by decide +kernel
theorem dX6_pixel_59 : decode cX6_pixel 59 = .ok (.iadd, 1) := by decide +kernel
theorem dX6_pixel_60 : decode cX6_pixel 60 = .ok (.iconst 1, 1) := by decide +kernel
theorem dX6_pixel_61 : decode cX6_pixel 61 = .ok (.isub, 1) := by decide +kernel
theorem dX6_pixel_62 : decode cX6_pixel 62 = .ok (.iload_n 2, 1) := by decide +kernel
theorem dX6_pixel_63 : decode cX6_pixel 63 = .ok (.iload 4, 2) := by decide +kernel
theorem dX6_pixel_65 : decode cX6_pixel 65 = .ok (.iadd, 1) := by decide +kernel
theorem dX6_pixel_66 : decode cX6_pixel 66 = .ok (.iconst 1, 1) := by decide +kernel
theorem dX6_pixel_67 : decode cX6_pixel 67 = .ok (.isub, 1) := by decide +kernel
theorem dX6_pixel_68 : decode cX6_pixel 68 = .ok (.invokevirtual 77, 3) := by decide +kernel
theorem dX6_pixel_71 : decode cX6_pixel 71 = .ok (.ifCond .ne 13, 3) := by decide +kernel
theorem dX6_pixel_74 : decode cX6_pixel 74 = .ok (.new 60, 3) := by decide +kernel
theorem dX6_pixel_77 : decode cX6_pixel 77 = .ok (.dup, 1) := by decide +kernel
theorem dX6_pixel_78 : decode cX6_pixel 78 = .ok (.ldc 112, 2) := by decide +kernel
theorem dX6_pixel_80 : decode cX6_pixel 80 = .ok (.invokespecial 64, 3) := by decide +kernel
theorem dX6_pixel_83 : decode cX6_pixel 83 = .ok (.athrow, 1) := by decide +kernel
theorem dX6_pixel_84 : decode cX6_pixel 84 = .ok (.aload_n 0, 1) := by decide +kernel
theorem dX6_pixel_85 : decode cX6_pixel 85 = .ok (.getfield 12, 3) := by decide +kernel
theorem dX6_pixel_88 : decode cX6_pixel 88 = .ok (.getfield 114, 3) := by decide +kernel
theorem dX6_pixel_91 : decode cX6_pixel 91 = .ok (.bipush 8, 2) := by decide +kernel
theorem dX6_pixel_93 : decode cX6_pixel 93 = .ok (.if_icmp .ge 18, 3) := by decide +kernel
theorem dX6_pixel_96 : decode cX6_pixel 96 = .ok (.aload_n 0, 1) := by decide +kernel
theorem dX6_pixel_97 : decode cX6_pixel 97 = .ok (.getfield 21, 3) := by decide +kernel
theorem dX6_pixel_100 : decode cX6_pixel 100 = .ok (.iload_n 1, 1) := by decide +kernel
theorem dX6_pixel_101 : decode cX6_pixel 101 = .ok (.iload_n 2, 1) := by decide +kernel
theorem dX6_pixel_102 : decode cX6_pixel 102 = .ok (.iload_n 3, 1) := by decide +kernel
theorem dX6_pixel_103 : decode cX6_pixel 103 = .ok (.iload 4, 2) := by decide +kernel
theorem dX6_pixel_105 : decode cX6_pixel 105 = .ok (.invokevirtual 117, 3) := by decide +kernel
theorem dX6_pixel_108 : decode cX6_pixel 108 = .ok (.ifCond .eq 13, 3) := by decide +kernel
theorem dX6_pixel_111 : decode cX6_pixel 111 = .ok (.new 95, 3) := by decide +kernel
theorem dX6_pixel_114 : decode cX6_pixel 114 = .ok (.dup, 1) := by decide +kernel
theorem dX6_pixel_115 : decode cX6_pixel 115 = .ok (.ldc 121, 2) := by decide +kernel
theorem dX6_pixel_117 : decode cX6_pixel 117 = .ok (.invokespecial 99, 3) := by decide +kernel
theorem dX6_pixel_120 : decode cX6_pixel 120 = .ok (.athrow, 1) := by decide +kernel
theorem dX6_pixel_121 : decode cX6_pixel 121 = .ok (.aload_n 0, 1) := by decide +kernel
theorem dX6_pixel_122 : decode cX6_pixel 122 = .ok (.getfield 12, 3) := by decide +kernel
theorem dX6_pixel_125 : decode cX6_pixel 125 = .ok (.iload_n 1, 1) := by decide +kernel
theorem dX6_pixel_126 : decode cX6_pixel 126 = .ok (.iload_n 2, 1) := by decide +kernel
theorem dX6_pixel_127 : decode cX6_pixel 127 = .ok (.iload_n 3, 1) := by decide +kernel
theorem dX6_pixel_128 : decode cX6_pixel 128 = .ok (.iload 4, 2) := by decide +kernel
theorem dX6_pixel_130 : decode cX6_pixel 130 = .ok (.invokevirtual 123, 3) := by decide +kernel
theorem dX6_pixel_133 : decode cX6_pixel 133 = .ok (.istore 5, 2) := by decide +kernel
theorem dX6_pixel_135 : decode cX6_pixel 135 = .ok (.aload_n 0, 1) := by decide +kernel
theorem dX6_pixel_136 : decode cX6_pixel 136 = .ok (.getfield 21, 3) := by decide +kernel
theorem dX6_pixel_139 : decode cX6_pixel 139 = .ok (.iload_n 1, 1) := by decide +kernel
theorem dX6_pixel_140 : decode cX6_pixel 140 = .ok (.iload_n 2, 1) := by decide +kernel
theorem dX6_pixel_141 : decode cX6_pixel 141 = .ok (.iload_n 3, 1) := by decide +kernel
theorem dX6_pixel_142 : decode cX6_pixel 142 = .ok (.iload 4, 2) := by decide +kernel
theorem dX6_pixel_144 : decode cX6_pixel 144 = .ok (.iload 5, 2) := by decide +kernel
theorem dX6_pixel_146 : decode cX6_pixel 146 = .ok (.invokevirtual 127, 3) := by decide +kernel
theorem dX6_pixel_149 : decode cX6_pixel 149 = .ok (.iload 5, 2) := by decide +kernel
theorem dX6_pixel_151 : decode cX6_pixel 151 = .ok (.ireturn, 1) := by decide +kernel
theorem dX6_drive_0 : decode cX6_drive 0 = .ok (.aload_n 0, 1) := by decide +kernel
theorem dX6_drive_1 : decode cX6_drive 1 = .ok (.getfield 12, 3) := by decide +kernel
theorem dX6_drive_4 : decode cX6_drive 4 = .ok (.iload_n 1, 1) := by decide +kernel
theorem dX6_drive_5 : decode cX6_drive 5 = .ok (.invokevirtual 131, 3) := by decide +kernel
theorem dX6_drive_8 : decode cX6_drive 8 = .ok (.ifCond .ne 13, 3) := by decide +kernel
theorem dX6_drive_11 : decode cX6_drive 11 = .ok (.new 81, 3) := by decide +kernel
theorem dX6_drive_14 : decode cX6_drive 14 = .ok (.dup, 1) := by decide +kernel
theorem dX6_drive_15 : decode cX6_drive 15 = .ok (.ldc 133, 2) := by decide +kernel
theorem dX6_drive_17 : decode cX6_drive 17 = .ok (.invokespecial 85, 3) := by decide +kernel
theorem dX6_drive_20 : decode cX6_drive 20 = .ok (.athrow, 1) := by decide +kernel
theorem dX6_drive_21 : decode cX6_drive 21 = .ok (.iload_n 2, 1) := by decide +kernel
theorem dX6_drive_22 : decode cX6_drive 22 = .ok (.invokestatic 86, 3) := by decide +kernel
theorem dX6_drive_25 : decode cX6_drive 25 = .ok (.ifCond .eq 13, 3) := by decide +kernel
theorem dX6_drive_28 : decode cX6_drive 28 = .ok (.iload_n 3, 1) := by decide +kernel
theorem dX6_drive_29 : decode cX6_drive 29 = .ok (.iconst 0, 1) := by decide +kernel
theorem dX6_drive_30 : decode cX6_drive 30 = .ok (.bipush 100, 2) := by decide +kernel
theorem dX6_drive_32 : decode cX6_drive 32 = .ok (.invokestatic 56, 3) := by decide +kernel
theorem dX6_drive_35 : decode cX6_drive 35 = .ok (.ifCond .ne 13, 3) := by decide +kernel
theorem dX6_drive_38 : decode cX6_drive 38 = .ok (.new 60, 3) := by decide +kernel
theorem dX6_drive_41 : decode cX6_drive 41 = .ok (.dup, 1) := by decide +kernel
theorem dX6_drive_42 : decode cX6_drive 42 = .ok (.ldc 135, 2) := by decide +kernel
theorem dX6_drive_44 : decode cX6_drive 44 = .ok (.invokespecial 64, 3) := by decide +kernel
theorem dX6_drive_47 : decode cX6_drive 47 = .ok (.athrow, 1) := by decide +kernel
theorem dX6_drive_48 : decode cX6_drive 48 = .ok (.aload_n 0, 1) := by decide +kernel
theorem dX6_drive_49 : decode cX6_drive 49 = .ok (.aload_n 0, 1) := by decide +kernel
theorem dX6_drive_50 : decode cX6_drive 50 = .ok (.getfield 21, 3) := by decide +kernel
theorem dX6_drive_53 : decode cX6_drive 53 = .ok (.iload_n 1, 1) := by decide +kernel
theorem dX6_drive_54 : decode cX6_drive 54 = .ok (.iload_n 2, 1) := by decide +kernel
theorem dX6_drive_55 : decode cX6_drive 55 = .ok (.iload_n 3, 1) := by decide +kernel
theorem dX6_drive_56 : decode cX6_drive 56 = .ok (.invokevirtual 137, 3) := by decide +kernel
theorem dX6_drive_59 : decode cX6_drive 59 = .ok (.invokevirtual 73, 3) := by decide +kernel
theorem dX6_drive_62 : decode cX6_drive 62 = .ok (.ireturn, 1) := by decide +kernel
theorem dX6_program_0 : decode cX6_program 0 = .ok (.aload_n 0, 1) := by decide +kernel
theorem dX6_program_1 : decode cX6_program 1 = .ok (.getfield 12, 3) := by decide +kernel
theorem dX6_program_4 : decode cX6_program 4 = .ok (.iload_n 1, 1) := by decide +kernel
theorem dX6_program_5 : decode cX6_program 5 = .ok (.invokevirtual 131, 3) := by decide +kernel
theorem dX6_program_8 : decode cX6_program 8 = .ok (.ifCond .ne 13, 3) := by decide +kernel
theorem dX6_program_11 : decode cX6_program 11 = .ok (.new 81, 3) := by decide +kernel
theorem dX6_program_14 : decode cX6_program 14 = .ok (.dup, 1) := by decide +kernel
theorem dX6_program_15 : decode cX6_program 15 = .ok (.ldc 133, 2) := by decide +kernel
theorem dX6_program_17 : decode cX6_program 17 = .ok (.invokespecial 85, 3) := by decide +kernel
theorem dX6_program_20 : decode cX6_program 20 = .ok (.athrow, 1) := by decide +kernel
theorem dX6_program_21 : decode cX6_program 21 = .ok (.iload_n 2, 1) := by decide +kernel
theorem dX6_program_22 : decode cX6_program 22 = .ok (.aload_n 0, 1) := by decide +kernel
theorem dX6_program_23 : decode cX6_program 23 = .ok (.getfield 140, 3) := by decide +kernel
theorem dX6_program_26 : decode cX6_program 26 = .ok (.if_icmp .le 10, 3) := by decide +kernel
theorem dX6_program_29 : decode cX6_program 29 = .ok (.iload_n 2, 1) := by decide +kernel
theorem dX6_program_30 : decode cX6_program 30 = .ok (.sipush 2000, 3) := by decide +kernel
theorem dX6_program_33 : decode cX6_program 33 = .ok (.if_icmp .le 13, 3) := by decide +kernel
theorem dX6_program_36 : decode cX6_program 36 = .ok (.new 60, 3) := by decide +kernel
theorem dX6_program_39 : decode cX6_program 39 = .ok (.dup, 1) := by decide +kernel
theorem dX6_program_40 : decode cX6_program 40 = .ok (.ldc 143, 2) := by decide +kernel
theorem dX6_program_42 : decode cX6_program 42 = .ok (.invokespecial 64, 3) := by decide +kernel
theorem dX6_program_45 : decode cX6_program 45 = .ok (.athrow, 1) := by decide +kernel
theorem dX6_program_46 : decode cX6_program 46 = .ok (.iload_n 3, 1) := by decide +kernel
theorem dX6_program_47 : decode cX6_program 47 = .ok (.invokestatic 86, 3) := by decide +kernel
theorem dX6_program_50 : decode cX6_program 50 = .ok (.ifCond .eq 14, 3) := by decide +kernel
theorem dX6_program_53 : decode cX6_program 53 = .ok (.iload 4, 2) := by decide +kernel
theorem dX6_program_55 : decode cX6_program 55 = .ok (.iconst 0, 1) := by decide +kernel
theorem dX6_program_56 : decode cX6_program 56 = .ok (.bipush 100, 2) := by decide +kernel
theorem dX6_program_58 : decode cX6_program 58 = .ok (.invokestatic 56, 3) := by decide +kernel
theorem dX6_program_61 : decode cX6_program 61 = .ok (.ifCond .ne 13, 3) := by decide +kernel
theorem dX6_program_64 : decode cX6_program 64 = .ok (.new 60, 3) := by decide +kernel
theorem dX6_program_67 : decode cX6_program 67 = .ok (.dup, 1) := by decide +kernel
theorem dX6_program_68 : decode cX6_program 68 = .ok (.ldc 135, 2) := by decide +kernel
theorem dX6_program_70 : decode cX6_program 70 = .ok (.invokespecial 64, 3) := by decide +kernel
theorem dX6_program_73 : decode cX6_program 73 = .ok (.athrow, 1) := by decide +kernel
theorem dX6_program_74 : decode cX6_program 74 = .ok (.aload_n 0, 1) := by decide +kernel
theorem dX6_program_75 : decode cX6_program 75 = .ok (.getfield 37, 3) := by decide +kernel
theorem dX6_program_78 : decode cX6_program 78 = .ok (.getfield 145, 3) := by decide +kernel
theorem dX6_program_81 : decode cX6_program 81 = .ok (.bipush 40, 2) := by decide +kernel
theorem dX6_program_83 : decode cX6_program 83 = .ok (.if_icmp .lt 13, 3) := by decide +kernel
theorem dX6_program_86 : decode cX6_program 86 = .ok (.new 95, 3) := by decide +kernel
theorem dX6_program_89 : decode cX6_program 89 = .ok (.dup, 1) := by decide +kernel
theorem dX6_program_90 : decode cX6_program 90 = .ok (.ldc 146, 2) := by decide +kernel
theorem dX6_program_92 : decode cX6_program 92 = .ok (.invokespecial 99, 3) := by decide +kernel
theorem dX6_program_95 : decode cX6_program 95 = .ok (.athrow, 1) := by decide +kernel
theorem dX6_program_96 : decode cX6_program 96 = .ok (.aload_n 0, 1) := by decide +kernel
theorem dX6_program_97 : decode cX6_program 97 = .ok (.getfield 37, 3) := by decide +kernel
theorem dX6_program_100 : decode cX6_program 100 = .ok (.iload_n 1, 1) := by decide +kernel
theorem dX6_program_101 : decode cX6_program 101 = .ok (.iload_n 2, 1) := by decide +kernel
theorem dX6_program_102 : decode cX6_program 102 = .ok (.iload_n 3, 1) := by decide +kernel
theorem dX6_program_103 : decode cX6_program 103 = .ok (.iload 4, 2) := by decide +kernel
theorem dX6_program_105 : decode cX6_program 105 = .ok (.invokevirtual 148, 3) := by decide +kernel
theorem dX6_program_108 : decode cX6_program 108 = .ok (.ireturn, 1) := by decide +kernel
theorem dX6_tick_0 : decode cX6_tick 0 = .ok (.iload_n 1, 1) := by decide +kernel
theorem dX6_tick_1 : decode cX6_tick 1 = .ok (.iconst 1, 1) := by decide +kernel
theorem dX6_tick_2 : decode cX6_tick 2 = .ok (.bipush 50, 2) := by decide +kernel
theorem dX6_tick_4 : decode cX6_tick 4 = .ok (.invokestatic 56, 3) := by decide +kernel
theorem dX6_tick_7 : decode cX6_tick 7 = .ok (.ifCond .ne 13, 3) := by decide +kernel
theorem dX6_tick_10 : decode cX6_tick 10 = .ok (.new 60, 3) := by decide +kernel
theorem dX6_tick_13 : decode cX6_tick 13 = .ok (.dup, 1) := by decide +kernel
theorem dX6_tick_14 : decode cX6_tick 14 = .ok (.ldc 151, 2) := by decide +kernel
theorem dX6_tick_16 : decode cX6_tick 16 = .ok (.invokespecial 64, 3) := by decide +kernel
theorem dX6_tick_19 : decode cX6_tick 19 = .ok (.athrow, 1) := by decide +kernel
theorem dX6_tick_20 : decode cX6_tick 20 = .ok (.aload_n 0, 1) := by decide +kernel
theorem dX6_tick_21 : decode cX6_tick 21 = .ok (.getfield 140, 3) := by decide +kernel
theorem dX6_tick_24 : decode cX6_tick 24 = .ok (.iload_n 1, 1) := by decide +kernel
theorem dX6_tick_25 : decode cX6_tick 25 = .ok (.iadd, 1) := by decide +kernel
theorem dX6_tick_26 : decode cX6_tick 26 = .ok (.sipush 2000, 3) := by decide +kernel
theorem dX6_tick_29 : decode cX6_tick 29 = .ok (.if_icmp .le 13, 3) := by decide +kernel
theorem dX6_tick_32 : decode cX6_tick 32 = .ok (.new 95, 3) := by decide +kernel
theorem dX6_tick_35 : decode cX6_tick 35 = .ok (.dup, 1) := by decide +kernel
theorem dX6_tick_36 : decode cX6_tick 36 = .ok (.ldc 153, 2) := by decide +kernel
theorem dX6_tick_38 : decode cX6_tick 38 = .ok (.invokespecial 99, 3) := by decide +kernel
theorem dX6_tick_41 : decode cX6_tick 41 = .ok (.athrow, 1) := by decide +kernel
theorem dX6_tick_42 : decode cX6_tick 42 = .ok (.aload_n 0, 1) := by decide +kernel
theorem dX6_tick_43 : decode cX6_tick 43 = .ok (.getfield 155, 3) := by decide +kernel
theorem dX6_tick_46 : decode cX6_tick 46 = .ok (.istore_n 2, 1) := by decide +kernel
theorem dX6_tick_47 : decode cX6_tick 47 = .ok (.iconst 0, 1) := by decide +kernel
theorem dX6_tick_48 : decode cX6_tick 48 = .ok (.istore_n 3, 1) := by decide +kernel
theorem dX6_tick_49 : decode cX6_tick 49 = .ok (.iload_n 3, 1) := by decide +kernel
theorem dX6_tick_50 : decode cX6_tick 50 = .ok (.iload_n 1, 1) := by decide +kernel
theorem dX6_tick_51 : decode cX6_tick 51 = .ok (.if_icmp .ge 59, 3) := by decide +kernel
theorem dX6_tick_54 : decode cX6_tick 54 = .ok (.aload_n 0, 1) := by decide +kernel
theorem dX6_tick_55 : decode cX6_tick 55 = .ok (.dup, 1) := by decide +kernel
theorem dX6_tick_56 : decode cX6_tick 56 = .ok (.getfield 140, 3) := by decide +kernel
theorem dX6_tick_59 : decode cX6_tick 59 = .ok (.iconst 1, 1) := by decide +kernel
theorem dX6_tick_60 : decode cX6_tick 60 = .ok (.iadd, 1) := by decide +kernel
theorem dX6_tick_61 : decode cX6_tick 61 = .ok (.putfield 140, 3) := by decide +kernel
theorem dX6_tick_64 : decode cX6_tick 64 = .ok (.aload_n 0, 1) := by decide +kernel
theorem dX6_tick_65 : decode cX6_tick 65 = .ok (.aload_n 0, 1) := by decide +kernel
theorem dX6_tick_66 : decode cX6_tick 66 = .ok (.getfield 37, 3) := by decide +kernel
theorem dX6_tick_69 : decode cX6_tick 69 = .ok (.aload_n 0, 1) := by decide +kernel
theorem dX6_tick_70 : decode cX6_tick 70 = .ok (.getfield 140, 3) := by decide +kernel
theorem dX6_tick_73 : decode cX6_tick 73 = .ok (.aload_n 0, 1) := by decide +kernel
theorem dX6_tick_74 : decode cX6_tick 74 = .ok (.getfield 21, 3) := by decide +kernel
theorem dX6_tick_77 : decode cX6_tick 77 = .ok (.invokevirtual 158, 3) := by decide +kernel
theorem dX6_tick_80 : decode cX6_tick 80 = .ok (.invokevirtual 73, 3) := by decide +kernel
theorem dX6_tick_83 : decode cX6_tick 83 = .ok (.pop, 1) := by decide +kernel
theorem dX6_tick_84 : decode cX6_tick 84 = .ok (.aload_n 0, 1) := by decide +kernel
theorem dX6_tick_85 : decode cX6_tick 85 = .ok (.dup, 1) := by decide +kernel
theorem dX6_tick_86 : decode cX6_tick 86 = .ok (.getfield 155, 3) := by decide +kernel
theorem dX6_tick_89 : decode cX6_tick 89 = .ok (.aload_n 0, 1) := by decide +kernel
theorem dX6_tick_90 : decode cX6_tick 90 = .ok (.getfield 21, 3) := by decide +kernel
theorem dX6_tick_93 : decode cX6_tick 93 = .ok (.invokevirtual 162, 3) := by decide +kernel
theorem dX6_tick_96 : decode cX6_tick 96 = .ok (.iadd, 1) := by decide +kernel
theorem dX6_tick_97 : decode cX6_tick 97 = .ok (.putfield 155, 3) := by decide +kernel
theorem dX6_tick_100 : decode cX6_tick 100 = .ok (.aload_n 0, 1) := by decide +kernel
theorem dX6_tick_101 : decode cX6_tick 101 = .ok (.invokevirtual 166, 3) := by decide +kernel
theorem dX6_tick_104 : decode cX6_tick 104 = .ok (.iinc 3 1, 3) := by decide +kernel
theorem dX6_tick_107 : decode cX6_tick 107 = .ok (.goto (-58), 3) := by decide +kernel
theorem dX6_tick_110 : decode cX6_tick 110 = .ok (.aload_n 0, 1) := by decide +kernel
theorem dX6_tick_111 : decode cX6_tick 111 = .ok (.getfield 155, 3) := by decide +kernel
theorem dX6_tick_114 : decode cX6_tick 114 = .ok (.iload_n 2, 1) := by decide +kernel
theorem dX6_tick_115 : decode cX6_tick 115 = .ok (.isub, 1) := by decide +kernel
theorem dX6_tick_116 : decode cX6_tick 116 = .ok (.ireturn, 1) := by decide +kernel
theorem dX6_now_0 : decode cX6_now 0 = .ok (.aload_n 0, 1) := by decide +kernel
theorem dX6_now_1 : decode cX6_now 1 = .ok (.getfield 140, 3) := by decide +kernel
theorem dX6_now_4 : decode cX6_now 4 = .ok (.ireturn, 1) := by decide +kernel
theorem dX6_told_0 : decode cX6_told 0 = .ok (.aload_n 0, 1) := by decide +kernel
theorem dX6_told_1 : decode cX6_told 1 = .ok (.getfield 21, 3) := by decide +kernel
theorem dX6_told_4 : decode cX6_told 4 = .ok (.iload_n 1, 1) := by decide +kernel
theorem dX6_told_5 : decode cX6_told 5 = .ok (.iload_n 2, 1) := by decide +kernel
theorem dX6_told_6 : decode cX6_told 6 = .ok (.invokevirtual 77, 3) := by decide +kernel
theorem dX6_told_9 : decode cX6_told 9 = .ok (.ifCond .ne 13, 3) := by decide +kernel
theorem dX6_told_12 : decode cX6_told 12 = .ok (.new 81, 3) := by decide +kernel
theorem dX6_told_15 : decode cX6_told 15 = .ok (.dup, 1) := by decide +kernel
theorem dX6_told_16 : decode cX6_told 16 = .ok (.ldc 83, 2) := by decide +kernel
theorem dX6_told_18 : decode cX6_told 18 = .ok (.invokespecial 85, 3) := by decide +kernel
theorem dX6_told_21 : decode cX6_told 21 = .ok (.athrow, 1) := by decide +kernel
theorem dX6_told_22 : decode cX6_told 22 = .ok (.iload_n 3, 1) := by decide +kernel
theorem dX6_told_23 : decode cX6_told 23 = .ok (.tableswitch 90 0 4 #[33, 43, 53, 63, 80], 33) := by decide +kernel
theorem dX6_told_56 : decode cX6_told 56 = .ok (.aload_n 0, 1) := by decide +kernel
theorem dX6_told_57 : decode cX6_told 57 = .ok (.getfield 21, 3) := by decide +kernel
theorem dX6_told_60 : decode cX6_told 60 = .ok (.iload_n 1, 1) := by decide +kernel
theorem dX6_told_61 : decode cX6_told 61 = .ok (.iload_n 2, 1) := by decide +kernel
theorem dX6_told_62 : decode cX6_told 62 = .ok (.invokevirtual 176, 3) := by decide +kernel
theorem dX6_told_65 : decode cX6_told 65 = .ok (.ireturn, 1) := by decide +kernel
theorem dX6_told_66 : decode cX6_told 66 = .ok (.aload_n 0, 1) := by decide +kernel
theorem dX6_told_67 : decode cX6_told 67 = .ok (.getfield 21, 3) := by decide +kernel
theorem dX6_told_70 : decode cX6_told 70 = .ok (.iload_n 1, 1) := by decide +kernel
theorem dX6_told_71 : decode cX6_told 71 = .ok (.iload_n 2, 1) := by decide +kernel
theorem dX6_told_72 : decode cX6_told 72 = .ok (.invokevirtual 92, 3) := by decide +kernel
theorem dX6_told_75 : decode cX6_told 75 = .ok (.ireturn, 1) := by decide +kernel
theorem dX6_told_76 : decode cX6_told 76 = .ok (.aload_n 0, 1) := by decide +kernel
theorem dX6_told_77 : decode cX6_told 77 = .ok (.getfield 21, 3) := by decide +kernel
theorem dX6_told_80 : decode cX6_told 80 = .ok (.iload_n 1, 1) := by decide +kernel
theorem dX6_told_81 : decode cX6_told 81 = .ok (.iload_n 2, 1) := by decide +kernel
theorem dX6_told_82 : decode cX6_told 82 = .ok (.invokevirtual 179, 3) := by decide +kernel
theorem dX6_told_85 : decode cX6_told 85 = .ok (.ireturn, 1) := by decide +kernel
theorem dX6_told_86 : decode cX6_told 86 = .ok (.aload_n 0, 1) := by decide +kernel
theorem dX6_told_87 : decode cX6_told 87 = .ok (.getfield 21, 3) := by decide +kernel
theorem dX6_told_90 : decode cX6_told 90 = .ok (.iload_n 1, 1) := by decide +kernel
theorem dX6_told_91 : decode cX6_told 91 = .ok (.iload_n 2, 1) := by decide +kernel
theorem dX6_told_92 : decode cX6_told 92 = .ok (.invokevirtual 176, 3) := by decide +kernel
theorem dX6_told_95 : decode cX6_told 95 = .ok (.aload_n 0, 1) := by decide +kernel
theorem dX6_told_96 : decode cX6_told 96 = .ok (.getfield 48, 3) := by decide +kernel
theorem dX6_told_99 : decode cX6_told 99 = .ok (.invokestatic 182, 3) := by decide +kernel
theorem dX6_told_102 : decode cX6_told 102 = .ok (.ireturn, 1) := by decide +kernel
theorem dX6_told_103 : decode cX6_told 103 = .ok (.aload_n 0, 1) := by decide +kernel
theorem dX6_told_104 : decode cX6_told 104 = .ok (.getfield 21, 3) := by decide +kernel
theorem dX6_told_107 : decode cX6_told 107 = .ok (.iload_n 1, 1) := by decide +kernel
theorem dX6_told_108 : decode cX6_told 108 = .ok (.iload_n 2, 1) := by decide +kernel
theorem dX6_told_109 : decode cX6_told 109 = .ok (.invokevirtual 185, 3) := by decide +kernel
theorem dX6_told_112 : decode cX6_told 112 = .ok (.ireturn, 1) := by decide +kernel
theorem dX6_told_113 : decode cX6_told 113 = .ok (.new 60, 3) := by decide +kernel
theorem dX6_told_116 : decode cX6_told 116 = .ok (.dup, 1) := by decide +kernel
theorem dX6_told_117 : decode cX6_told 117 = .ok (.ldc 188, 2) := by decide +kernel
theorem dX6_told_119 : decode cX6_told 119 = .ok (.invokespecial 64, 3) := by decide +kernel
theorem dX6_told_122 : decode cX6_told 122 = .ok (.athrow, 1) := by decide +kernel
theorem dX6_energy_0 : decode cX6_energy 0 = .ok (.aload_n 0, 1) := by decide +kernel
theorem dX6_energy_1 : decode cX6_energy 1 = .ok (.getfield 21, 3) := by decide +kernel
theorem dX6_energy_4 : decode cX6_energy 4 = .ok (.getfield 190, 3) := by decide +kernel
theorem dX6_energy_7 : decode cX6_energy 7 = .ok (.ireturn, 1) := by decide +kernel
theorem dX6_energyAnew_0 : decode cX6_energyAnew 0 = .ok (.aload_n 0, 1) := by decide +kernel
theorem dX6_energyAnew_1 : decode cX6_energyAnew 1 = .ok (.getfield 21, 3) := by decide +kernel
theorem dX6_energyAnew_4 : decode cX6_energyAnew 4 = .ok (.invokevirtual 193, 3) := by decide +kernel
theorem dX6_energyAnew_7 : decode cX6_energyAnew 7 = .ok (.ireturn, 1) := by decide +kernel
theorem dX6_spent_0 : decode cX6_spent 0 = .ok (.iload_n 1, 1) := by decide +kernel
theorem dX6_spent_1 : decode cX6_spent 1 = .ok (.ifCond .eq 10, 3) := by decide +kernel
theorem dX6_spent_4 : decode cX6_spent 4 = .ok (.aload_n 0, 1) := by decide +kernel
theorem dX6_spent_5 : decode cX6_spent 5 = .ok (.getfield 155, 3) := by decide +kernel
theorem dX6_spent_8 : decode cX6_spent 8 = .ok (.goto 7, 3) := by decide +kernel
theorem dX6_spent_11 : decode cX6_spent 11 = .ok (.aload_n 0, 1) := by decide +kernel
theorem dX6_spent_12 : decode cX6_spent 12 = .ok (.getfield 196, 3) := by decide +kernel
theorem dX6_spent_15 : decode cX6_spent 15 = .ok (.ireturn, 1) := by decide +kernel
theorem dX6_winding_0 : decode cX6_winding 0 = .ok (.aload_n 0, 1) := by decide +kernel
theorem dX6_winding_1 : decode cX6_winding 1 = .ok (.getfield 30, 3) := by decide +kernel
theorem dX6_winding_4 : decode cX6_winding 4 = .ok (.iload_n 1, 1) := by decide +kernel
theorem dX6_winding_5 : decode cX6_winding 5 = .ok (.iload_n 2, 1) := by decide +kernel
theorem dX6_winding_6 : decode cX6_winding 6 = .ok (.invokevirtual 203, 3) := by decide +kernel
theorem dX6_winding_9 : decode cX6_winding 9 = .ok (.ifCond .ne 13, 3) := by decide +kernel
theorem dX6_winding_12 : decode cX6_winding 12 = .ok (.new 81, 3) := by decide +kernel
theorem dX6_winding_15 : decode cX6_winding 15 = .ok (.dup, 1) := by decide +kernel
theorem dX6_winding_16 : decode cX6_winding 16 = .ok (.ldc 204, 2) := by decide +kernel
theorem dX6_winding_18 : decode cX6_winding 18 = .ok (.invokespecial 85, 3) := by decide +kernel
theorem dX6_winding_21 : decode cX6_winding 21 = .ok (.athrow, 1) := by decide +kernel
theorem dX6_winding_22 : decode cX6_winding 22 = .ok (.aload_n 0, 1) := by decide +kernel
theorem dX6_winding_23 : decode cX6_winding 23 = .ok (.getfield 30, 3) := by decide +kernel
theorem dX6_winding_26 : decode cX6_winding 26 = .ok (.iload_n 1, 1) := by decide +kernel
theorem dX6_winding_27 : decode cX6_winding 27 = .ok (.iload_n 2, 1) := by decide +kernel
theorem dX6_winding_28 : decode cX6_winding 28 = .ok (.invokevirtual 206, 3) := by decide +kernel
theorem dX6_winding_31 : decode cX6_winding 31 = .ok (.ireturn, 1) := by decide +kernel
theorem dX6_within_0 : decode cX6_within 0 = .ok (.aload_n 0, 1) := by decide +kernel
theorem dX6_within_1 : decode cX6_within 1 = .ok (.getfield 21, 3) := by decide +kernel
theorem dX6_within_4 : decode cX6_within 4 = .ok (.iload_n 1, 1) := by decide +kernel
theorem dX6_within_5 : decode cX6_within 5 = .ok (.iload_n 2, 1) := by decide +kernel
theorem dX6_within_6 : decode cX6_within 6 = .ok (.invokevirtual 77, 3) := by decide +kernel
theorem dX6_within_9 : decode cX6_within 9 = .ok (.ifCond .eq 16, 3) := by decide +kernel
theorem dX6_within_12 : decode cX6_within 12 = .ok (.aload_n 0, 1) := by decide +kernel
theorem dX6_within_13 : decode cX6_within 13 = .ok (.getfield 21, 3) := by decide +kernel
theorem dX6_within_16 : decode cX6_within 16 = .ok (.iload_n 3, 1) := by decide +kernel
theorem dX6_within_17 : decode cX6_within 17 = .ok (.iload 4, 2) := by decide +kernel
theorem dX6_within_19 : decode cX6_within 19 = .ok (.invokevirtual 77, 3) := by decide +kernel
theorem dX6_within_22 : decode cX6_within 22 = .ok (.ifCond .ne 13, 3) := by decide +kernel
theorem dX6_within_25 : decode cX6_within 25 = .ok (.new 81, 3) := by decide +kernel
theorem dX6_within_28 : decode cX6_within 28 = .ok (.dup, 1) := by decide +kernel
theorem dX6_within_29 : decode cX6_within 29 = .ok (.ldc 83, 2) := by decide +kernel
theorem dX6_within_31 : decode cX6_within 31 = .ok (.invokespecial 85, 3) := by decide +kernel
theorem dX6_within_34 : decode cX6_within 34 = .ok (.athrow, 1) := by decide +kernel
theorem dX6_within_35 : decode cX6_within 35 = .ok (.iload_n 3, 1) := by decide +kernel
theorem dX6_within_36 : decode cX6_within 36 = .ok (.iload_n 1, 1) := by decide +kernel
theorem dX6_within_37 : decode cX6_within 37 = .ok (.if_icmp .le 9, 3) := by decide +kernel
theorem dX6_within_40 : decode cX6_within 40 = .ok (.iload 4, 2) := by decide +kernel
theorem dX6_within_42 : decode cX6_within 42 = .ok (.iload_n 2, 1) := by decide +kernel
theorem dX6_within_43 : decode cX6_within 43 = .ok (.if_icmp .gt 13, 3) := by decide +kernel
theorem dX6_within_46 : decode cX6_within 46 = .ok (.new 60, 3) := by decide +kernel
theorem dX6_within_49 : decode cX6_within 49 = .ok (.dup, 1) := by decide +kernel
theorem dX6_within_50 : decode cX6_within 50 = .ok (.ldc 209, 2) := by decide +kernel
theorem dX6_within_52 : decode cX6_within 52 = .ok (.invokespecial 64, 3) := by decide +kernel
theorem dX6_within_55 : decode cX6_within 55 = .ok (.athrow, 1) := by decide +kernel
theorem dX6_within_56 : decode cX6_within 56 = .ok (.aload_n 0, 1) := by decide +kernel
theorem dX6_within_57 : decode cX6_within 57 = .ok (.getfield 30, 3) := by decide +kernel
theorem dX6_within_60 : decode cX6_within 60 = .ok (.iload_n 1, 1) := by decide +kernel
theorem dX6_within_61 : decode cX6_within 61 = .ok (.iload_n 2, 1) := by decide +kernel
theorem dX6_within_62 : decode cX6_within 62 = .ok (.iload_n 3, 1) := by decide +kernel
theorem dX6_within_63 : decode cX6_within 63 = .ok (.iload 4, 2) := by decide +kernel
theorem dX6_within_65 : decode cX6_within 65 = .ok (.invokevirtual 211, 3) := by decide +kernel
theorem dX6_within_68 : decode cX6_within 68 = .ok (.ireturn, 1) := by decide +kernel
theorem dX6_border_0 : decode cX6_border 0 = .ok (.aload_n 0, 1) := by decide +kernel
theorem dX6_border_1 : decode cX6_border 1 = .ok (.getfield 21, 3) := by decide +kernel
theorem dX6_border_4 : decode cX6_border 4 = .ok (.iload_n 1, 1) := by decide +kernel
theorem dX6_border_5 : decode cX6_border 5 = .ok (.iload_n 2, 1) := by decide +kernel
theorem dX6_border_6 : decode cX6_border 6 = .ok (.invokevirtual 77, 3) := by decide +kernel
theorem dX6_border_9 : decode cX6_border 9 = .ok (.ifCond .eq 16, 3) := by decide +kernel
theorem dX6_border_12 : decode cX6_border 12 = .ok (.aload_n 0, 1) := by decide +kernel
theorem dX6_border_13 : decode cX6_border 13 = .ok (.getfield 21, 3) := by decide +kernel
theorem dX6_border_16 : decode cX6_border 16 = .ok (.iload_n 3, 1) := by decide +kernel
theorem dX6_border_17 : decode cX6_border 17 = .ok (.iload 4, 2) := by decide +kernel
theorem dX6_border_19 : decode cX6_border 19 = .ok (.invokevirtual 77, 3) := by decide +kernel
theorem dX6_border_22 : decode cX6_border 22 = .ok (.ifCond .ne 13, 3) := by decide +kernel
theorem dX6_border_25 : decode cX6_border 25 = .ok (.new 81, 3) := by decide +kernel
theorem dX6_border_28 : decode cX6_border 28 = .ok (.dup, 1) := by decide +kernel
theorem dX6_border_29 : decode cX6_border 29 = .ok (.ldc 83, 2) := by decide +kernel
theorem dX6_border_31 : decode cX6_border 31 = .ok (.invokespecial 85, 3) := by decide +kernel
theorem dX6_border_34 : decode cX6_border 34 = .ok (.athrow, 1) := by decide +kernel
theorem dX6_border_35 : decode cX6_border 35 = .ok (.iload_n 3, 1) := by decide +kernel
theorem dX6_border_36 : decode cX6_border 36 = .ok (.iload_n 1, 1) := by decide +kernel
theorem dX6_border_37 : decode cX6_border 37 = .ok (.if_icmp .le 9, 3) := by decide +kernel
theorem dX6_border_40 : decode cX6_border 40 = .ok (.iload 4, 2) := by decide +kernel
theorem dX6_border_42 : decode cX6_border 42 = .ok (.iload_n 2, 1) := by decide +kernel
theorem dX6_border_43 : decode cX6_border 43 = .ok (.if_icmp .gt 13, 3) := by decide +kernel
theorem dX6_border_46 : decode cX6_border 46 = .ok (.new 60, 3) := by decide +kernel
theorem dX6_border_49 : decode cX6_border 49 = .ok (.dup, 1) := by decide +kernel
theorem dX6_border_50 : decode cX6_border 50 = .ok (.ldc 209, 2) := by decide +kernel
theorem dX6_border_52 : decode cX6_border 52 = .ok (.invokespecial 64, 3) := by decide +kernel
theorem dX6_border_55 : decode cX6_border 55 = .ok (.athrow, 1) := by decide +kernel
theorem dX6_border_56 : decode cX6_border 56 = .ok (.aload_n 0, 1) := by decide +kernel
theorem dX6_border_57 : decode cX6_border 57 = .ok (.getfield 30, 3) := by decide +kernel
theorem dX6_border_60 : decode cX6_border 60 = .ok (.iload_n 1, 1) := by decide +kernel
theorem dX6_border_61 : decode cX6_border 61 = .ok (.iload_n 2, 1) := by decide +kernel
theorem dX6_border_62 : decode cX6_border 62 = .ok (.iload_n 3, 1) := by decide +kernel
theorem dX6_border_63 : decode cX6_border 63 = .ok (.iload 4, 2) := by decide +kernel
theorem dX6_border_65 : decode cX6_border 65 = .ok (.invokevirtual 213, 3) := by decide +kernel
theorem dX6_border_68 : decode cX6_border 68 = .ok (.ireturn, 1) := by decide +kernel
theorem dX6_defects_0 : decode cX6_defects 0 = .ok (.aload_n 0, 1) := by decide +kernel
theorem dX6_defects_1 : decode cX6_defects 1 = .ok (.getfield 30, 3) := by decide +kernel
theorem dX6_defects_4 : decode cX6_defects 4 = .ok (.invokevirtual 216, 3) := by decide +kernel
theorem dX6_defects_7 : decode cX6_defects 7 = .ok (.ireturn, 1) := by decide +kernel
theorem dX6_defect_0 : decode cX6_defect 0 = .ok (.aload_n 0, 1) := by decide +kernel
theorem dX6_defect_1 : decode cX6_defect 1 = .ok (.getfield 30, 3) := by decide +kernel
theorem dX6_defect_4 : decode cX6_defect 4 = .ok (.iload_n 1, 1) := by decide +kernel
theorem dX6_defect_5 : decode cX6_defect 5 = .ok (.invokevirtual 218, 3) := by decide +kernel
theorem dX6_defect_8 : decode cX6_defect 8 = .ok (.istore_n 3, 1) := by decide +kernel
theorem dX6_defect_9 : decode cX6_defect 9 = .ok (.iload_n 3, 1) := by decide +kernel
theorem dX6_defect_10 : decode cX6_defect 10 = .ok (.iconst (-1), 1) := by decide +kernel
theorem dX6_defect_11 : decode cX6_defect 11 = .ok (.if_icmp .ne 13, 3) := by decide +kernel
theorem dX6_defect_14 : decode cX6_defect 14 = .ok (.new 81, 3) := by decide +kernel
theorem dX6_defect_17 : decode cX6_defect 17 = .ok (.dup, 1) := by decide +kernel
theorem dX6_defect_18 : decode cX6_defect 18 = .ok (.ldc 221, 2) := by decide +kernel
theorem dX6_defect_20 : decode cX6_defect 20 = .ok (.invokespecial 85, 3) := by decide +kernel
theorem dX6_defect_23 : decode cX6_defect 23 = .ok (.athrow, 1) := by decide +kernel
theorem dX6_defect_24 : decode cX6_defect 24 = .ok (.iload_n 3, 1) := by decide +kernel
theorem dX6_defect_25 : decode cX6_defect 25 = .ok (.bipush 12, 2) := by decide +kernel
theorem dX6_defect_27 : decode cX6_defect 27 = .ok (.irem, 1) := by decide +kernel
theorem dX6_defect_28 : decode cX6_defect 28 = .ok (.istore 4, 2) := by decide +kernel
theorem dX6_defect_30 : decode cX6_defect 30 = .ok (.iload_n 3, 1) := by decide +kernel
theorem dX6_defect_31 : decode cX6_defect 31 = .ok (.bipush 12, 2) := by decide +kernel
theorem dX6_defect_33 : decode cX6_defect 33 = .ok (.idiv, 1) := by decide +kernel
theorem dX6_defect_34 : decode cX6_defect 34 = .ok (.istore 5, 2) := by decide +kernel
theorem dX6_defect_36 : decode cX6_defect 36 = .ok (.iload_n 2, 1) := by decide +kernel
theorem dX6_defect_37 : decode cX6_defect 37 = .ok (.tableswitch 45 0 2 #[27, 30, 33], 27) := by decide +kernel
theorem dX6_defect_64 : decode cX6_defect 64 = .ok (.iload 4, 2) := by decide +kernel
theorem dX6_defect_66 : decode cX6_defect 66 = .ok (.ireturn, 1) := by decide +kernel
theorem dX6_defect_67 : decode cX6_defect 67 = .ok (.iload 5, 2) := by decide +kernel
theorem dX6_defect_69 : decode cX6_defect 69 = .ok (.ireturn, 1) := by decide +kernel
theorem dX6_defect_70 : decode cX6_defect 70 = .ok (.aload_n 0, 1) := by decide +kernel
theorem dX6_defect_71 : decode cX6_defect 71 = .ok (.getfield 30, 3) := by decide +kernel
theorem dX6_defect_74 : decode cX6_defect 74 = .ok (.iload 4, 2) := by decide +kernel
theorem dX6_defect_76 : decode cX6_defect 76 = .ok (.iload 5, 2) := by decide +kernel
theorem dX6_defect_78 : decode cX6_defect 78 = .ok (.invokevirtual 206, 3) := by decide +kernel
theorem dX6_defect_81 : decode cX6_defect 81 = .ok (.ireturn, 1) := by decide +kernel
theorem dX6_defect_82 : decode cX6_defect 82 = .ok (.new 60, 3) := by decide +kernel
theorem dX6_defect_85 : decode cX6_defect 85 = .ok (.dup, 1) := by decide +kernel
theorem dX6_defect_86 : decode cX6_defect 86 = .ok (.ldc 223, 2) := by decide +kernel
theorem dX6_defect_88 : decode cX6_defect 88 = .ok (.invokespecial 64, 3) := by decide +kernel
theorem dX6_defect_91 : decode cX6_defect 91 = .ok (.athrow, 1) := by decide +kernel
theorem dX6_ofPixel_0 : decode cX6_ofPixel 0 = .ok (.aload_n 0, 1) := by decide +kernel
theorem dX6_ofPixel_1 : decode cX6_ofPixel 1 = .ok (.getfield 12, 3) := by decide +kernel
theorem dX6_ofPixel_4 : decode cX6_ofPixel 4 = .ok (.iload_n 1, 1) := by decide +kernel
theorem dX6_ofPixel_5 : decode cX6_ofPixel 5 = .ok (.invokevirtual 131, 3) := by decide +kernel
theorem dX6_ofPixel_8 : decode cX6_ofPixel 8 = .ok (.ifCond .ne 13, 3) := by decide +kernel
theorem dX6_ofPixel_11 : decode cX6_ofPixel 11 = .ok (.new 81, 3) := by decide +kernel
theorem dX6_ofPixel_14 : decode cX6_ofPixel 14 = .ok (.dup, 1) := by decide +kernel
theorem dX6_ofPixel_15 : decode cX6_ofPixel 15 = .ok (.ldc 133, 2) := by decide +kernel
theorem dX6_ofPixel_17 : decode cX6_ofPixel 17 = .ok (.invokespecial 85, 3) := by decide +kernel
theorem dX6_ofPixel_20 : decode cX6_ofPixel 20 = .ok (.athrow, 1) := by decide +kernel
theorem dX6_ofPixel_21 : decode cX6_ofPixel 21 = .ok (.iload_n 2, 1) := by decide +kernel
theorem dX6_ofPixel_22 : decode cX6_ofPixel 22 = .ok (.tableswitch 91 0 4 #[34, 47, 56, 73, 82], 34) := by decide +kernel
theorem dX6_ofPixel_56 : decode cX6_ofPixel 56 = .ok (.aload_n 0, 1) := by decide +kernel
theorem dX6_ofPixel_57 : decode cX6_ofPixel 57 = .ok (.getfield 21, 3) := by decide +kernel
theorem dX6_ofPixel_60 : decode cX6_ofPixel 60 = .ok (.iload_n 1, 1) := by decide +kernel
theorem dX6_ofPixel_61 : decode cX6_ofPixel 61 = .ok (.aload_n 0, 1) := by decide +kernel
theorem dX6_ofPixel_62 : decode cX6_ofPixel 62 = .ok (.getfield 48, 3) := by decide +kernel
theorem dX6_ofPixel_65 : decode cX6_ofPixel 65 = .ok (.invokevirtual 225, 3) := by decide +kernel
theorem dX6_ofPixel_68 : decode cX6_ofPixel 68 = .ok (.ireturn, 1) := by decide +kernel
theorem dX6_ofPixel_69 : decode cX6_ofPixel 69 = .ok (.aload_n 0, 1) := by decide +kernel
theorem dX6_ofPixel_70 : decode cX6_ofPixel 70 = .ok (.getfield 12, 3) := by decide +kernel
theorem dX6_ofPixel_73 : decode cX6_ofPixel 73 = .ok (.iload_n 1, 1) := by decide +kernel
theorem dX6_ofPixel_74 : decode cX6_ofPixel 74 = .ok (.invokevirtual 228, 3) := by decide +kernel
theorem dX6_ofPixel_77 : decode cX6_ofPixel 77 = .ok (.ireturn, 1) := by decide +kernel
theorem dX6_ofPixel_78 : decode cX6_ofPixel 78 = .ok (.aload_n 0, 1) := by decide +kernel
theorem dX6_ofPixel_79 : decode cX6_ofPixel 79 = .ok (.getfield 30, 3) := by decide +kernel
theorem dX6_ofPixel_82 : decode cX6_ofPixel 82 = .ok (.iload_n 1, 1) := by decide +kernel
theorem dX6_ofPixel_83 : decode cX6_ofPixel 83 = .ok (.invokevirtual 231, 3) := by decide +kernel
theorem dX6_ofPixel_86 : decode cX6_ofPixel 86 = .ok (.ifCond .eq 7, 3) := by decide +kernel
theorem dX6_ofPixel_89 : decode cX6_ofPixel 89 = .ok (.iconst 1, 1) := by decide +kernel
theorem dX6_ofPixel_90 : decode cX6_ofPixel 90 = .ok (.goto 4, 3) := by decide +kernel
theorem dX6_ofPixel_93 : decode cX6_ofPixel 93 = .ok (.iconst 0, 1) := by decide +kernel
theorem dX6_ofPixel_94 : decode cX6_ofPixel 94 = .ok (.ireturn, 1) := by decide +kernel
theorem dX6_ofPixel_95 : decode cX6_ofPixel 95 = .ok (.aload_n 0, 1) := by decide +kernel
theorem dX6_ofPixel_96 : decode cX6_ofPixel 96 = .ok (.getfield 12, 3) := by decide +kernel
theorem dX6_ofPixel_99 : decode cX6_ofPixel 99 = .ok (.iload_n 1, 1) := by decide +kernel
theorem dX6_ofPixel_100 : decode cX6_ofPixel 100 = .ok (.invokevirtual 234, 3) := by decide +kernel
theorem dX6_ofPixel_103 : decode cX6_ofPixel 103 = .ok (.ireturn, 1) := by decide +kernel
theorem dX6_ofPixel_104 : decode cX6_ofPixel 104 = .ok (.aload_n 0, 1) := by decide +kernel
theorem dX6_ofPixel_105 : decode cX6_ofPixel 105 = .ok (.getfield 12, 3) := by decide +kernel
theorem dX6_ofPixel_108 : decode cX6_ofPixel 108 = .ok (.iload_n 1, 1) := by decide +kernel
theorem dX6_ofPixel_109 : decode cX6_ofPixel 109 = .ok (.invokevirtual 237, 3) := by decide +kernel
theorem dX6_ofPixel_112 : decode cX6_ofPixel 112 = .ok (.ireturn, 1) := by decide +kernel
theorem dX6_ofPixel_113 : decode cX6_ofPixel 113 = .ok (.new 60, 3) := by decide +kernel
theorem dX6_ofPixel_116 : decode cX6_ofPixel 116 = .ok (.dup, 1) := by decide +kernel
theorem dX6_ofPixel_117 : decode cX6_ofPixel 117 = .ok (.ldc 188, 2) := by decide +kernel
theorem dX6_ofPixel_119 : decode cX6_ofPixel 119 = .ok (.invokespecial 64, 3) := by decide +kernel
theorem dX6_ofPixel_122 : decode cX6_ofPixel 122 = .ok (.athrow, 1) := by decide +kernel
theorem dX6_beginAnew_0 : decode cX6_beginAnew 0 = .ok (.aload_n 0, 1) := by decide +kernel
theorem dX6_beginAnew_1 : decode cX6_beginAnew 1 = .ok (.getfield 21, 3) := by decide +kernel
theorem dX6_beginAnew_4 : decode cX6_beginAnew 4 = .ok (.iload_n 1, 1) := by decide +kernel
theorem dX6_beginAnew_5 : decode cX6_beginAnew 5 = .ok (.iload_n 2, 1) := by decide +kernel
theorem dX6_beginAnew_6 : decode cX6_beginAnew 6 = .ok (.invokevirtual 254, 3) := by decide +kernel
theorem dX6_beginAnew_9 : decode cX6_beginAnew 9 = .ok (.aload_n 0, 1) := by decide +kernel
theorem dX6_beginAnew_10 : decode cX6_beginAnew 10 = .ok (.getfield 12, 3) := by decide +kernel
theorem dX6_beginAnew_13 : decode cX6_beginAnew 13 = .ok (.iconst 0, 1) := by decide +kernel
theorem dX6_beginAnew_14 : decode cX6_beginAnew 14 = .ok (.putfield 114, 3) := by decide +kernel
theorem dX6_beginAnew_17 : decode cX6_beginAnew 17 = .ok (.aload_n 0, 1) := by decide +kernel
theorem dX6_beginAnew_18 : decode cX6_beginAnew 18 = .ok (.getfield 37, 3) := by decide +kernel
theorem dX6_beginAnew_21 : decode cX6_beginAnew 21 = .ok (.iconst 0, 1) := by decide +kernel
theorem dX6_beginAnew_22 : decode cX6_beginAnew 22 = .ok (.putfield 145, 3) := by decide +kernel
theorem dX6_beginAnew_25 : decode cX6_beginAnew 25 = .ok (.aload_n 0, 1) := by decide +kernel
theorem dX6_beginAnew_26 : decode cX6_beginAnew 26 = .ok (.getfield 44, 3) := by decide +kernel
theorem dX6_beginAnew_29 : decode cX6_beginAnew 29 = .ok (.iconst 0, 1) := by decide +kernel
theorem dX6_beginAnew_30 : decode cX6_beginAnew 30 = .ok (.putfield 169, 3) := by decide +kernel
theorem dX6_beginAnew_33 : decode cX6_beginAnew 33 = .ok (.aload_n 0, 1) := by decide +kernel
theorem dX6_beginAnew_34 : decode cX6_beginAnew 34 = .ok (.iconst 0, 1) := by decide +kernel
theorem dX6_beginAnew_35 : decode cX6_beginAnew 35 = .ok (.putfield 140, 3) := by decide +kernel
theorem dX6_beginAnew_38 : decode cX6_beginAnew 38 = .ok (.aload_n 0, 1) := by decide +kernel
theorem dX6_beginAnew_39 : decode cX6_beginAnew 39 = .ok (.iconst 0, 1) := by decide +kernel
theorem dX6_beginAnew_40 : decode cX6_beginAnew 40 = .ok (.putfield 196, 3) := by decide +kernel
theorem dX6_beginAnew_43 : decode cX6_beginAnew 43 = .ok (.aload_n 0, 1) := by decide +kernel
theorem dX6_beginAnew_44 : decode cX6_beginAnew 44 = .ok (.iconst 0, 1) := by decide +kernel
theorem dX6_beginAnew_45 : decode cX6_beginAnew 45 = .ok (.putfield 155, 3) := by decide +kernel
theorem dX6_beginAnew_48 : decode cX6_beginAnew 48 = .ok (.return_, 1) := by decide +kernel
theorem dX6_worked_0 : decode cX6_worked 0 = .ok (.aload_n 0, 1) := by decide +kernel
theorem dX6_worked_1 : decode cX6_worked 1 = .ok (.dup, 1) := by decide +kernel
theorem dX6_worked_2 : decode cX6_worked 2 = .ok (.getfield 196, 3) := by decide +kernel
theorem dX6_worked_5 : decode cX6_worked 5 = .ok (.iload_n 1, 1) := by decide +kernel
theorem dX6_worked_6 : decode cX6_worked 6 = .ok (.iadd, 1) := by decide +kernel
theorem dX6_worked_7 : decode cX6_worked 7 = .ok (.putfield 196, 3) := by decide +kernel
theorem dX6_worked_10 : decode cX6_worked 10 = .ok (.iload_n 1, 1) := by decide +kernel
theorem dX6_worked_11 : decode cX6_worked 11 = .ok (.ireturn, 1) := by decide +kernel
theorem dX6_noteGreys_0 : decode cX6_noteGreys 0 = .ok (.iconst 0, 1) := by decide +kernel
theorem dX6_noteGreys_1 : decode cX6_noteGreys 1 = .ok (.istore_n 1, 1) := by decide +kernel
theorem dX6_noteGreys_2 : decode cX6_noteGreys 2 = .ok (.iload_n 1, 1) := by decide +kernel
theorem dX6_noteGreys_3 : decode cX6_noteGreys 3 = .ok (.aload_n 0, 1) := by decide +kernel
theorem dX6_noteGreys_4 : decode cX6_noteGreys 4 = .ok (.getfield 12, 3) := by decide +kernel
theorem dX6_noteGreys_7 : decode cX6_noteGreys 7 = .ok (.getfield 114, 3) := by decide +kernel
theorem dX6_noteGreys_10 : decode cX6_noteGreys 10 = .ok (.if_icmp .ge 29, 3) := by decide +kernel
theorem dX6_noteGreys_13 : decode cX6_noteGreys 13 = .ok (.aload_n 0, 1) := by decide +kernel
theorem dX6_noteGreys_14 : decode cX6_noteGreys 14 = .ok (.getfield 12, 3) := by decide +kernel
theorem dX6_noteGreys_17 : decode cX6_noteGreys 17 = .ok (.iload_n 1, 1) := by decide +kernel
theorem dX6_noteGreys_18 : decode cX6_noteGreys 18 = .ok (.aload_n 0, 1) := by decide +kernel
theorem dX6_noteGreys_19 : decode cX6_noteGreys 19 = .ok (.getfield 21, 3) := by decide +kernel
theorem dX6_noteGreys_22 : decode cX6_noteGreys 22 = .ok (.iload_n 1, 1) := by decide +kernel
theorem dX6_noteGreys_23 : decode cX6_noteGreys 23 = .ok (.aload_n 0, 1) := by decide +kernel
theorem dX6_noteGreys_24 : decode cX6_noteGreys 24 = .ok (.getfield 48, 3) := by decide +kernel
theorem dX6_noteGreys_27 : decode cX6_noteGreys 27 = .ok (.invokevirtual 225, 3) := by decide +kernel
theorem dX6_noteGreys_30 : decode cX6_noteGreys 30 = .ok (.invokevirtual 257, 3) := by decide +kernel
theorem dX6_noteGreys_33 : decode cX6_noteGreys 33 = .ok (.iinc 1 1, 3) := by decide +kernel
theorem dX6_noteGreys_36 : decode cX6_noteGreys 36 = .ok (.goto (-34), 3) := by decide +kernel
theorem dX6_noteGreys_39 : decode cX6_noteGreys 39 = .ok (.return_, 1) := by decide +kernel
theorem dX6_isIn_0 : decode cX6_isIn 0 = .ok (.iload_n 0, 1) := by decide +kernel
theorem dX6_isIn_1 : decode cX6_isIn 1 = .ok (.iload_n 1, 1) := by decide +kernel
theorem dX6_isIn_2 : decode cX6_isIn 2 = .ok (.if_icmp .lt 12, 3) := by decide +kernel
theorem dX6_isIn_5 : decode cX6_isIn 5 = .ok (.iload_n 0, 1) := by decide +kernel
theorem dX6_isIn_6 : decode cX6_isIn 6 = .ok (.iload_n 2, 1) := by decide +kernel
theorem dX6_isIn_7 : decode cX6_isIn 7 = .ok (.if_icmp .gt 7, 3) := by decide +kernel
theorem dX6_isIn_10 : decode cX6_isIn 10 = .ok (.iconst 1, 1) := by decide +kernel
theorem dX6_isIn_11 : decode cX6_isIn 11 = .ok (.goto 4, 3) := by decide +kernel
theorem dX6_isIn_14 : decode cX6_isIn 14 = .ok (.iconst 0, 1) := by decide +kernel
theorem dX6_isIn_15 : decode cX6_isIn 15 = .ok (.ireturn, 1) := by decide +kernel
theorem dX6_isDirection_0 : decode cX6_isDirection 0 = .ok (.iload_n 0, 1) := by decide +kernel
theorem dX6_isDirection_1 : decode cX6_isDirection 1 = .ok (.iconst 0, 1) := by decide +kernel
theorem dX6_isDirection_2 : decode cX6_isDirection 2 = .ok (.bipush 14, 2) := by decide +kernel
theorem dX6_isDirection_4 : decode cX6_isDirection 4 = .ok (.invokestatic 56, 3) := by decide +kernel
theorem dX6_isDirection_7 : decode cX6_isDirection 7 = .ok (.ireturn, 1) := by decide +kernel
theorem dX6_onFrom_0 : decode cX6_onFrom 0 = .ok (.iload_n 1, 1) := by decide +kernel
theorem dX6_onFrom_1 : decode cX6_onFrom 1 = .ok (.iload_n 0, 1) := by decide +kernel
theorem dX6_onFrom_2 : decode cX6_onFrom 2 = .ok (.isub, 1) := by decide +kernel
theorem dX6_onFrom_3 : decode cX6_onFrom 3 = .ok (.bipush 7, 2) := by decide +kernel
theorem dX6_onFrom_5 : decode cX6_onFrom 5 = .ok (.iadd, 1) := by decide +kernel
theorem dX6_onFrom_6 : decode cX6_onFrom 6 = .ok (.bipush 15, 2) := by decide +kernel
theorem dX6_onFrom_8 : decode cX6_onFrom 8 = .ok (.iadd, 1) := by decide +kernel
theorem dX6_onFrom_9 : decode cX6_onFrom 9 = .ok (.bipush 15, 2) := by decide +kernel
theorem dX6_onFrom_11 : decode cX6_onFrom 11 = .ok (.irem, 1) := by decide +kernel
theorem dX6_onFrom_12 : decode cX6_onFrom 12 = .ok (.bipush 7, 2) := by decide +kernel
theorem dX6_onFrom_14 : decode cX6_onFrom 14 = .ok (.isub, 1) := by decide +kernel
theorem dX6_onFrom_15 : decode cX6_onFrom 15 = .ok (.ireturn, 1) := by decide +kernel
theorem dX6_squareApart_0 : decode cX6_squareApart 0 = .ok (.iload_n 0, 1) := by decide +kernel
theorem dX6_squareApart_1 : decode cX6_squareApart 1 = .ok (.iload_n 1, 1) := by decide +kernel
theorem dX6_squareApart_2 : decode cX6_squareApart 2 = .ok (.invokestatic 260, 3) := by decide +kernel
theorem dX6_squareApart_5 : decode cX6_squareApart 5 = .ok (.istore_n 2, 1) := by decide +kernel
theorem dX6_squareApart_6 : decode cX6_squareApart 6 = .ok (.iload_n 2, 1) := by decide +kernel
theorem dX6_squareApart_7 : decode cX6_squareApart 7 = .ok (.iload_n 2, 1) := by decide +kernel
theorem dX6_squareApart_8 : decode cX6_squareApart 8 = .ok (.imul, 1) := by decide +kernel
theorem dX6_squareApart_9 : decode cX6_squareApart 9 = .ok (.ireturn, 1) := by decide +kernel
theorem dX6_greyOf_0 : decode cX6_greyOf 0 = .ok (.iload_n 1, 1) := by decide +kernel
theorem dX6_greyOf_1 : decode cX6_greyOf 1 = .ok (.iload_n 0, 1) := by decide +kernel
theorem dX6_greyOf_2 : decode cX6_greyOf 2 = .ok (.invokestatic 260, 3) := by decide +kernel
theorem dX6_greyOf_5 : decode cX6_greyOf 5 = .ok (.invokestatic 263, 3) := by decide +kernel
theorem dX6_greyOf_8 : decode cX6_greyOf 8 = .ok (.istore_n 2, 1) := by decide +kernel
theorem dX6_greyOf_9 : decode cX6_greyOf 9 = .ok (.iload_n 2, 1) := by decide +kernel
theorem dX6_greyOf_10 : decode cX6_greyOf 10 = .ok (.ifCond .lt 19, 3) := by decide +kernel
theorem dX6_greyOf_13 : decode cX6_greyOf 13 = .ok (.iload_n 2, 1) := by decide +kernel
theorem dX6_greyOf_14 : decode cX6_greyOf 14 = .ok (.getstatic 268, 3) := by decide +kernel
theorem dX6_greyOf_17 : decode cX6_greyOf 17 = .ok (.arraylength, 1) := by decide +kernel
theorem dX6_greyOf_18 : decode cX6_greyOf 18 = .ok (.if_icmp .ge 11, 3) := by decide +kernel
theorem dX6_greyOf_21 : decode cX6_greyOf 21 = .ok (.getstatic 268, 3) := by decide +kernel
theorem dX6_greyOf_24 : decode cX6_greyOf 24 = .ok (.iload_n 2, 1) := by decide +kernel
theorem dX6_greyOf_25 : decode cX6_greyOf 25 = .ok (.iaload, 1) := by decide +kernel
theorem dX6_greyOf_26 : decode cX6_greyOf 26 = .ok (.goto 4, 3) := by decide +kernel
theorem dX6_greyOf_29 : decode cX6_greyOf 29 = .ok (.iconst 0, 1) := by decide +kernel
theorem dX6_greyOf_30 : decode cX6_greyOf 30 = .ok (.ireturn, 1) := by decide +kernel
theorem dX6_numberOf_0 : decode cX6_numberOf 0 = .ok (.iload_n 1, 1) := by decide +kernel
theorem dX6_numberOf_1 : decode cX6_numberOf 1 = .ok (.bipush 12, 2) := by decide +kernel
theorem dX6_numberOf_3 : decode cX6_numberOf 3 = .ok (.imul, 1) := by decide +kernel
theorem dX6_numberOf_4 : decode cX6_numberOf 4 = .ok (.iload_n 0, 1) := by decide +kernel
theorem dX6_numberOf_5 : decode cX6_numberOf 5 = .ok (.iadd, 1) := by decide +kernel
theorem dX6_numberOf_6 : decode cX6_numberOf 6 = .ok (.ireturn, 1) := by decide +kernel
