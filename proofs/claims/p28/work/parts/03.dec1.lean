theorem dX0_init_0 : decode cX0_init 0 = .ok (.aload_n 0, 1) := by decide +kernel
theorem dX0_init_1 : decode cX0_init 1 = .ok (.invokespecial 3, 3) := by decide +kernel
theorem dX0_init_4 : decode cX0_init 4 = .ok (.aload_n 0, 1) := by decide +kernel
theorem dX0_init_5 : decode cX0_init 5 = .ok (.new 9, 3) := by decide +kernel
theorem dX0_init_8 : decode cX0_init 8 = .ok (.dup, 1) := by decide +kernel
theorem dX0_init_9 : decode cX0_init 9 = .ok (.bipush 40, 2) := by decide +kernel
theorem dX0_init_11 : decode cX0_init 11 = .ok (.invokespecial 11, 3) := by decide +kernel
theorem dX0_init_14 : decode cX0_init 14 = .ok (.putfield 14, 3) := by decide +kernel
theorem dX0_init_17 : decode cX0_init 17 = .ok (.aload_n 0, 1) := by decide +kernel
theorem dX0_init_18 : decode cX0_init 18 = .ok (.new 9, 3) := by decide +kernel
theorem dX0_init_21 : decode cX0_init 21 = .ok (.dup, 1) := by decide +kernel
theorem dX0_init_22 : decode cX0_init 22 = .ok (.bipush 40, 2) := by decide +kernel
theorem dX0_init_24 : decode cX0_init 24 = .ok (.invokespecial 11, 3) := by decide +kernel
theorem dX0_init_27 : decode cX0_init 27 = .ok (.putfield 20, 3) := by decide +kernel
theorem dX0_init_30 : decode cX0_init 30 = .ok (.aload_n 0, 1) := by decide +kernel
theorem dX0_init_31 : decode cX0_init 31 = .ok (.new 9, 3) := by decide +kernel
theorem dX0_init_34 : decode cX0_init 34 = .ok (.dup, 1) := by decide +kernel
theorem dX0_init_35 : decode cX0_init 35 = .ok (.bipush 40, 2) := by decide +kernel
theorem dX0_init_37 : decode cX0_init 37 = .ok (.invokespecial 11, 3) := by decide +kernel
theorem dX0_init_40 : decode cX0_init 40 = .ok (.putfield 23, 3) := by decide +kernel
theorem dX0_init_43 : decode cX0_init 43 = .ok (.aload_n 0, 1) := by decide +kernel
theorem dX0_init_44 : decode cX0_init 44 = .ok (.new 9, 3) := by decide +kernel
theorem dX0_init_47 : decode cX0_init 47 = .ok (.dup, 1) := by decide +kernel
theorem dX0_init_48 : decode cX0_init 48 = .ok (.bipush 40, 2) := by decide +kernel
theorem dX0_init_50 : decode cX0_init 50 = .ok (.invokespecial 11, 3) := by decide +kernel
theorem dX0_init_53 : decode cX0_init 53 = .ok (.putfield 26, 3) := by decide +kernel
theorem dX0_init_56 : decode cX0_init 56 = .ok (.return_, 1) := by decide +kernel
theorem dX0_add_0 : decode cX0_add 0 = .ok (.aload_n 0, 1) := by decide +kernel
theorem dX0_add_1 : decode cX0_add 1 = .ok (.aload_n 0, 1) := by decide +kernel
theorem dX0_add_2 : decode cX0_add 2 = .ok (.getfield 29, 3) := by decide +kernel
theorem dX0_add_5 : decode cX0_add 5 = .ok (.iload_n 1, 1) := by decide +kernel
theorem dX0_add_6 : decode cX0_add 6 = .ok (.iload_n 2, 1) := by decide +kernel
theorem dX0_add_7 : decode cX0_add 7 = .ok (.iload_n 3, 1) := by decide +kernel
theorem dX0_add_8 : decode cX0_add 8 = .ok (.iload 4, 2) := by decide +kernel
theorem dX0_add_10 : decode cX0_add 10 = .ok (.invokevirtual 33, 3) := by decide +kernel
theorem dX0_add_13 : decode cX0_add 13 = .ok (.aload_n 0, 1) := by decide +kernel
theorem dX0_add_14 : decode cX0_add 14 = .ok (.dup, 1) := by decide +kernel
theorem dX0_add_15 : decode cX0_add 15 = .ok (.getfield 29, 3) := by decide +kernel
theorem dX0_add_18 : decode cX0_add 18 = .ok (.iconst 1, 1) := by decide +kernel
theorem dX0_add_19 : decode cX0_add 19 = .ok (.iadd, 1) := by decide +kernel
theorem dX0_add_20 : decode cX0_add 20 = .ok (.putfield 29, 3) := by decide +kernel
theorem dX0_add_23 : decode cX0_add 23 = .ok (.aload_n 0, 1) := by decide +kernel
theorem dX0_add_24 : decode cX0_add 24 = .ok (.getfield 29, 3) := by decide +kernel
theorem dX0_add_27 : decode cX0_add 27 = .ok (.ireturn, 1) := by decide +kernel
theorem dX0_put_0 : decode cX0_put 0 = .ok (.aload_n 0, 1) := by decide +kernel
theorem dX0_put_1 : decode cX0_put 1 = .ok (.getfield 14, 3) := by decide +kernel
theorem dX0_put_4 : decode cX0_put 4 = .ok (.iload_n 1, 1) := by decide +kernel
theorem dX0_put_5 : decode cX0_put 5 = .ok (.iload_n 2, 1) := by decide +kernel
theorem dX0_put_6 : decode cX0_put 6 = .ok (.invokevirtual 37, 3) := by decide +kernel
theorem dX0_put_9 : decode cX0_put 9 = .ok (.aload_n 0, 1) := by decide +kernel
theorem dX0_put_10 : decode cX0_put 10 = .ok (.getfield 20, 3) := by decide +kernel
theorem dX0_put_13 : decode cX0_put 13 = .ok (.iload_n 1, 1) := by decide +kernel
theorem dX0_put_14 : decode cX0_put 14 = .ok (.iload_n 3, 1) := by decide +kernel
theorem dX0_put_15 : decode cX0_put 15 = .ok (.invokevirtual 37, 3) := by decide +kernel
theorem dX0_put_18 : decode cX0_put 18 = .ok (.aload_n 0, 1) := by decide +kernel
theorem dX0_put_19 : decode cX0_put 19 = .ok (.getfield 23, 3) := by decide +kernel
theorem dX0_put_22 : decode cX0_put 22 = .ok (.iload_n 1, 1) := by decide +kernel
theorem dX0_put_23 : decode cX0_put 23 = .ok (.iload 4, 2) := by decide +kernel
theorem dX0_put_25 : decode cX0_put 25 = .ok (.invokevirtual 37, 3) := by decide +kernel
theorem dX0_put_28 : decode cX0_put 28 = .ok (.aload_n 0, 1) := by decide +kernel
theorem dX0_put_29 : decode cX0_put 29 = .ok (.getfield 26, 3) := by decide +kernel
theorem dX0_put_32 : decode cX0_put 32 = .ok (.iload_n 1, 1) := by decide +kernel
theorem dX0_put_33 : decode cX0_put 33 = .ok (.iload 5, 2) := by decide +kernel
theorem dX0_put_35 : decode cX0_put 35 = .ok (.invokevirtual 37, 3) := by decide +kernel
theorem dX0_put_38 : decode cX0_put 38 = .ok (.return_, 1) := by decide +kernel
theorem dX0_comeAt_0 : decode cX0_comeAt 0 = .ok (.iconst 0, 1) := by decide +kernel
theorem dX0_comeAt_1 : decode cX0_comeAt 1 = .ok (.istore_n 3, 1) := by decide +kernel
theorem dX0_comeAt_2 : decode cX0_comeAt 2 = .ok (.iconst 0, 1) := by decide +kernel
theorem dX0_comeAt_3 : decode cX0_comeAt 3 = .ok (.istore 4, 2) := by decide +kernel
theorem dX0_comeAt_5 : decode cX0_comeAt 5 = .ok (.iconst 0, 1) := by decide +kernel
theorem dX0_comeAt_6 : decode cX0_comeAt 6 = .ok (.istore 5, 2) := by decide +kernel
theorem dX0_comeAt_8 : decode cX0_comeAt 8 = .ok (.iload 5, 2) := by decide +kernel
theorem dX0_comeAt_10 : decode cX0_comeAt 10 = .ok (.aload_n 0, 1) := by decide +kernel
theorem dX0_comeAt_11 : decode cX0_comeAt 11 = .ok (.getfield 29, 3) := by decide +kernel
theorem dX0_comeAt_14 : decode cX0_comeAt 14 = .ok (.if_icmp .ge 104, 3) := by decide +kernel
theorem dX0_comeAt_17 : decode cX0_comeAt 17 = .ok (.aload_n 0, 1) := by decide +kernel
theorem dX0_comeAt_18 : decode cX0_comeAt 18 = .ok (.getfield 20, 3) := by decide +kernel
theorem dX0_comeAt_21 : decode cX0_comeAt 21 = .ok (.iload 5, 2) := by decide +kernel
theorem dX0_comeAt_23 : decode cX0_comeAt 23 = .ok (.invokevirtual 40, 3) := by decide +kernel
theorem dX0_comeAt_26 : decode cX0_comeAt 26 = .ok (.iload_n 1, 1) := by decide +kernel
theorem dX0_comeAt_27 : decode cX0_comeAt 27 = .ok (.if_icmp .ne 40, 3) := by decide +kernel
theorem dX0_comeAt_30 : decode cX0_comeAt 30 = .ok (.iload_n 3, 1) := by decide +kernel
theorem dX0_comeAt_31 : decode cX0_comeAt 31 = .ok (.aload_n 2, 1) := by decide +kernel
theorem dX0_comeAt_32 : decode cX0_comeAt 32 = .ok (.aload_n 0, 1) := by decide +kernel
theorem dX0_comeAt_33 : decode cX0_comeAt 33 = .ok (.getfield 14, 3) := by decide +kernel
theorem dX0_comeAt_36 : decode cX0_comeAt 36 = .ok (.iload 5, 2) := by decide +kernel
theorem dX0_comeAt_38 : decode cX0_comeAt 38 = .ok (.invokevirtual 40, 3) := by decide +kernel
theorem dX0_comeAt_41 : decode cX0_comeAt 41 = .ok (.aload_n 0, 1) := by decide +kernel
theorem dX0_comeAt_42 : decode cX0_comeAt 42 = .ok (.getfield 23, 3) := by decide +kernel
theorem dX0_comeAt_45 : decode cX0_comeAt 45 = .ok (.iload 5, 2) := by decide +kernel
theorem dX0_comeAt_47 : decode cX0_comeAt 47 = .ok (.invokevirtual 40, 3) := by decide +kernel
theorem dX0_comeAt_50 : decode cX0_comeAt 50 = .ok (.aload_n 0, 1) := by decide +kernel
theorem dX0_comeAt_51 : decode cX0_comeAt 51 = .ok (.getfield 26, 3) := by decide +kernel
theorem dX0_comeAt_54 : decode cX0_comeAt 54 = .ok (.iload 5, 2) := by decide +kernel
theorem dX0_comeAt_56 : decode cX0_comeAt 56 = .ok (.invokevirtual 40, 3) := by decide +kernel
theorem dX0_comeAt_59 : decode cX0_comeAt 59 = .ok (.invokevirtual 44, 3) := by decide +kernel
theorem dX0_comeAt_62 : decode cX0_comeAt 62 = .ok (.iadd, 1) := by decide +kernel
theorem dX0_comeAt_63 : decode cX0_comeAt 63 = .ok (.istore_n 3, 1) := by decide +kernel
theorem dX0_comeAt_64 : decode cX0_comeAt 64 = .ok (.goto 48, 3) := by decide +kernel
theorem dX0_comeAt_67 : decode cX0_comeAt 67 = .ok (.aload_n 0, 1) := by decide +kernel
theorem dX0_comeAt_68 : decode cX0_comeAt 68 = .ok (.iload 4, 2) := by decide +kernel
theorem dX0_comeAt_70 : decode cX0_comeAt 70 = .ok (.aload_n 0, 1) := by decide +kernel
theorem dX0_comeAt_71 : decode cX0_comeAt 71 = .ok (.getfield 14, 3) := by decide +kernel
theorem dX0_comeAt_74 : decode cX0_comeAt 74 = .ok (.iload 5, 2) := by decide +kernel
theorem dX0_comeAt_76 : decode cX0_comeAt 76 = .ok (.invokevirtual 40, 3) := by decide +kernel
theorem dX0_comeAt_79 : decode cX0_comeAt 79 = .ok (.aload_n 0, 1) := by decide +kernel
theorem dX0_comeAt_80 : decode cX0_comeAt 80 = .ok (.getfield 20, 3) := by decide +kernel
theorem dX0_comeAt_83 : decode cX0_comeAt 83 = .ok (.iload 5, 2) := by decide +kernel
theorem dX0_comeAt_85 : decode cX0_comeAt 85 = .ok (.invokevirtual 40, 3) := by decide +kernel
theorem dX0_comeAt_88 : decode cX0_comeAt 88 = .ok (.aload_n 0, 1) := by decide +kernel
theorem dX0_comeAt_89 : decode cX0_comeAt 89 = .ok (.getfield 23, 3) := by decide +kernel
theorem dX0_comeAt_92 : decode cX0_comeAt 92 = .ok (.iload 5, 2) := by decide +kernel
theorem dX0_comeAt_94 : decode cX0_comeAt 94 = .ok (.invokevirtual 40, 3) := by decide +kernel
theorem dX0_comeAt_97 : decode cX0_comeAt 97 = .ok (.aload_n 0, 1) := by decide +kernel
theorem dX0_comeAt_98 : decode cX0_comeAt 98 = .ok (.getfield 26, 3) := by decide +kernel
theorem dX0_comeAt_101 : decode cX0_comeAt 101 = .ok (.iload 5, 2) := by decide +kernel
theorem dX0_comeAt_103 : decode cX0_comeAt 103 = .ok (.invokevirtual 40, 3) := by decide +kernel
theorem dX0_comeAt_106 : decode cX0_comeAt 106 = .ok (.invokevirtual 33, 3) := by decide +kernel
theorem dX0_comeAt_109 : decode cX0_comeAt 109 = .ok (.iinc 4 1, 3) := by decide +kernel
theorem dX0_comeAt_112 : decode cX0_comeAt 112 = .ok (.iinc 5 1, 3) := by decide +kernel
theorem dX0_comeAt_115 : decode cX0_comeAt 115 = .ok (.goto (-107), 3) := by decide +kernel
theorem dX0_comeAt_118 : decode cX0_comeAt 118 = .ok (.aload_n 0, 1) := by decide +kernel
theorem dX0_comeAt_119 : decode cX0_comeAt 119 = .ok (.iload 4, 2) := by decide +kernel
theorem dX0_comeAt_121 : decode cX0_comeAt 121 = .ok (.putfield 29, 3) := by decide +kernel
theorem dX0_comeAt_124 : decode cX0_comeAt 124 = .ok (.iload_n 3, 1) := by decide +kernel
theorem dX0_comeAt_125 : decode cX0_comeAt 125 = .ok (.ireturn, 1) := by decide +kernel
theorem dX1_init_0 : decode cX1_init 0 = .ok (.aload_n 0, 1) := by decide +kernel
theorem dX1_init_1 : decode cX1_init 1 = .ok (.invokespecial 3, 3) := by decide +kernel
theorem dX1_init_4 : decode cX1_init 4 = .ok (.aload_n 0, 1) := by decide +kernel
theorem dX1_init_5 : decode cX1_init 5 = .ok (.new 9, 3) := by decide +kernel
theorem dX1_init_8 : decode cX1_init 8 = .ok (.dup, 1) := by decide +kernel
theorem dX1_init_9 : decode cX1_init 9 = .ok (.sipush 144, 3) := by decide +kernel
theorem dX1_init_12 : decode cX1_init 12 = .ok (.invokespecial 11, 3) := by decide +kernel
theorem dX1_init_15 : decode cX1_init 15 = .ok (.putfield 14, 3) := by decide +kernel
theorem dX1_init_18 : decode cX1_init 18 = .ok (.aload_n 0, 1) := by decide +kernel
theorem dX1_init_19 : decode cX1_init 19 = .ok (.new 9, 3) := by decide +kernel
theorem dX1_init_22 : decode cX1_init 22 = .ok (.dup, 1) := by decide +kernel
theorem dX1_init_23 : decode cX1_init 23 = .ok (.sipush 144, 3) := by decide +kernel
theorem dX1_init_26 : decode cX1_init 26 = .ok (.invokespecial 11, 3) := by decide +kernel
theorem dX1_init_29 : decode cX1_init 29 = .ok (.putfield 20, 3) := by decide +kernel
theorem dX1_init_32 : decode cX1_init 32 = .ok (.aload_n 0, 1) := by decide +kernel
theorem dX1_init_33 : decode cX1_init 33 = .ok (.new 9, 3) := by decide +kernel
theorem dX1_init_36 : decode cX1_init 36 = .ok (.dup, 1) := by decide +kernel
theorem dX1_init_37 : decode cX1_init 37 = .ok (.sipush 144, 3) := by decide +kernel
theorem dX1_init_40 : decode cX1_init 40 = .ok (.invokespecial 11, 3) := by decide +kernel
theorem dX1_init_43 : decode cX1_init 43 = .ok (.putfield 23, 3) := by decide +kernel
theorem dX1_init_46 : decode cX1_init 46 = .ok (.aload_n 0, 1) := by decide +kernel
theorem dX1_init_47 : decode cX1_init 47 = .ok (.new 9, 3) := by decide +kernel
theorem dX1_init_50 : decode cX1_init 50 = .ok (.dup, 1) := by decide +kernel
theorem dX1_init_51 : decode cX1_init 51 = .ok (.sipush 144, 3) := by decide +kernel
theorem dX1_init_54 : decode cX1_init 54 = .ok (.invokespecial 11, 3) := by decide +kernel
theorem dX1_init_57 : decode cX1_init 57 = .ok (.putfield 26, 3) := by decide +kernel
theorem dX1_init_60 : decode cX1_init 60 = .ok (.aload_n 0, 1) := by decide +kernel
theorem dX1_init_61 : decode cX1_init 61 = .ok (.new 9, 3) := by decide +kernel
theorem dX1_init_64 : decode cX1_init 64 = .ok (.dup, 1) := by decide +kernel
theorem dX1_init_65 : decode cX1_init 65 = .ok (.sipush 144, 3) := by decide +kernel
theorem dX1_init_68 : decode cX1_init 68 = .ok (.invokespecial 11, 3) := by decide +kernel
theorem dX1_init_71 : decode cX1_init 71 = .ok (.putfield 29, 3) := by decide +kernel
theorem dX1_init_74 : decode cX1_init 74 = .ok (.aload_n 0, 1) := by decide +kernel
theorem dX1_init_75 : decode cX1_init 75 = .ok (.iconst 4, 1) := by decide +kernel
theorem dX1_init_76 : decode cX1_init 76 = .ok (.putfield 32, 3) := by decide +kernel
theorem dX1_init_79 : decode cX1_init 79 = .ok (.aload_n 0, 1) := by decide +kernel
theorem dX1_init_80 : decode cX1_init 80 = .ok (.iconst 4, 1) := by decide +kernel
theorem dX1_init_81 : decode cX1_init 81 = .ok (.putfield 36, 3) := by decide +kernel
theorem dX1_init_84 : decode cX1_init 84 = .ok (.aload_n 0, 1) := by decide +kernel
theorem dX1_init_85 : decode cX1_init 85 = .ok (.iconst 1, 1) := by decide +kernel
theorem dX1_init_86 : decode cX1_init 86 = .ok (.putfield 39, 3) := by decide +kernel
theorem dX1_init_89 : decode cX1_init 89 = .ok (.aload_n 0, 1) := by decide +kernel
theorem dX1_init_90 : decode cX1_init 90 = .ok (.iconst 1, 1) := by decide +kernel
theorem dX1_init_91 : decode cX1_init 91 = .ok (.putfield 42, 3) := by decide +kernel
theorem dX1_init_94 : decode cX1_init 94 = .ok (.aload_n 0, 1) := by decide +kernel
theorem dX1_init_95 : decode cX1_init 95 = .ok (.aload_n 1, 1) := by decide +kernel
theorem dX1_init_96 : decode cX1_init 96 = .ok (.putfield 45, 3) := by decide +kernel
theorem dX1_init_99 : decode cX1_init 99 = .ok (.return_, 1) := by decide +kernel
theorem dX1_begin_0 : decode cX1_begin 0 = .ok (.aload_n 0, 1) := by decide +kernel
theorem dX1_begin_1 : decode cX1_begin 1 = .ok (.iload_n 1, 1) := by decide +kernel
theorem dX1_begin_2 : decode cX1_begin 2 = .ok (.putfield 32, 3) := by decide +kernel
theorem dX1_begin_5 : decode cX1_begin 5 = .ok (.aload_n 0, 1) := by decide +kernel
theorem dX1_begin_6 : decode cX1_begin 6 = .ok (.iload_n 2, 1) := by decide +kernel
theorem dX1_begin_7 : decode cX1_begin 7 = .ok (.putfield 36, 3) := by decide +kernel
theorem dX1_begin_10 : decode cX1_begin 10 = .ok (.aload_n 0, 1) := by decide +kernel
theorem dX1_begin_11 : decode cX1_begin 11 = .ok (.getfield 14, 3) := by decide +kernel
theorem dX1_begin_14 : decode cX1_begin 14 = .ok (.iconst 0, 1) := by decide +kernel
theorem dX1_begin_15 : decode cX1_begin 15 = .ok (.invokevirtual 49, 3) := by decide +kernel
theorem dX1_begin_18 : decode cX1_begin 18 = .ok (.aload_n 0, 1) := by decide +kernel
theorem dX1_begin_19 : decode cX1_begin 19 = .ok (.getfield 20, 3) := by decide +kernel
theorem dX1_begin_22 : decode cX1_begin 22 = .ok (.iconst 0, 1) := by decide +kernel
theorem dX1_begin_23 : decode cX1_begin 23 = .ok (.invokevirtual 49, 3) := by decide +kernel
theorem dX1_begin_26 : decode cX1_begin 26 = .ok (.aload_n 0, 1) := by decide +kernel
theorem dX1_begin_27 : decode cX1_begin 27 = .ok (.getfield 29, 3) := by decide +kernel
theorem dX1_begin_30 : decode cX1_begin 30 = .ok (.iconst (-1), 1) := by decide +kernel
theorem dX1_begin_31 : decode cX1_begin 31 = .ok (.invokevirtual 49, 3) := by decide +kernel
theorem dX1_begin_34 : decode cX1_begin 34 = .ok (.aload_n 0, 1) := by decide +kernel
theorem dX1_begin_35 : decode cX1_begin 35 = .ok (.iconst 0, 1) := by decide +kernel
theorem dX1_begin_36 : decode cX1_begin 36 = .ok (.putfield 52, 3) := by decide +kernel
theorem dX1_begin_39 : decode cX1_begin 39 = .ok (.return_, 1) := by decide +kernel
theorem dX1_has_0 : decode cX1_has 0 = .ok (.iload_n 1, 1) := by decide +kernel
theorem dX1_has_1 : decode cX1_has 1 = .ok (.ifCond .lt 27, 3) := by decide +kernel
theorem dX1_has_4 : decode cX1_has 4 = .ok (.iload_n 1, 1) := by decide +kernel
theorem dX1_has_5 : decode cX1_has 5 = .ok (.aload_n 0, 1) := by decide +kernel
theorem dX1_has_6 : decode cX1_has 6 = .ok (.getfield 32, 3) := by decide +kernel
theorem dX1_has_9 : decode cX1_has 9 = .ok (.if_icmp .ge 19, 3) := by decide +kernel
theorem dX1_has_12 : decode cX1_has 12 = .ok (.iload_n 2, 1) := by decide +kernel
theorem dX1_has_13 : decode cX1_has 13 = .ok (.ifCond .lt 15, 3) := by decide +kernel
theorem dX1_has_16 : decode cX1_has 16 = .ok (.iload_n 2, 1) := by decide +kernel
theorem dX1_has_17 : decode cX1_has 17 = .ok (.aload_n 0, 1) := by decide +kernel
theorem dX1_has_18 : decode cX1_has 18 = .ok (.getfield 36, 3) := by decide +kernel
theorem dX1_has_21 : decode cX1_has 21 = .ok (.if_icmp .ge 7, 3) := by decide +kernel
theorem dX1_has_24 : decode cX1_has 24 = .ok (.iconst 1, 1) := by decide +kernel
theorem dX1_has_25 : decode cX1_has 25 = .ok (.goto 4, 3) := by decide +kernel
theorem dX1_has_28 : decode cX1_has 28 = .ok (.iconst 0, 1) := by decide +kernel
theorem dX1_has_29 : decode cX1_has 29 = .ok (.ireturn, 1) := by decide +kernel
theorem dX1_directionAt_0 : decode cX1_directionAt 0 = .ok (.aload_n 0, 1) := by decide +kernel
theorem dX1_directionAt_1 : decode cX1_directionAt 1 = .ok (.getfield 14, 3) := by decide +kernel
theorem dX1_directionAt_4 : decode cX1_directionAt 4 = .ok (.iload_n 1, 1) := by decide +kernel
theorem dX1_directionAt_5 : decode cX1_directionAt 5 = .ok (.iload_n 2, 1) := by decide +kernel
theorem dX1_directionAt_6 : decode cX1_directionAt 6 = .ok (.invokestatic 55, 3) := by decide +kernel
theorem dX1_directionAt_9 : decode cX1_directionAt 9 = .ok (.invokevirtual 59, 3) := by decide +kernel
theorem dX1_directionAt_12 : decode cX1_directionAt 12 = .ok (.ireturn, 1) := by decide +kernel
theorem dX1_kindAt_0 : decode cX1_kindAt 0 = .ok (.aload_n 0, 1) := by decide +kernel
theorem dX1_kindAt_1 : decode cX1_kindAt 1 = .ok (.getfield 20, 3) := by decide +kernel
theorem dX1_kindAt_4 : decode cX1_kindAt 4 = .ok (.iload_n 1, 1) := by decide +kernel
theorem dX1_kindAt_5 : decode cX1_kindAt 5 = .ok (.iload_n 2, 1) := by decide +kernel
theorem dX1_kindAt_6 : decode cX1_kindAt 6 = .ok (.invokestatic 55, 3) := by decide +kernel
theorem dX1_kindAt_9 : decode cX1_kindAt 9 = .ok (.invokevirtual 59, 3) := by decide +kernel
theorem dX1_kindAt_12 : decode cX1_kindAt 12 = .ok (.ireturn, 1) := by decide +kernel
theorem dX1_pixelAt_0 : decode cX1_pixelAt 0 = .ok (.aload_n 0, 1) := by decide +kernel
theorem dX1_pixelAt_1 : decode cX1_pixelAt 1 = .ok (.getfield 29, 3) := by decide +kernel
theorem dX1_pixelAt_4 : decode cX1_pixelAt 4 = .ok (.iload_n 1, 1) := by decide +kernel
theorem dX1_pixelAt_5 : decode cX1_pixelAt 5 = .ok (.iload_n 2, 1) := by decide +kernel
theorem dX1_pixelAt_6 : decode cX1_pixelAt 6 = .ok (.invokestatic 55, 3) := by decide +kernel
theorem dX1_pixelAt_9 : decode cX1_pixelAt 9 = .ok (.invokevirtual 59, 3) := by decide +kernel
theorem dX1_pixelAt_12 : decode cX1_pixelAt 12 = .ok (.ireturn, 1) := by decide +kernel
theorem dX1_hasPixelIn_0 : decode cX1_hasPixelIn 0 = .ok (.iload_n 2, 1) := by decide +kernel
theorem dX1_hasPixelIn_1 : decode cX1_hasPixelIn 1 = .ok (.istore 5, 2) := by decide +kernel
theorem dX1_hasPixelIn_3 : decode cX1_hasPixelIn 3 = .ok (.iload 5, 2) := by decide +kernel
theorem dX1_hasPixelIn_5 : decode cX1_hasPixelIn 5 = .ok (.iload_n 2, 1) := by decide +kernel
theorem dX1_hasPixelIn_6 : decode cX1_hasPixelIn 6 = .ok (.iload 4, 2) := by decide +kernel
theorem dX1_hasPixelIn_8 : decode cX1_hasPixelIn 8 = .ok (.iadd, 1) := by decide +kernel
theorem dX1_hasPixelIn_9 : decode cX1_hasPixelIn 9 = .ok (.if_icmp .ge 40, 3) := by decide +kernel
theorem dX1_hasPixelIn_12 : decode cX1_hasPixelIn 12 = .ok (.iload_n 1, 1) := by decide +kernel
theorem dX1_hasPixelIn_13 : decode cX1_hasPixelIn 13 = .ok (.istore 6, 2) := by decide +kernel
theorem dX1_hasPixelIn_15 : decode cX1_hasPixelIn 15 = .ok (.iload 6, 2) := by decide +kernel
theorem dX1_hasPixelIn_17 : decode cX1_hasPixelIn 17 = .ok (.iload_n 1, 1) := by decide +kernel
theorem dX1_hasPixelIn_18 : decode cX1_hasPixelIn 18 = .ok (.iload_n 3, 1) := by decide +kernel
theorem dX1_hasPixelIn_19 : decode cX1_hasPixelIn 19 = .ok (.iadd, 1) := by decide +kernel
theorem dX1_hasPixelIn_20 : decode cX1_hasPixelIn 20 = .ok (.if_icmp .ge 23, 3) := by decide +kernel
theorem dX1_hasPixelIn_23 : decode cX1_hasPixelIn 23 = .ok (.aload_n 0, 1) := by decide +kernel
theorem dX1_hasPixelIn_24 : decode cX1_hasPixelIn 24 = .ok (.iload 6, 2) := by decide +kernel
theorem dX1_hasPixelIn_26 : decode cX1_hasPixelIn 26 = .ok (.iload 5, 2) := by decide +kernel
theorem dX1_hasPixelIn_28 : decode cX1_hasPixelIn 28 = .ok (.invokevirtual 63, 3) := by decide +kernel
theorem dX1_hasPixelIn_31 : decode cX1_hasPixelIn 31 = .ok (.iconst (-1), 1) := by decide +kernel
theorem dX1_hasPixelIn_32 : decode cX1_hasPixelIn 32 = .ok (.if_icmp .eq 5, 3) := by decide +kernel
theorem dX1_hasPixelIn_35 : decode cX1_hasPixelIn 35 = .ok (.iconst 1, 1) := by decide +kernel
theorem dX1_hasPixelIn_36 : decode cX1_hasPixelIn 36 = .ok (.ireturn, 1) := by decide +kernel
theorem dX1_hasPixelIn_37 : decode cX1_hasPixelIn 37 = .ok (.iinc 6 1, 3) := by decide +kernel
theorem dX1_hasPixelIn_40 : decode cX1_hasPixelIn 40 = .ok (.goto (-25), 3) := by decide +kernel
theorem dX1_hasPixelIn_43 : decode cX1_hasPixelIn 43 = .ok (.iinc 5 1, 3) := by decide +kernel
theorem dX1_hasPixelIn_46 : decode cX1_hasPixelIn 46 = .ok (.goto (-43), 3) := by decide +kernel
theorem dX1_hasPixelIn_49 : decode cX1_hasPixelIn 49 = .ok (.iconst 0, 1) := by decide +kernel
theorem dX1_hasPixelIn_50 : decode cX1_hasPixelIn 50 = .ok (.ireturn, 1) := by decide +kernel
theorem dX1_mark_0 : decode cX1_mark 0 = .ok (.iload_n 2, 1) := by decide +kernel
theorem dX1_mark_1 : decode cX1_mark 1 = .ok (.istore 6, 2) := by decide +kernel
theorem dX1_mark_3 : decode cX1_mark 3 = .ok (.iload 6, 2) := by decide +kernel
theorem dX1_mark_5 : decode cX1_mark 5 = .ok (.iload_n 2, 1) := by decide +kernel
theorem dX1_mark_6 : decode cX1_mark 6 = .ok (.iload 4, 2) := by decide +kernel
theorem dX1_mark_8 : decode cX1_mark 8 = .ok (.iadd, 1) := by decide +kernel
theorem dX1_mark_9 : decode cX1_mark 9 = .ok (.if_icmp .ge 42, 3) := by decide +kernel
theorem dX1_mark_12 : decode cX1_mark 12 = .ok (.iload_n 1, 1) := by decide +kernel
theorem dX1_mark_13 : decode cX1_mark 13 = .ok (.istore 7, 2) := by decide +kernel
theorem dX1_mark_15 : decode cX1_mark 15 = .ok (.iload 7, 2) := by decide +kernel
theorem dX1_mark_17 : decode cX1_mark 17 = .ok (.iload_n 1, 1) := by decide +kernel
theorem dX1_mark_18 : decode cX1_mark 18 = .ok (.iload_n 3, 1) := by decide +kernel
theorem dX1_mark_19 : decode cX1_mark 19 = .ok (.iadd, 1) := by decide +kernel
theorem dX1_mark_20 : decode cX1_mark 20 = .ok (.if_icmp .ge 25, 3) := by decide +kernel
theorem dX1_mark_23 : decode cX1_mark 23 = .ok (.aload_n 0, 1) := by decide +kernel
theorem dX1_mark_24 : decode cX1_mark 24 = .ok (.getfield 29, 3) := by decide +kernel
theorem dX1_mark_27 : decode cX1_mark 27 = .ok (.iload 7, 2) := by decide +kernel
theorem dX1_mark_29 : decode cX1_mark 29 = .ok (.iload 6, 2) := by decide +kernel
theorem dX1_mark_31 : decode cX1_mark 31 = .ok (.invokestatic 55, 3) := by decide +kernel
theorem dX1_mark_34 : decode cX1_mark 34 = .ok (.iload 5, 2) := by decide +kernel
theorem dX1_mark_36 : decode cX1_mark 36 = .ok (.invokevirtual 66, 3) := by decide +kernel
theorem dX1_mark_39 : decode cX1_mark 39 = .ok (.iinc 7 1, 3) := by decide +kernel
theorem dX1_mark_42 : decode cX1_mark 42 = .ok (.goto (-27), 3) := by decide +kernel
theorem dX1_mark_45 : decode cX1_mark 45 = .ok (.iinc 6 1, 3) := by decide +kernel
theorem dX1_mark_48 : decode cX1_mark 48 = .ok (.goto (-45), 3) := by decide +kernel
theorem dX1_mark_51 : decode cX1_mark 51 = .ok (.return_, 1) := by decide +kernel
theorem dX1_heldWith_0 : decode cX1_heldWith 0 = .ok (.iconst 0, 1) := by decide +kernel
theorem dX1_heldWith_1 : decode cX1_heldWith 1 = .ok (.istore_n 3, 1) := by decide +kernel
theorem dX1_heldWith_2 : decode cX1_heldWith 2 = .ok (.aload_n 0, 1) := by decide +kernel
theorem dX1_heldWith_3 : decode cX1_heldWith 3 = .ok (.getfield 20, 3) := by decide +kernel
theorem dX1_heldWith_6 : decode cX1_heldWith 6 = .ok (.iload_n 1, 1) := by decide +kernel
theorem dX1_heldWith_7 : decode cX1_heldWith 7 = .ok (.invokevirtual 59, 3) := by decide +kernel
theorem dX1_heldWith_10 : decode cX1_heldWith 10 = .ok (.iconst 2, 1) := by decide +kernel
theorem dX1_heldWith_11 : decode cX1_heldWith 11 = .ok (.if_icmp .ne 27, 3) := by decide +kernel
theorem dX1_heldWith_14 : decode cX1_heldWith 14 = .ok (.iload_n 3, 1) := by decide +kernel
theorem dX1_heldWith_15 : decode cX1_heldWith 15 = .ok (.aload_n 0, 1) := by decide +kernel
theorem dX1_heldWith_16 : decode cX1_heldWith 16 = .ok (.getfield 26, 3) := by decide +kernel
theorem dX1_heldWith_19 : decode cX1_heldWith 19 = .ok (.iload_n 1, 1) := by decide +kernel
theorem dX1_heldWith_20 : decode cX1_heldWith 20 = .ok (.invokevirtual 59, 3) := by decide +kernel
theorem dX1_heldWith_23 : decode cX1_heldWith 23 = .ok (.aload_n 0, 1) := by decide +kernel
theorem dX1_heldWith_24 : decode cX1_heldWith 24 = .ok (.getfield 23, 3) := by decide +kernel
theorem dX1_heldWith_27 : decode cX1_heldWith 27 = .ok (.iload_n 1, 1) := by decide +kernel
theorem dX1_heldWith_28 : decode cX1_heldWith 28 = .ok (.invokevirtual 59, 3) := by decide +kernel
theorem dX1_heldWith_31 : decode cX1_heldWith 31 = .ok (.iload_n 2, 1) := by decide +kernel
theorem dX1_heldWith_32 : decode cX1_heldWith 32 = .ok (.invokestatic 70, 3) := by decide +kernel
theorem dX1_heldWith_35 : decode cX1_heldWith 35 = .ok (.imul, 1) := by decide +kernel
theorem dX1_heldWith_36 : decode cX1_heldWith 36 = .ok (.iadd, 1) := by decide +kernel
theorem dX1_heldWith_37 : decode cX1_heldWith 37 = .ok (.istore_n 3, 1) := by decide +kernel
theorem dX1_heldWith_38 : decode cX1_heldWith 38 = .ok (.aload_n 0, 1) := by decide +kernel
theorem dX1_heldWith_39 : decode cX1_heldWith 39 = .ok (.getfield 29, 3) := by decide +kernel
theorem dX1_heldWith_42 : decode cX1_heldWith 42 = .ok (.iload_n 1, 1) := by decide +kernel
theorem dX1_heldWith_43 : decode cX1_heldWith 43 = .ok (.invokevirtual 59, 3) := by decide +kernel
theorem dX1_heldWith_46 : decode cX1_heldWith 46 = .ok (.istore 4, 2) := by decide +kernel
theorem dX1_heldWith_48 : decode cX1_heldWith 48 = .ok (.iload 4, 2) := by decide +kernel
theorem dX1_heldWith_50 : decode cX1_heldWith 50 = .ok (.iconst (-1), 1) := by decide +kernel
theorem dX1_heldWith_51 : decode cX1_heldWith 51 = .ok (.if_icmp .eq 29, 3) := by decide +kernel
theorem dX1_heldWith_54 : decode cX1_heldWith 54 = .ok (.iload_n 3, 1) := by decide +kernel
theorem dX1_heldWith_55 : decode cX1_heldWith 55 = .ok (.aload_n 0, 1) := by decide +kernel
theorem dX1_heldWith_56 : decode cX1_heldWith 56 = .ok (.getfield 45, 3) := by decide +kernel
theorem dX1_heldWith_59 : decode cX1_heldWith 59 = .ok (.iload 4, 2) := by decide +kernel
theorem dX1_heldWith_61 : decode cX1_heldWith 61 = .ok (.invokevirtual 73, 3) := by decide +kernel
theorem dX1_heldWith_64 : decode cX1_heldWith 64 = .ok (.aload_n 0, 1) := by decide +kernel
theorem dX1_heldWith_65 : decode cX1_heldWith 65 = .ok (.getfield 45, 3) := by decide +kernel
theorem dX1_heldWith_68 : decode cX1_heldWith 68 = .ok (.iload 4, 2) := by decide +kernel
theorem dX1_heldWith_70 : decode cX1_heldWith 70 = .ok (.invokevirtual 78, 3) := by decide +kernel
theorem dX1_heldWith_73 : decode cX1_heldWith 73 = .ok (.iload_n 2, 1) := by decide +kernel
theorem dX1_heldWith_74 : decode cX1_heldWith 74 = .ok (.invokestatic 70, 3) := by decide +kernel
theorem dX1_heldWith_77 : decode cX1_heldWith 77 = .ok (.imul, 1) := by decide +kernel
theorem dX1_heldWith_78 : decode cX1_heldWith 78 = .ok (.iadd, 1) := by decide +kernel
theorem dX1_heldWith_79 : decode cX1_heldWith 79 = .ok (.istore_n 3, 1) := by decide +kernel
theorem dX1_heldWith_80 : decode cX1_heldWith 80 = .ok (.iload_n 3, 1) := by decide +kernel
theorem dX1_heldWith_81 : decode cX1_heldWith 81 = .ok (.ireturn, 1) := by decide +kernel
theorem dX1_energyWith_0 : decode cX1_energyWith 0 = .ok (.aload_n 0, 1) := by decide +kernel
theorem dX1_energyWith_1 : decode cX1_energyWith 1 = .ok (.iload_n 1, 1) := by decide +kernel
theorem dX1_energyWith_2 : decode cX1_energyWith 2 = .ok (.iload_n 2, 1) := by decide +kernel
theorem dX1_energyWith_3 : decode cX1_energyWith 3 = .ok (.invokestatic 55, 3) := by decide +kernel
theorem dX1_energyWith_6 : decode cX1_energyWith 6 = .ok (.iload_n 3, 1) := by decide +kernel
theorem dX1_energyWith_7 : decode cX1_energyWith 7 = .ok (.invokevirtual 81, 3) := by decide +kernel
theorem dX1_energyWith_10 : decode cX1_energyWith 10 = .ok (.istore 4, 2) := by decide +kernel
theorem dX1_energyWith_12 : decode cX1_energyWith 12 = .ok (.aload_n 0, 1) := by decide +kernel
theorem dX1_energyWith_13 : decode cX1_energyWith 13 = .ok (.iload_n 1, 1) := by decide +kernel
theorem dX1_energyWith_14 : decode cX1_energyWith 14 = .ok (.iconst 1, 1) := by decide +kernel
theorem dX1_energyWith_15 : decode cX1_energyWith 15 = .ok (.isub, 1) := by decide +kernel
theorem dX1_energyWith_16 : decode cX1_energyWith 16 = .ok (.iload_n 2, 1) := by decide +kernel
theorem dX1_energyWith_17 : decode cX1_energyWith 17 = .ok (.invokevirtual 84, 3) := by decide +kernel
theorem dX1_energyWith_20 : decode cX1_energyWith 20 = .ok (.ifCond .eq 25, 3) := by decide +kernel
theorem dX1_energyWith_23 : decode cX1_energyWith 23 = .ok (.iload 4, 2) := by decide +kernel
theorem dX1_energyWith_25 : decode cX1_energyWith 25 = .ok (.aload_n 0, 1) := by decide +kernel
theorem dX1_energyWith_26 : decode cX1_energyWith 26 = .ok (.getfield 39, 3) := by decide +kernel
theorem dX1_energyWith_29 : decode cX1_energyWith 29 = .ok (.aload_n 0, 1) := by decide +kernel
theorem dX1_energyWith_30 : decode cX1_energyWith 30 = .ok (.iload_n 1, 1) := by decide +kernel
theorem dX1_energyWith_31 : decode cX1_energyWith 31 = .ok (.iconst 1, 1) := by decide +kernel
theorem dX1_energyWith_32 : decode cX1_energyWith 32 = .ok (.isub, 1) := by decide +kernel
theorem dX1_energyWith_33 : decode cX1_energyWith 33 = .ok (.iload_n 2, 1) := by decide +kernel
theorem dX1_energyWith_34 : decode cX1_energyWith 34 = .ok (.invokevirtual 88, 3) := by decide +kernel
theorem dX1_energyWith_37 : decode cX1_energyWith 37 = .ok (.iload_n 3, 1) := by decide +kernel
theorem dX1_energyWith_38 : decode cX1_energyWith 38 = .ok (.invokestatic 70, 3) := by decide +kernel
theorem dX1_energyWith_41 : decode cX1_energyWith 41 = .ok (.imul, 1) := by decide +kernel
theorem dX1_energyWith_42 : decode cX1_energyWith 42 = .ok (.iadd, 1) := by decide +kernel
theorem dX1_energyWith_43 : decode cX1_energyWith 43 = .ok (.istore 4, 2) := by decide +kernel
theorem dX1_energyWith_45 : decode cX1_energyWith 45 = .ok (.aload_n 0, 1) := by decide +kernel
theorem dX1_energyWith_46 : decode cX1_energyWith 46 = .ok (.iload_n 1, 1) := by decide +kernel
theorem dX1_energyWith_47 : decode cX1_energyWith 47 = .ok (.iconst 1, 1) := by decide +kernel
theorem dX1_energyWith_48 : decode cX1_energyWith 48 = .ok (.iadd, 1) := by decide +kernel
theorem dX1_energyWith_49 : decode cX1_energyWith 49 = .ok (.iload_n 2, 1) := by decide +kernel
theorem dX1_energyWith_50 : decode cX1_energyWith 50 = .ok (.invokevirtual 84, 3) := by decide +kernel
theorem dX1_energyWith_53 : decode cX1_energyWith 53 = .ok (.ifCond .eq 25, 3) := by decide +kernel
theorem dX1_energyWith_56 : decode cX1_energyWith 56 = .ok (.iload 4, 2) := by decide +kernel
theorem dX1_energyWith_58 : decode cX1_energyWith 58 = .ok (.aload_n 0, 1) := by decide +kernel
theorem dX1_energyWith_59 : decode cX1_energyWith 59 = .ok (.getfield 39, 3) := by decide +kernel
theorem dX1_energyWith_62 : decode cX1_energyWith 62 = .ok (.aload_n 0, 1) := by decide +kernel
theorem dX1_energyWith_63 : decode cX1_energyWith 63 = .ok (.iload_n 1, 1) := by decide +kernel
theorem dX1_energyWith_64 : decode cX1_energyWith 64 = .ok (.iconst 1, 1) := by decide +kernel
theorem dX1_energyWith_65 : decode cX1_energyWith 65 = .ok (.iadd, 1) := by decide +kernel
theorem dX1_energyWith_66 : decode cX1_energyWith 66 = .ok (.iload_n 2, 1) := by decide +kernel
theorem dX1_energyWith_67 : decode cX1_energyWith 67 = .ok (.invokevirtual 88, 3) := by decide +kernel
theorem dX1_energyWith_70 : decode cX1_energyWith 70 = .ok (.iload_n 3, 1) := by decide +kernel
theorem dX1_energyWith_71 : decode cX1_energyWith 71 = .ok (.invokestatic 70, 3) := by decide +kernel
theorem dX1_energyWith_74 : decode cX1_energyWith 74 = .ok (.imul, 1) := by decide +kernel
theorem dX1_energyWith_75 : decode cX1_energyWith 75 = .ok (.iadd, 1) := by decide +kernel
theorem dX1_energyWith_76 : decode cX1_energyWith 76 = .ok (.istore 4, 2) := by decide +kernel
theorem dX1_energyWith_78 : decode cX1_energyWith 78 = .ok (.aload_n 0, 1) := by decide +kernel
theorem dX1_energyWith_79 : decode cX1_energyWith 79 = .ok (.iload_n 1, 1) := by decide +kernel
theorem dX1_energyWith_80 : decode cX1_energyWith 80 = .ok (.iload_n 2, 1) := by decide +kernel
theorem dX1_energyWith_81 : decode cX1_energyWith 81 = .ok (.iconst 1, 1) := by decide +kernel
theorem dX1_energyWith_82 : decode cX1_energyWith 82 = .ok (.isub, 1) := by decide +kernel
theorem dX1_energyWith_83 : decode cX1_energyWith 83 = .ok (.invokevirtual 84, 3) := by decide +kernel
theorem dX1_energyWith_86 : decode cX1_energyWith 86 = .ok (.ifCond .eq 25, 3) := by decide +kernel
theorem dX1_energyWith_89 : decode cX1_energyWith 89 = .ok (.iload 4, 2) := by decide +kernel
theorem dX1_energyWith_91 : decode cX1_energyWith 91 = .ok (.aload_n 0, 1) := by decide +kernel
theorem dX1_energyWith_92 : decode cX1_energyWith 92 = .ok (.getfield 42, 3) := by decide +kernel
theorem dX1_energyWith_95 : decode cX1_energyWith 95 = .ok (.aload_n 0, 1) := by decide +kernel
theorem dX1_energyWith_96 : decode cX1_energyWith 96 = .ok (.iload_n 1, 1) := by decide +kernel
theorem dX1_energyWith_97 : decode cX1_energyWith 97 = .ok (.iload_n 2, 1) := by decide +kernel
theorem dX1_energyWith_98 : decode cX1_energyWith 98 = .ok (.iconst 1, 1) := by decide +kernel
theorem dX1_energyWith_99 : decode cX1_energyWith 99 = .ok (.isub, 1) := by decide +kernel
theorem dX1_energyWith_100 : decode cX1_energyWith 100 = .ok (.invokevirtual 88, 3) := by decide +kernel
theorem dX1_energyWith_103 : decode cX1_energyWith 103 = .ok (.iload_n 3, 1) := by decide +kernel
theorem dX1_energyWith_104 : decode cX1_energyWith 104 = .ok (.invokestatic 70, 3) := by decide +kernel
theorem dX1_energyWith_107 : decode cX1_energyWith 107 = .ok (.imul, 1) := by decide +kernel
theorem dX1_energyWith_108 : decode cX1_energyWith 108 = .ok (.iadd, 1) := by decide +kernel
theorem dX1_energyWith_109 : decode cX1_energyWith 109 = .ok (.istore 4, 2) := by decide +kernel
theorem dX1_energyWith_111 : decode cX1_energyWith 111 = .ok (.aload_n 0, 1) := by decide +kernel
theorem dX1_energyWith_112 : decode cX1_energyWith 112 = .ok (.iload_n 1, 1) := by decide +kernel
theorem dX1_energyWith_113 : decode cX1_energyWith 113 = .ok (.iload_n 2, 1) := by decide +kernel
theorem dX1_energyWith_114 : decode cX1_energyWith 114 = .ok (.iconst 1, 1) := by decide +kernel
theorem dX1_energyWith_115 : decode cX1_energyWith 115 = .ok (.iadd, 1) := by decide +kernel
theorem dX1_energyWith_116 : decode cX1_energyWith 116 = .ok (.invokevirtual 84, 3) := by decide +kernel
theorem dX1_energyWith_119 : decode cX1_energyWith 119 = .ok (.ifCond .eq 25, 3) := by decide +kernel
theorem dX1_energyWith_122 : decode cX1_energyWith 122 = .ok (.iload 4, 2) := by decide +kernel
theorem dX1_energyWith_124 : decode cX1_energyWith 124 = .ok (.aload_n 0, 1) := by decide +kernel
theorem dX1_energyWith_125 : decode cX1_energyWith 125 = .ok (.getfield 42, 3) := by decide +kernel
theorem dX1_energyWith_128 : decode cX1_energyWith 128 = .ok (.aload_n 0, 1) := by decide +kernel
theorem dX1_energyWith_129 : decode cX1_energyWith 129 = .ok (.iload_n 1, 1) := by decide +kernel
theorem dX1_energyWith_130 : decode cX1_energyWith 130 = .ok (.iload_n 2, 1) := by decide +kernel
theorem dX1_energyWith_131 : decode cX1_energyWith 131 = .ok (.iconst 1, 1) := by decide +kernel
theorem dX1_energyWith_132 : decode cX1_energyWith 132 = .ok (.iadd, 1) := by decide +kernel
theorem dX1_energyWith_133 : decode cX1_energyWith 133 = .ok (.invokevirtual 88, 3) := by decide +kernel
theorem dX1_energyWith_136 : decode cX1_energyWith 136 = .ok (.iload_n 3, 1) := by decide +kernel
theorem dX1_energyWith_137 : decode cX1_energyWith 137 = .ok (.invokestatic 70, 3) := by decide +kernel
theorem dX1_energyWith_140 : decode cX1_energyWith 140 = .ok (.imul, 1) := by decide +kernel
theorem dX1_energyWith_141 : decode cX1_energyWith 141 = .ok (.iadd, 1) := by decide +kernel
theorem dX1_energyWith_142 : decode cX1_energyWith 142 = .ok (.istore 4, 2) := by decide +kernel
theorem dX1_energyWith_144 : decode cX1_energyWith 144 = .ok (.iload 4, 2) := by decide +kernel
theorem dX1_energyWith_146 : decode cX1_energyWith 146 = .ok (.ireturn, 1) := by decide +kernel
theorem dX1_energyAt_0 : decode cX1_energyAt 0 = .ok (.aload_n 0, 1) := by decide +kernel
theorem dX1_energyAt_1 : decode cX1_energyAt 1 = .ok (.iload_n 1, 1) := by decide +kernel
theorem dX1_energyAt_2 : decode cX1_energyAt 2 = .ok (.iload_n 2, 1) := by decide +kernel
theorem dX1_energyAt_3 : decode cX1_energyAt 3 = .ok (.aload_n 0, 1) := by decide +kernel
theorem dX1_energyAt_4 : decode cX1_energyAt 4 = .ok (.iload_n 1, 1) := by decide +kernel
theorem dX1_energyAt_5 : decode cX1_energyAt 5 = .ok (.iload_n 2, 1) := by decide +kernel
theorem dX1_energyAt_6 : decode cX1_energyAt 6 = .ok (.invokevirtual 88, 3) := by decide +kernel
theorem dX1_energyAt_9 : decode cX1_energyAt 9 = .ok (.invokevirtual 91, 3) := by decide +kernel
theorem dX1_energyAt_12 : decode cX1_energyAt 12 = .ok (.ireturn, 1) := by decide +kernel
theorem dX1_sum_0 : decode cX1_sum 0 = .ok (.iconst 0, 1) := by decide +kernel
theorem dX1_sum_1 : decode cX1_sum 1 = .ok (.istore_n 1, 1) := by decide +kernel
theorem dX1_sum_2 : decode cX1_sum 2 = .ok (.iconst 0, 1) := by decide +kernel
theorem dX1_sum_3 : decode cX1_sum 3 = .ok (.istore_n 2, 1) := by decide +kernel
theorem dX1_sum_4 : decode cX1_sum 4 = .ok (.iload_n 2, 1) := by decide +kernel
theorem dX1_sum_5 : decode cX1_sum 5 = .ok (.aload_n 0, 1) := by decide +kernel
theorem dX1_sum_6 : decode cX1_sum 6 = .ok (.getfield 36, 3) := by decide +kernel
theorem dX1_sum_9 : decode cX1_sum 9 = .ok (.if_icmp .ge 111, 3) := by decide +kernel
theorem dX1_sum_12 : decode cX1_sum 12 = .ok (.iconst 0, 1) := by decide +kernel
theorem dX1_sum_13 : decode cX1_sum 13 = .ok (.istore_n 3, 1) := by decide +kernel
theorem dX1_sum_14 : decode cX1_sum 14 = .ok (.iload_n 3, 1) := by decide +kernel
theorem dX1_sum_15 : decode cX1_sum 15 = .ok (.aload_n 0, 1) := by decide +kernel
theorem dX1_sum_16 : decode cX1_sum 16 = .ok (.getfield 32, 3) := by decide +kernel
theorem dX1_sum_19 : decode cX1_sum 19 = .ok (.if_icmp .ge 95, 3) := by decide +kernel
theorem dX1_sum_22 : decode cX1_sum 22 = .ok (.aload_n 0, 1) := by decide +kernel
theorem dX1_sum_23 : decode cX1_sum 23 = .ok (.iload_n 3, 1) := by decide +kernel
theorem dX1_sum_24 : decode cX1_sum 24 = .ok (.iload_n 2, 1) := by decide +kernel
theorem dX1_sum_25 : decode cX1_sum 25 = .ok (.invokevirtual 88, 3) := by decide +kernel
theorem dX1_sum_28 : decode cX1_sum 28 = .ok (.istore 4, 2) := by decide +kernel
theorem dX1_sum_30 : decode cX1_sum 30 = .ok (.iload_n 1, 1) := by decide +kernel
theorem dX1_sum_31 : decode cX1_sum 31 = .ok (.aload_n 0, 1) := by decide +kernel
theorem dX1_sum_32 : decode cX1_sum 32 = .ok (.iload_n 3, 1) := by decide +kernel
theorem dX1_sum_33 : decode cX1_sum 33 = .ok (.iload_n 2, 1) := by decide +kernel
theorem dX1_sum_34 : decode cX1_sum 34 = .ok (.invokestatic 55, 3) := by decide +kernel
theorem dX1_sum_37 : decode cX1_sum 37 = .ok (.iload 4, 2) := by decide +kernel
theorem dX1_sum_39 : decode cX1_sum 39 = .ok (.invokevirtual 81, 3) := by decide +kernel
theorem dX1_sum_42 : decode cX1_sum 42 = .ok (.iadd, 1) := by decide +kernel
theorem dX1_sum_43 : decode cX1_sum 43 = .ok (.istore_n 1, 1) := by decide +kernel
theorem dX1_sum_44 : decode cX1_sum 44 = .ok (.aload_n 0, 1) := by decide +kernel
theorem dX1_sum_45 : decode cX1_sum 45 = .ok (.iload_n 3, 1) := by decide +kernel
theorem dX1_sum_46 : decode cX1_sum 46 = .ok (.iconst 1, 1) := by decide +kernel
theorem dX1_sum_47 : decode cX1_sum 47 = .ok (.iadd, 1) := by decide +kernel
theorem dX1_sum_48 : decode cX1_sum 48 = .ok (.iload_n 2, 1) := by decide +kernel
theorem dX1_sum_49 : decode cX1_sum 49 = .ok (.invokevirtual 84, 3) := by decide +kernel
theorem dX1_sum_52 : decode cX1_sum 52 = .ok (.ifCond .eq 24, 3) := by decide +kernel
theorem dX1_sum_55 : decode cX1_sum 55 = .ok (.iload_n 1, 1) := by decide +kernel
theorem dX1_sum_56 : decode cX1_sum 56 = .ok (.aload_n 0, 1) := by decide +kernel
theorem dX1_sum_57 : decode cX1_sum 57 = .ok (.getfield 39, 3) := by decide +kernel
theorem dX1_sum_60 : decode cX1_sum 60 = .ok (.iload 4, 2) := by decide +kernel
theorem dX1_sum_62 : decode cX1_sum 62 = .ok (.aload_n 0, 1) := by decide +kernel
theorem dX1_sum_63 : decode cX1_sum 63 = .ok (.iload_n 3, 1) := by decide +kernel
theorem dX1_sum_64 : decode cX1_sum 64 = .ok (.iconst 1, 1) := by decide +kernel
theorem dX1_sum_65 : decode cX1_sum 65 = .ok (.iadd, 1) := by decide +kernel
theorem dX1_sum_66 : decode cX1_sum 66 = .ok (.iload_n 2, 1) := by decide +kernel
theorem dX1_sum_67 : decode cX1_sum 67 = .ok (.invokevirtual 88, 3) := by decide +kernel
theorem dX1_sum_70 : decode cX1_sum 70 = .ok (.invokestatic 70, 3) := by decide +kernel
theorem dX1_sum_73 : decode cX1_sum 73 = .ok (.imul, 1) := by decide +kernel
theorem dX1_sum_74 : decode cX1_sum 74 = .ok (.iadd, 1) := by decide +kernel
theorem dX1_sum_75 : decode cX1_sum 75 = .ok (.istore_n 1, 1) := by decide +kernel
theorem dX1_sum_76 : decode cX1_sum 76 = .ok (.aload_n 0, 1) := by decide +kernel
theorem dX1_sum_77 : decode cX1_sum 77 = .ok (.iload_n 3, 1) := by decide +kernel
theorem dX1_sum_78 : decode cX1_sum 78 = .ok (.iload_n 2, 1) := by decide +kernel
theorem dX1_sum_79 : decode cX1_sum 79 = .ok (.iconst 1, 1) := by decide +kernel
theorem dX1_sum_80 : decode cX1_sum 80 = .ok (.iadd, 1) := by decide +kernel
theorem dX1_sum_81 : decode cX1_sum 81 = .ok (.invokevirtual 84, 3) := by decide +kernel
theorem dX1_sum_84 : decode cX1_sum 84 = .ok (.ifCond .eq 24, 3) := by decide +kernel
theorem dX1_sum_87 : decode cX1_sum 87 = .ok (.iload_n 1, 1) := by decide +kernel
theorem dX1_sum_88 : decode cX1_sum 88 = .ok (.aload_n 0, 1) := by decide +kernel
theorem dX1_sum_89 : decode cX1_sum 89 = .ok (.getfield 42, 3) := by decide +kernel
theorem dX1_sum_92 : decode cX1_sum 92 = .ok (.iload 4, 2) := by decide +kernel
theorem dX1_sum_94 : decode cX1_sum 94 = .ok (.aload_n 0, 1) := by decide +kernel
theorem dX1_sum_95 : decode cX1_sum 95 = .ok (.iload_n 3, 1) := by decide +kernel
theorem dX1_sum_96 : decode cX1_sum 96 = .ok (.iload_n 2, 1) := by decide +kernel
theorem dX1_sum_97 : decode cX1_sum 97 = .ok (.iconst 1, 1) := by decide +kernel
theorem dX1_sum_98 : decode cX1_sum 98 = .ok (.iadd, 1) := by decide +kernel
theorem dX1_sum_99 : decode cX1_sum 99 = .ok (.invokevirtual 88, 3) := by decide +kernel
theorem dX1_sum_102 : decode cX1_sum 102 = .ok (.invokestatic 70, 3) := by decide +kernel
theorem dX1_sum_105 : decode cX1_sum 105 = .ok (.imul, 1) := by decide +kernel
theorem dX1_sum_106 : decode cX1_sum 106 = .ok (.iadd, 1) := by decide +kernel
theorem dX1_sum_107 : decode cX1_sum 107 = .ok (.istore_n 1, 1) := by decide +kernel
theorem dX1_sum_108 : decode cX1_sum 108 = .ok (.iinc 3 1, 3) := by decide +kernel
theorem dX1_sum_111 : decode cX1_sum 111 = .ok (.goto (-97), 3) := by decide +kernel
theorem dX1_sum_114 : decode cX1_sum 114 = .ok (.iinc 2 1, 3) := by decide +kernel
theorem dX1_sum_117 : decode cX1_sum 117 = .ok (.goto (-113), 3) := by decide +kernel
theorem dX1_sum_120 : decode cX1_sum 120 = .ok (.iload_n 1, 1) := by decide +kernel
theorem dX1_sum_121 : decode cX1_sum 121 = .ok (.ireturn, 1) := by decide +kernel
theorem dX1_grown_0 : decode cX1_grown 0 = .ok (.aload_n 0, 1) := by decide +kernel
theorem dX1_grown_1 : decode cX1_grown 1 = .ok (.dup, 1) := by decide +kernel
theorem dX1_grown_2 : decode cX1_grown 2 = .ok (.getfield 52, 3) := by decide +kernel
theorem dX1_grown_5 : decode cX1_grown 5 = .ok (.iload_n 1, 1) := by decide +kernel
theorem dX1_grown_6 : decode cX1_grown 6 = .ok (.iadd, 1) := by decide +kernel
theorem dX1_grown_7 : decode cX1_grown 7 = .ok (.putfield 52, 3) := by decide +kernel
theorem dX1_grown_10 : decode cX1_grown 10 = .ok (.iload_n 1, 1) := by decide +kernel
theorem dX1_grown_11 : decode cX1_grown 11 = .ok (.ireturn, 1) := by decide +kernel
theorem dX1_turnTo_0 : decode cX1_turnTo 0 = .ok (.aload_n 0, 1) := by decide +kernel
theorem dX1_turnTo_1 : decode cX1_turnTo 1 = .ok (.iload_n 1, 1) := by decide +kernel
theorem dX1_turnTo_2 : decode cX1_turnTo 2 = .ok (.iload_n 2, 1) := by decide +kernel
theorem dX1_turnTo_3 : decode cX1_turnTo 3 = .ok (.invokevirtual 102, 3) := by decide +kernel
theorem dX1_turnTo_6 : decode cX1_turnTo 6 = .ok (.istore 4, 2) := by decide +kernel
theorem dX1_turnTo_8 : decode cX1_turnTo 8 = .ok (.aload_n 0, 1) := by decide +kernel
theorem dX1_turnTo_9 : decode cX1_turnTo 9 = .ok (.getfield 14, 3) := by decide +kernel
theorem dX1_turnTo_12 : decode cX1_turnTo 12 = .ok (.iload_n 1, 1) := by decide +kernel
theorem dX1_turnTo_13 : decode cX1_turnTo 13 = .ok (.iload_n 2, 1) := by decide +kernel
theorem dX1_turnTo_14 : decode cX1_turnTo 14 = .ok (.invokestatic 55, 3) := by decide +kernel
theorem dX1_turnTo_17 : decode cX1_turnTo 17 = .ok (.iload_n 3, 1) := by decide +kernel
theorem dX1_turnTo_18 : decode cX1_turnTo 18 = .ok (.invokevirtual 66, 3) := by decide +kernel
theorem dX1_turnTo_21 : decode cX1_turnTo 21 = .ok (.aload_n 0, 1) := by decide +kernel
theorem dX1_turnTo_22 : decode cX1_turnTo 22 = .ok (.aload_n 0, 1) := by decide +kernel
theorem dX1_turnTo_23 : decode cX1_turnTo 23 = .ok (.iload_n 1, 1) := by decide +kernel
theorem dX1_turnTo_24 : decode cX1_turnTo 24 = .ok (.iload_n 2, 1) := by decide +kernel
theorem dX1_turnTo_25 : decode cX1_turnTo 25 = .ok (.invokevirtual 102, 3) := by decide +kernel
theorem dX1_turnTo_28 : decode cX1_turnTo 28 = .ok (.iload 4, 2) := by decide +kernel
theorem dX1_turnTo_30 : decode cX1_turnTo 30 = .ok (.isub, 1) := by decide +kernel
theorem dX1_turnTo_31 : decode cX1_turnTo 31 = .ok (.invokevirtual 99, 3) := by decide +kernel
theorem dX1_turnTo_34 : decode cX1_turnTo 34 = .ok (.ireturn, 1) := by decide +kernel
theorem dX1_hold_0 : decode cX1_hold 0 = .ok (.aload_n 0, 1) := by decide +kernel
theorem dX1_hold_1 : decode cX1_hold 1 = .ok (.iload_n 1, 1) := by decide +kernel
theorem dX1_hold_2 : decode cX1_hold 2 = .ok (.iload_n 2, 1) := by decide +kernel
theorem dX1_hold_3 : decode cX1_hold 3 = .ok (.invokevirtual 102, 3) := by decide +kernel
theorem dX1_hold_6 : decode cX1_hold 6 = .ok (.istore 6, 2) := by decide +kernel
theorem dX1_hold_8 : decode cX1_hold 8 = .ok (.iload_n 1, 1) := by decide +kernel
theorem dX1_hold_9 : decode cX1_hold 9 = .ok (.iload_n 2, 1) := by decide +kernel
theorem dX1_hold_10 : decode cX1_hold 10 = .ok (.invokestatic 55, 3) := by decide +kernel
theorem dX1_hold_13 : decode cX1_hold 13 = .ok (.istore 7, 2) := by decide +kernel
theorem dX1_hold_15 : decode cX1_hold 15 = .ok (.aload_n 0, 1) := by decide +kernel
theorem dX1_hold_16 : decode cX1_hold 16 = .ok (.getfield 20, 3) := by decide +kernel
theorem dX1_hold_19 : decode cX1_hold 19 = .ok (.iload 7, 2) := by decide +kernel
theorem dX1_hold_21 : decode cX1_hold 21 = .ok (.iload_n 3, 1) := by decide +kernel
theorem dX1_hold_22 : decode cX1_hold 22 = .ok (.invokevirtual 66, 3) := by decide +kernel
theorem dX1_hold_25 : decode cX1_hold 25 = .ok (.iload_n 3, 1) := by decide +kernel
theorem dX1_hold_26 : decode cX1_hold 26 = .ok (.iconst 2, 1) := by decide +kernel
theorem dX1_hold_27 : decode cX1_hold 27 = .ok (.if_icmp .ne 25, 3) := by decide +kernel
theorem dX1_hold_30 : decode cX1_hold 30 = .ok (.aload_n 0, 1) := by decide +kernel
theorem dX1_hold_31 : decode cX1_hold 31 = .ok (.getfield 23, 3) := by decide +kernel
theorem dX1_hold_34 : decode cX1_hold 34 = .ok (.iload 7, 2) := by decide +kernel
theorem dX1_hold_36 : decode cX1_hold 36 = .ok (.iload 4, 2) := by decide +kernel
theorem dX1_hold_38 : decode cX1_hold 38 = .ok (.invokevirtual 66, 3) := by decide +kernel
theorem dX1_hold_41 : decode cX1_hold 41 = .ok (.aload_n 0, 1) := by decide +kernel
theorem dX1_hold_42 : decode cX1_hold 42 = .ok (.getfield 26, 3) := by decide +kernel
theorem dX1_hold_45 : decode cX1_hold 45 = .ok (.iload 7, 2) := by decide +kernel
theorem dX1_hold_47 : decode cX1_hold 47 = .ok (.iload 5, 2) := by decide +kernel
theorem dX1_hold_49 : decode cX1_hold 49 = .ok (.invokevirtual 66, 3) := by decide +kernel
theorem dX1_hold_52 : decode cX1_hold 52 = .ok (.iload_n 3, 1) := by decide +kernel
theorem dX1_hold_53 : decode cX1_hold 53 = .ok (.iconst 1, 1) := by decide +kernel
theorem dX1_hold_54 : decode cX1_hold 54 = .ok (.if_icmp .ne 14, 3) := by decide +kernel
theorem dX1_hold_57 : decode cX1_hold 57 = .ok (.aload_n 0, 1) := by decide +kernel
theorem dX1_hold_58 : decode cX1_hold 58 = .ok (.getfield 14, 3) := by decide +kernel
theorem dX1_hold_61 : decode cX1_hold 61 = .ok (.iload 7, 2) := by decide +kernel
theorem dX1_hold_63 : decode cX1_hold 63 = .ok (.iload 4, 2) := by decide +kernel
theorem dX1_hold_65 : decode cX1_hold 65 = .ok (.invokevirtual 66, 3) := by decide +kernel
theorem dX1_hold_68 : decode cX1_hold 68 = .ok (.aload_n 0, 1) := by decide +kernel
theorem dX1_hold_69 : decode cX1_hold 69 = .ok (.aload_n 0, 1) := by decide +kernel
theorem dX1_hold_70 : decode cX1_hold 70 = .ok (.iload_n 1, 1) := by decide +kernel
theorem dX1_hold_71 : decode cX1_hold 71 = .ok (.iload_n 2, 1) := by decide +kernel
theorem dX1_hold_72 : decode cX1_hold 72 = .ok (.invokevirtual 102, 3) := by decide +kernel
theorem dX1_hold_75 : decode cX1_hold 75 = .ok (.iload 6, 2) := by decide +kernel
theorem dX1_hold_77 : decode cX1_hold 77 = .ok (.isub, 1) := by decide +kernel
theorem dX1_hold_78 : decode cX1_hold 78 = .ok (.invokevirtual 99, 3) := by decide +kernel
theorem dX1_hold_81 : decode cX1_hold 81 = .ok (.ireturn, 1) := by decide +kernel
theorem dX1_setField_0 : decode cX1_setField 0 = .ok (.aload_n 0, 1) := by decide +kernel
theorem dX1_setField_1 : decode cX1_setField 1 = .ok (.iload_n 1, 1) := by decide +kernel
theorem dX1_setField_2 : decode cX1_setField 2 = .ok (.invokevirtual 105, 3) := by decide +kernel
theorem dX1_setField_5 : decode cX1_setField 5 = .ok (.istore 4, 2) := by decide +kernel
theorem dX1_setField_7 : decode cX1_setField 7 = .ok (.aload_n 0, 1) := by decide +kernel
theorem dX1_setField_8 : decode cX1_setField 8 = .ok (.getfield 45, 3) := by decide +kernel
theorem dX1_setField_11 : decode cX1_setField 11 = .ok (.iload_n 1, 1) := by decide +kernel
theorem dX1_setField_12 : decode cX1_setField 12 = .ok (.iload_n 2, 1) := by decide +kernel
theorem dX1_setField_13 : decode cX1_setField 13 = .ok (.iload_n 3, 1) := by decide +kernel
theorem dX1_setField_14 : decode cX1_setField 14 = .ok (.invokevirtual 108, 3) := by decide +kernel
theorem dX1_setField_17 : decode cX1_setField 17 = .ok (.aload_n 0, 1) := by decide +kernel
theorem dX1_setField_18 : decode cX1_setField 18 = .ok (.aload_n 0, 1) := by decide +kernel
theorem dX1_setField_19 : decode cX1_setField 19 = .ok (.iload_n 1, 1) := by decide +kernel
theorem dX1_setField_20 : decode cX1_setField 20 = .ok (.invokevirtual 105, 3) := by decide +kernel
theorem dX1_setField_23 : decode cX1_setField 23 = .ok (.iload 4, 2) := by decide +kernel
theorem dX1_setField_25 : decode cX1_setField 25 = .ok (.isub, 1) := by decide +kernel
theorem dX1_setField_26 : decode cX1_setField 26 = .ok (.invokevirtual 99, 3) := by decide +kernel
theorem dX1_setField_29 : decode cX1_setField 29 = .ok (.ireturn, 1) := by decide +kernel
theorem dX1_heldInPixel_0 : decode cX1_heldInPixel 0 = .ok (.iconst 0, 1) := by decide +kernel
theorem dX1_heldInPixel_1 : decode cX1_heldInPixel 1 = .ok (.istore_n 2, 1) := by decide +kernel
theorem dX1_heldInPixel_2 : decode cX1_heldInPixel 2 = .ok (.aload_n 0, 1) := by decide +kernel
theorem dX1_heldInPixel_3 : decode cX1_heldInPixel 3 = .ok (.getfield 45, 3) := by decide +kernel
theorem dX1_heldInPixel_6 : decode cX1_heldInPixel 6 = .ok (.iload_n 1, 1) := by decide +kernel
theorem dX1_heldInPixel_7 : decode cX1_heldInPixel 7 = .ok (.invokevirtual 112, 3) := by decide +kernel
theorem dX1_heldInPixel_10 : decode cX1_heldInPixel 10 = .ok (.istore_n 3, 1) := by decide +kernel
theorem dX1_heldInPixel_11 : decode cX1_heldInPixel 11 = .ok (.aload_n 0, 1) := by decide +kernel
theorem dX1_heldInPixel_12 : decode cX1_heldInPixel 12 = .ok (.getfield 45, 3) := by decide +kernel
theorem dX1_heldInPixel_15 : decode cX1_heldInPixel 15 = .ok (.iload_n 1, 1) := by decide +kernel
theorem dX1_heldInPixel_16 : decode cX1_heldInPixel 16 = .ok (.invokevirtual 115, 3) := by decide +kernel
theorem dX1_heldInPixel_19 : decode cX1_heldInPixel 19 = .ok (.istore 4, 2) := by decide +kernel
theorem dX1_heldInPixel_21 : decode cX1_heldInPixel 21 = .ok (.iload_n 3, 1) := by decide +kernel
theorem dX1_heldInPixel_22 : decode cX1_heldInPixel 22 = .ok (.aload_n 0, 1) := by decide +kernel
theorem dX1_heldInPixel_23 : decode cX1_heldInPixel 23 = .ok (.getfield 45, 3) := by decide +kernel
theorem dX1_heldInPixel_26 : decode cX1_heldInPixel 26 = .ok (.iload_n 1, 1) := by decide +kernel
theorem dX1_heldInPixel_27 : decode cX1_heldInPixel 27 = .ok (.invokevirtual 118, 3) := by decide +kernel
theorem dX1_heldInPixel_30 : decode cX1_heldInPixel 30 = .ok (.iadd, 1) := by decide +kernel
theorem dX1_heldInPixel_31 : decode cX1_heldInPixel 31 = .ok (.istore 5, 2) := by decide +kernel
theorem dX1_heldInPixel_33 : decode cX1_heldInPixel 33 = .ok (.iload 4, 2) := by decide +kernel
theorem dX1_heldInPixel_35 : decode cX1_heldInPixel 35 = .ok (.aload_n 0, 1) := by decide +kernel
theorem dX1_heldInPixel_36 : decode cX1_heldInPixel 36 = .ok (.getfield 45, 3) := by decide +kernel
theorem dX1_heldInPixel_39 : decode cX1_heldInPixel 39 = .ok (.iload_n 1, 1) := by decide +kernel
theorem dX1_heldInPixel_40 : decode cX1_heldInPixel 40 = .ok (.invokevirtual 120, 3) := by decide +kernel
theorem dX1_heldInPixel_43 : decode cX1_heldInPixel 43 = .ok (.iadd, 1) := by decide +kernel
theorem dX1_heldInPixel_44 : decode cX1_heldInPixel 44 = .ok (.istore 6, 2) := by decide +kernel
theorem dX1_heldInPixel_46 : decode cX1_heldInPixel 46 = .ok (.iload 4, 2) := by decide +kernel
theorem dX1_heldInPixel_48 : decode cX1_heldInPixel 48 = .ok (.istore 7, 2) := by decide +kernel
theorem dX1_heldInPixel_50 : decode cX1_heldInPixel 50 = .ok (.iload 7, 2) := by decide +kernel
theorem dX1_heldInPixel_52 : decode cX1_heldInPixel 52 = .ok (.iload 6, 2) := by decide +kernel
theorem dX1_heldInPixel_54 : decode cX1_heldInPixel 54 = .ok (.if_icmp .ge 47, 3) := by decide +kernel
theorem dX1_heldInPixel_57 : decode cX1_heldInPixel 57 = .ok (.iload_n 3, 1) := by decide +kernel
theorem dX1_heldInPixel_58 : decode cX1_heldInPixel 58 = .ok (.istore 8, 2) := by decide +kernel
theorem dX1_heldInPixel_60 : decode cX1_heldInPixel 60 = .ok (.iload 8, 2) := by decide +kernel
theorem dX1_heldInPixel_62 : decode cX1_heldInPixel 62 = .ok (.iload 5, 2) := by decide +kernel
theorem dX1_heldInPixel_64 : decode cX1_heldInPixel 64 = .ok (.if_icmp .ge 31, 3) := by decide +kernel
theorem dX1_heldInPixel_67 : decode cX1_heldInPixel 67 = .ok (.iload_n 2, 1) := by decide +kernel
theorem dX1_heldInPixel_68 : decode cX1_heldInPixel 68 = .ok (.aload_n 0, 1) := by decide +kernel
theorem dX1_heldInPixel_69 : decode cX1_heldInPixel 69 = .ok (.iload 8, 2) := by decide +kernel
theorem dX1_heldInPixel_71 : decode cX1_heldInPixel 71 = .ok (.iload 7, 2) := by decide +kernel
theorem dX1_heldInPixel_73 : decode cX1_heldInPixel 73 = .ok (.invokestatic 55, 3) := by decide +kernel
theorem dX1_heldInPixel_76 : decode cX1_heldInPixel 76 = .ok (.aload_n 0, 1) := by decide +kernel
theorem dX1_heldInPixel_77 : decode cX1_heldInPixel 77 = .ok (.iload 8, 2) := by decide +kernel
theorem dX1_heldInPixel_79 : decode cX1_heldInPixel 79 = .ok (.iload 7, 2) := by decide +kernel
theorem dX1_heldInPixel_81 : decode cX1_heldInPixel 81 = .ok (.invokevirtual 88, 3) := by decide +kernel
theorem dX1_heldInPixel_84 : decode cX1_heldInPixel 84 = .ok (.invokevirtual 81, 3) := by decide +kernel
theorem dX1_heldInPixel_87 : decode cX1_heldInPixel 87 = .ok (.iadd, 1) := by decide +kernel
theorem dX1_heldInPixel_88 : decode cX1_heldInPixel 88 = .ok (.istore_n 2, 1) := by decide +kernel
theorem dX1_heldInPixel_89 : decode cX1_heldInPixel 89 = .ok (.iinc 8 1, 3) := by decide +kernel
theorem dX1_heldInPixel_92 : decode cX1_heldInPixel 92 = .ok (.goto (-32), 3) := by decide +kernel
theorem dX1_heldInPixel_95 : decode cX1_heldInPixel 95 = .ok (.iinc 7 1, 3) := by decide +kernel
theorem dX1_heldInPixel_98 : decode cX1_heldInPixel 98 = .ok (.goto (-48), 3) := by decide +kernel
theorem dX1_heldInPixel_101 : decode cX1_heldInPixel 101 = .ok (.iload_n 2, 1) := by decide +kernel
theorem dX1_heldInPixel_102 : decode cX1_heldInPixel 102 = .ok (.ireturn, 1) := by decide +kernel
theorem dX1_relax_0 : decode cX1_relax 0 = .ok (.aload_n 0, 1) := by decide +kernel
theorem dX1_relax_1 : decode cX1_relax 1 = .ok (.getfield 52, 3) := by decide +kernel
theorem dX1_relax_4 : decode cX1_relax 4 = .ok (.istore_n 1, 1) := by decide +kernel
theorem dX1_relax_5 : decode cX1_relax 5 = .ok (.iconst 0, 1) := by decide +kernel
theorem dX1_relax_6 : decode cX1_relax 6 = .ok (.istore_n 2, 1) := by decide +kernel
theorem dX1_relax_7 : decode cX1_relax 7 = .ok (.iload_n 2, 1) := by decide +kernel
theorem dX1_relax_8 : decode cX1_relax 8 = .ok (.aload_n 0, 1) := by decide +kernel
theorem dX1_relax_9 : decode cX1_relax 9 = .ok (.getfield 36, 3) := by decide +kernel
theorem dX1_relax_12 : decode cX1_relax 12 = .ok (.if_icmp .ge 41, 3) := by decide +kernel
theorem dX1_relax_15 : decode cX1_relax 15 = .ok (.iconst 0, 1) := by decide +kernel
theorem dX1_relax_16 : decode cX1_relax 16 = .ok (.istore_n 3, 1) := by decide +kernel
theorem dX1_relax_17 : decode cX1_relax 17 = .ok (.iload_n 3, 1) := by decide +kernel
theorem dX1_relax_18 : decode cX1_relax 18 = .ok (.aload_n 0, 1) := by decide +kernel
theorem dX1_relax_19 : decode cX1_relax 19 = .ok (.getfield 32, 3) := by decide +kernel
theorem dX1_relax_22 : decode cX1_relax 22 = .ok (.if_icmp .ge 25, 3) := by decide +kernel
theorem dX1_relax_25 : decode cX1_relax 25 = .ok (.aload_n 0, 1) := by decide +kernel
theorem dX1_relax_26 : decode cX1_relax 26 = .ok (.iload_n 3, 1) := by decide +kernel
theorem dX1_relax_27 : decode cX1_relax 27 = .ok (.iload_n 2, 1) := by decide +kernel
theorem dX1_relax_28 : decode cX1_relax 28 = .ok (.invokevirtual 122, 3) := by decide +kernel
theorem dX1_relax_31 : decode cX1_relax 31 = .ok (.iconst 1, 1) := by decide +kernel
theorem dX1_relax_32 : decode cX1_relax 32 = .ok (.if_icmp .eq 9, 3) := by decide +kernel
theorem dX1_relax_35 : decode cX1_relax 35 = .ok (.aload_n 0, 1) := by decide +kernel
theorem dX1_relax_36 : decode cX1_relax 36 = .ok (.iload_n 3, 1) := by decide +kernel
theorem dX1_relax_37 : decode cX1_relax 37 = .ok (.iload_n 2, 1) := by decide +kernel
theorem dX1_relax_38 : decode cX1_relax 38 = .ok (.invokevirtual 125, 3) := by decide +kernel
theorem dX1_relax_41 : decode cX1_relax 41 = .ok (.iinc 3 1, 3) := by decide +kernel
theorem dX1_relax_44 : decode cX1_relax 44 = .ok (.goto (-27), 3) := by decide +kernel
theorem dX1_relax_47 : decode cX1_relax 47 = .ok (.iinc 2 1, 3) := by decide +kernel
theorem dX1_relax_50 : decode cX1_relax 50 = .ok (.goto (-43), 3) := by decide +kernel
theorem dX1_relax_53 : decode cX1_relax 53 = .ok (.iload_n 1, 1) := by decide +kernel
theorem dX1_relax_54 : decode cX1_relax 54 = .ok (.aload_n 0, 1) := by decide +kernel
theorem dX1_relax_55 : decode cX1_relax 55 = .ok (.getfield 52, 3) := by decide +kernel
theorem dX1_relax_58 : decode cX1_relax 58 = .ok (.isub, 1) := by decide +kernel
theorem dX1_relax_59 : decode cX1_relax 59 = .ok (.ireturn, 1) := by decide +kernel
theorem dX1_settle_0 : decode cX1_settle 0 = .ok (.aload_n 0, 1) := by decide +kernel
theorem dX1_settle_1 : decode cX1_settle 1 = .ok (.iload_n 1, 1) := by decide +kernel
theorem dX1_settle_2 : decode cX1_settle 2 = .ok (.iload_n 2, 1) := by decide +kernel
theorem dX1_settle_3 : decode cX1_settle 3 = .ok (.invokevirtual 88, 3) := by decide +kernel
theorem dX1_settle_6 : decode cX1_settle 6 = .ok (.istore_n 3, 1) := by decide +kernel
theorem dX1_settle_7 : decode cX1_settle 7 = .ok (.iload_n 3, 1) := by decide +kernel
theorem dX1_settle_8 : decode cX1_settle 8 = .ok (.ifCond .ne 8, 3) := by decide +kernel
theorem dX1_settle_11 : decode cX1_settle 11 = .ok (.bipush 14, 2) := by decide +kernel
theorem dX1_settle_13 : decode cX1_settle 13 = .ok (.goto 6, 3) := by decide +kernel
theorem dX1_settle_16 : decode cX1_settle 16 = .ok (.iload_n 3, 1) := by decide +kernel
theorem dX1_settle_17 : decode cX1_settle 17 = .ok (.iconst 1, 1) := by decide +kernel
theorem dX1_settle_18 : decode cX1_settle 18 = .ok (.isub, 1) := by decide +kernel
theorem dX1_settle_19 : decode cX1_settle 19 = .ok (.istore 4, 2) := by decide +kernel
theorem dX1_settle_21 : decode cX1_settle 21 = .ok (.iload_n 3, 1) := by decide +kernel
theorem dX1_settle_22 : decode cX1_settle 22 = .ok (.bipush 14, 2) := by decide +kernel
theorem dX1_settle_24 : decode cX1_settle 24 = .ok (.if_icmp .ne 7, 3) := by decide +kernel
theorem dX1_settle_27 : decode cX1_settle 27 = .ok (.iconst 0, 1) := by decide +kernel
theorem dX1_settle_28 : decode cX1_settle 28 = .ok (.goto 6, 3) := by decide +kernel
theorem dX1_settle_31 : decode cX1_settle 31 = .ok (.iload_n 3, 1) := by decide +kernel
theorem dX1_settle_32 : decode cX1_settle 32 = .ok (.iconst 1, 1) := by decide +kernel
theorem dX1_settle_33 : decode cX1_settle 33 = .ok (.iadd, 1) := by decide +kernel
theorem dX1_settle_34 : decode cX1_settle 34 = .ok (.istore 5, 2) := by decide +kernel
theorem dX1_settle_36 : decode cX1_settle 36 = .ok (.aload_n 0, 1) := by decide +kernel
theorem dX1_settle_37 : decode cX1_settle 37 = .ok (.iload_n 1, 1) := by decide +kernel
theorem dX1_settle_38 : decode cX1_settle 38 = .ok (.iload_n 2, 1) := by decide +kernel
theorem dX1_settle_39 : decode cX1_settle 39 = .ok (.iload_n 3, 1) := by decide +kernel
theorem dX1_settle_40 : decode cX1_settle 40 = .ok (.invokevirtual 91, 3) := by decide +kernel
theorem dX1_settle_43 : decode cX1_settle 43 = .ok (.istore 6, 2) := by decide +kernel
theorem dX1_settle_45 : decode cX1_settle 45 = .ok (.aload_n 0, 1) := by decide +kernel
theorem dX1_settle_46 : decode cX1_settle 46 = .ok (.iload_n 1, 1) := by decide +kernel
theorem dX1_settle_47 : decode cX1_settle 47 = .ok (.iload_n 2, 1) := by decide +kernel
theorem dX1_settle_48 : decode cX1_settle 48 = .ok (.iload 4, 2) := by decide +kernel
theorem dX1_settle_50 : decode cX1_settle 50 = .ok (.invokevirtual 91, 3) := by decide +kernel
theorem dX1_settle_53 : decode cX1_settle 53 = .ok (.istore 7, 2) := by decide +kernel
theorem dX1_settle_55 : decode cX1_settle 55 = .ok (.aload_n 0, 1) := by decide +kernel
theorem dX1_settle_56 : decode cX1_settle 56 = .ok (.iload_n 1, 1) := by decide +kernel
theorem dX1_settle_57 : decode cX1_settle 57 = .ok (.iload_n 2, 1) := by decide +kernel
theorem dX1_settle_58 : decode cX1_settle 58 = .ok (.iload 5, 2) := by decide +kernel
theorem dX1_settle_60 : decode cX1_settle 60 = .ok (.invokevirtual 91, 3) := by decide +kernel
theorem dX1_settle_63 : decode cX1_settle 63 = .ok (.istore 8, 2) := by decide +kernel
theorem dX1_settle_65 : decode cX1_settle 65 = .ok (.iload_n 3, 1) := by decide +kernel
theorem dX1_settle_66 : decode cX1_settle 66 = .ok (.istore 9, 2) := by decide +kernel
theorem dX1_settle_68 : decode cX1_settle 68 = .ok (.iload 6, 2) := by decide +kernel
theorem dX1_settle_70 : decode cX1_settle 70 = .ok (.istore 10, 2) := by decide +kernel
theorem dX1_settle_72 : decode cX1_settle 72 = .ok (.iload 7, 2) := by decide +kernel
theorem dX1_settle_74 : decode cX1_settle 74 = .ok (.iload 10, 2) := by decide +kernel
theorem dX1_settle_76 : decode cX1_settle 76 = .ok (.if_icmp .ge 11, 3) := by decide +kernel
theorem dX1_settle_79 : decode cX1_settle 79 = .ok (.iload 4, 2) := by decide +kernel
theorem dX1_settle_81 : decode cX1_settle 81 = .ok (.istore 9, 2) := by decide +kernel
theorem dX1_settle_83 : decode cX1_settle 83 = .ok (.iload 7, 2) := by decide +kernel
theorem dX1_settle_85 : decode cX1_settle 85 = .ok (.istore 10, 2) := by decide +kernel
theorem dX1_settle_87 : decode cX1_settle 87 = .ok (.iload 8, 2) := by decide +kernel
theorem dX1_settle_89 : decode cX1_settle 89 = .ok (.iload 10, 2) := by decide +kernel
theorem dX1_settle_91 : decode cX1_settle 91 = .ok (.if_icmp .ge 11, 3) := by decide +kernel
theorem dX1_settle_94 : decode cX1_settle 94 = .ok (.iload 5, 2) := by decide +kernel
theorem dX1_settle_96 : decode cX1_settle 96 = .ok (.istore 9, 2) := by decide +kernel
theorem dX1_settle_98 : decode cX1_settle 98 = .ok (.iload 8, 2) := by decide +kernel
theorem dX1_settle_100 : decode cX1_settle 100 = .ok (.istore 10, 2) := by decide +kernel
theorem dX1_settle_102 : decode cX1_settle 102 = .ok (.aload_n 0, 1) := by decide +kernel
theorem dX1_settle_103 : decode cX1_settle 103 = .ok (.getfield 14, 3) := by decide +kernel
theorem dX1_settle_106 : decode cX1_settle 106 = .ok (.iload_n 1, 1) := by decide +kernel
theorem dX1_settle_107 : decode cX1_settle 107 = .ok (.iload_n 2, 1) := by decide +kernel
theorem dX1_settle_108 : decode cX1_settle 108 = .ok (.invokestatic 55, 3) := by decide +kernel
theorem dX1_settle_111 : decode cX1_settle 111 = .ok (.iload 9, 2) := by decide +kernel
theorem dX1_settle_113 : decode cX1_settle 113 = .ok (.invokevirtual 66, 3) := by decide +kernel
theorem dX1_settle_116 : decode cX1_settle 116 = .ok (.aload_n 0, 1) := by decide +kernel
theorem dX1_settle_117 : decode cX1_settle 117 = .ok (.iload 10, 2) := by decide +kernel
theorem dX1_settle_119 : decode cX1_settle 119 = .ok (.iload 6, 2) := by decide +kernel
theorem dX1_settle_121 : decode cX1_settle 121 = .ok (.isub, 1) := by decide +kernel
theorem dX1_settle_122 : decode cX1_settle 122 = .ok (.invokevirtual 99, 3) := by decide +kernel
theorem dX1_settle_125 : decode cX1_settle 125 = .ok (.pop, 1) := by decide +kernel
theorem dX1_settle_126 : decode cX1_settle 126 = .ok (.return_, 1) := by decide +kernel
theorem dX1_greyOfPixel_0 : decode cX1_greyOfPixel 0 = .ok (.iconst 0, 1) := by decide +kernel
theorem dX1_greyOfPixel_1 : decode cX1_greyOfPixel 1 = .ok (.istore_n 3, 1) := by decide +kernel
theorem dX1_greyOfPixel_2 : decode cX1_greyOfPixel 2 = .ok (.iconst 0, 1) := by decide +kernel
theorem dX1_greyOfPixel_3 : decode cX1_greyOfPixel 3 = .ok (.istore 4, 2) := by decide +kernel
theorem dX1_greyOfPixel_5 : decode cX1_greyOfPixel 5 = .ok (.aload_n 0, 1) := by decide +kernel
theorem dX1_greyOfPixel_6 : decode cX1_greyOfPixel 6 = .ok (.getfield 45, 3) := by decide +kernel
theorem dX1_greyOfPixel_9 : decode cX1_greyOfPixel 9 = .ok (.iload_n 1, 1) := by decide +kernel
theorem dX1_greyOfPixel_10 : decode cX1_greyOfPixel 10 = .ok (.invokevirtual 112, 3) := by decide +kernel
theorem dX1_greyOfPixel_13 : decode cX1_greyOfPixel 13 = .ok (.istore 5, 2) := by decide +kernel
theorem dX1_greyOfPixel_15 : decode cX1_greyOfPixel 15 = .ok (.aload_n 0, 1) := by decide +kernel
theorem dX1_greyOfPixel_16 : decode cX1_greyOfPixel 16 = .ok (.getfield 45, 3) := by decide +kernel
theorem dX1_greyOfPixel_19 : decode cX1_greyOfPixel 19 = .ok (.iload_n 1, 1) := by decide +kernel
theorem dX1_greyOfPixel_20 : decode cX1_greyOfPixel 20 = .ok (.invokevirtual 115, 3) := by decide +kernel
theorem dX1_greyOfPixel_23 : decode cX1_greyOfPixel 23 = .ok (.istore 6, 2) := by decide +kernel
theorem dX1_greyOfPixel_25 : decode cX1_greyOfPixel 25 = .ok (.iload 5, 2) := by decide +kernel
theorem dX1_greyOfPixel_27 : decode cX1_greyOfPixel 27 = .ok (.aload_n 0, 1) := by decide +kernel
theorem dX1_greyOfPixel_28 : decode cX1_greyOfPixel 28 = .ok (.getfield 45, 3) := by decide +kernel
theorem dX1_greyOfPixel_31 : decode cX1_greyOfPixel 31 = .ok (.iload_n 1, 1) := by decide +kernel
theorem dX1_greyOfPixel_32 : decode cX1_greyOfPixel 32 = .ok (.invokevirtual 118, 3) := by decide +kernel
theorem dX1_greyOfPixel_35 : decode cX1_greyOfPixel 35 = .ok (.iadd, 1) := by decide +kernel
theorem dX1_greyOfPixel_36 : decode cX1_greyOfPixel 36 = .ok (.istore 7, 2) := by decide +kernel
theorem dX1_greyOfPixel_38 : decode cX1_greyOfPixel 38 = .ok (.iload 6, 2) := by decide +kernel
theorem dX1_greyOfPixel_40 : decode cX1_greyOfPixel 40 = .ok (.aload_n 0, 1) := by decide +kernel
theorem dX1_greyOfPixel_41 : decode cX1_greyOfPixel 41 = .ok (.getfield 45, 3) := by decide +kernel
theorem dX1_greyOfPixel_44 : decode cX1_greyOfPixel 44 = .ok (.iload_n 1, 1) := by decide +kernel
theorem dX1_greyOfPixel_45 : decode cX1_greyOfPixel 45 = .ok (.invokevirtual 120, 3) := by decide +kernel
theorem dX1_greyOfPixel_48 : decode cX1_greyOfPixel 48 = .ok (.iadd, 1) := by decide +kernel
theorem dX1_greyOfPixel_49 : decode cX1_greyOfPixel 49 = .ok (.istore 8, 2) := by decide +kernel
theorem dX1_greyOfPixel_51 : decode cX1_greyOfPixel 51 = .ok (.iload 6, 2) := by decide +kernel
theorem dX1_greyOfPixel_53 : decode cX1_greyOfPixel 53 = .ok (.istore 9, 2) := by decide +kernel
theorem dX1_greyOfPixel_55 : decode cX1_greyOfPixel 55 = .ok (.iload 9, 2) := by decide +kernel
theorem dX1_greyOfPixel_57 : decode cX1_greyOfPixel 57 = .ok (.iload 8, 2) := by decide +kernel
theorem dX1_greyOfPixel_59 : decode cX1_greyOfPixel 59 = .ok (.if_icmp .ge 44, 3) := by decide +kernel
theorem dX1_greyOfPixel_62 : decode cX1_greyOfPixel 62 = .ok (.iload 5, 2) := by decide +kernel
theorem dX1_greyOfPixel_64 : decode cX1_greyOfPixel 64 = .ok (.istore 10, 2) := by decide +kernel
theorem dX1_greyOfPixel_66 : decode cX1_greyOfPixel 66 = .ok (.iload 10, 2) := by decide +kernel
theorem dX1_greyOfPixel_68 : decode cX1_greyOfPixel 68 = .ok (.iload 7, 2) := by decide +kernel
theorem dX1_greyOfPixel_70 : decode cX1_greyOfPixel 70 = .ok (.if_icmp .ge 27, 3) := by decide +kernel
theorem dX1_greyOfPixel_73 : decode cX1_greyOfPixel 73 = .ok (.iload_n 3, 1) := by decide +kernel
theorem dX1_greyOfPixel_74 : decode cX1_greyOfPixel 74 = .ok (.aload_n 0, 1) := by decide +kernel
theorem dX1_greyOfPixel_75 : decode cX1_greyOfPixel 75 = .ok (.iload 10, 2) := by decide +kernel
theorem dX1_greyOfPixel_77 : decode cX1_greyOfPixel 77 = .ok (.iload 9, 2) := by decide +kernel
theorem dX1_greyOfPixel_79 : decode cX1_greyOfPixel 79 = .ok (.invokevirtual 88, 3) := by decide +kernel
theorem dX1_greyOfPixel_82 : decode cX1_greyOfPixel 82 = .ok (.iload_n 2, 1) := by decide +kernel
theorem dX1_greyOfPixel_83 : decode cX1_greyOfPixel 83 = .ok (.invokestatic 133, 3) := by decide +kernel
theorem dX1_greyOfPixel_86 : decode cX1_greyOfPixel 86 = .ok (.iadd, 1) := by decide +kernel
theorem dX1_greyOfPixel_87 : decode cX1_greyOfPixel 87 = .ok (.istore_n 3, 1) := by decide +kernel
theorem dX1_greyOfPixel_88 : decode cX1_greyOfPixel 88 = .ok (.iinc 4 1, 3) := by decide +kernel
theorem dX1_greyOfPixel_91 : decode cX1_greyOfPixel 91 = .ok (.iinc 10 1, 3) := by decide +kernel
theorem dX1_greyOfPixel_94 : decode cX1_greyOfPixel 94 = .ok (.goto (-28), 3) := by decide +kernel
theorem dX1_greyOfPixel_97 : decode cX1_greyOfPixel 97 = .ok (.iinc 9 1, 3) := by decide +kernel
theorem dX1_greyOfPixel_100 : decode cX1_greyOfPixel 100 = .ok (.goto (-45), 3) := by decide +kernel
theorem dX1_greyOfPixel_103 : decode cX1_greyOfPixel 103 = .ok (.iload 4, 2) := by decide +kernel
theorem dX1_greyOfPixel_105 : decode cX1_greyOfPixel 105 = .ok (.ifCond .le 10, 3) := by decide +kernel
theorem dX1_greyOfPixel_108 : decode cX1_greyOfPixel 108 = .ok (.iload_n 3, 1) := by decide +kernel
theorem dX1_greyOfPixel_109 : decode cX1_greyOfPixel 109 = .ok (.iload 4, 2) := by decide +kernel
theorem dX1_greyOfPixel_111 : decode cX1_greyOfPixel 111 = .ok (.idiv, 1) := by decide +kernel
theorem dX1_greyOfPixel_112 : decode cX1_greyOfPixel 112 = .ok (.goto 4, 3) := by decide +kernel
theorem dX1_greyOfPixel_115 : decode cX1_greyOfPixel 115 = .ok (.iconst 0, 1) := by decide +kernel
theorem dX1_greyOfPixel_116 : decode cX1_greyOfPixel 116 = .ok (.ireturn, 1) := by decide +kernel
theorem dX2_init_0 : decode cX2_init 0 = .ok (.aload_n 0, 1) := by decide +kernel
theorem dX2_init_1 : decode cX2_init 1 = .ok (.invokespecial 3, 3) := by decide +kernel
theorem dX2_init_4 : decode cX2_init 4 = .ok (.aload_n 0, 1) := by decide +kernel
theorem dX2_init_5 : decode cX2_init 5 = .ok (.new 9, 3) := by decide +kernel
theorem dX2_init_8 : decode cX2_init 8 = .ok (.dup, 1) := by decide +kernel
theorem dX2_init_9 : decode cX2_init 9 = .ok (.bipush 10, 2) := by decide +kernel
theorem dX2_init_11 : decode cX2_init 11 = .ok (.invokespecial 11, 3) := by decide +kernel
theorem dX2_init_14 : decode cX2_init 14 = .ok (.putfield 14, 3) := by decide +kernel
theorem dX2_init_17 : decode cX2_init 17 = .ok (.aload_n 0, 1) := by decide +kernel
theorem dX2_init_18 : decode cX2_init 18 = .ok (.new 9, 3) := by decide +kernel
theorem dX2_init_21 : decode cX2_init 21 = .ok (.dup, 1) := by decide +kernel
theorem dX2_init_22 : decode cX2_init 22 = .ok (.sipush 1440, 3) := by decide +kernel
theorem dX2_init_25 : decode cX2_init 25 = .ok (.invokespecial 11, 3) := by decide +kernel
theorem dX2_init_28 : decode cX2_init 28 = .ok (.putfield 20, 3) := by decide +kernel
theorem dX2_init_31 : decode cX2_init 31 = .ok (.return_, 1) := by decide +kernel
theorem dX3_init_0 : decode cX3_init 0 = .ok (.aload_n 0, 1) := by decide +kernel
theorem dX3_init_1 : decode cX3_init 1 = .ok (.invokespecial 3, 3) := by decide +kernel
theorem dX3_init_4 : decode cX3_init 4 = .ok (.aload_n 0, 1) := by decide +kernel
theorem dX3_init_5 : decode cX3_init 5 = .ok (.new 9, 3) := by decide +kernel
theorem dX3_init_8 : decode cX3_init 8 = .ok (.dup, 1) := by decide +kernel
theorem dX3_init_9 : decode cX3_init 9 = .ok (.bipush 8, 2) := by decide +kernel
theorem dX3_init_11 : decode cX3_init 11 = .ok (.invokespecial 11, 3) := by decide +kernel
theorem dX3_init_14 : decode cX3_init 14 = .ok (.putfield 14, 3) := by decide +kernel
theorem dX3_init_17 : decode cX3_init 17 = .ok (.aload_n 0, 1) := by decide +kernel
theorem dX3_init_18 : decode cX3_init 18 = .ok (.new 9, 3) := by decide +kernel
theorem dX3_init_21 : decode cX3_init 21 = .ok (.dup, 1) := by decide +kernel
theorem dX3_init_22 : decode cX3_init 22 = .ok (.bipush 8, 2) := by decide +kernel
theorem dX3_init_24 : decode cX3_init 24 = .ok (.invokespecial 11, 3) := by decide +kernel
theorem dX3_init_27 : decode cX3_init 27 = .ok (.putfield 20, 3) := by decide +kernel
theorem dX3_init_30 : decode cX3_init 30 = .ok (.aload_n 0, 1) := by decide +kernel
theorem dX3_init_31 : decode cX3_init 31 = .ok (.new 9, 3) := by decide +kernel
theorem dX3_init_34 : decode cX3_init 34 = .ok (.dup, 1) := by decide +kernel
theorem dX3_init_35 : decode cX3_init 35 = .ok (.bipush 8, 2) := by decide +kernel
theorem dX3_init_37 : decode cX3_init 37 = .ok (.invokespecial 11, 3) := by decide +kernel
theorem dX3_init_40 : decode cX3_init 40 = .ok (.putfield 23, 3) := by decide +kernel
theorem dX3_init_43 : decode cX3_init 43 = .ok (.aload_n 0, 1) := by decide +kernel
theorem dX3_init_44 : decode cX3_init 44 = .ok (.new 9, 3) := by decide +kernel
theorem dX3_init_47 : decode cX3_init 47 = .ok (.dup, 1) := by decide +kernel
theorem dX3_init_48 : decode cX3_init 48 = .ok (.bipush 8, 2) := by decide +kernel
theorem dX3_init_50 : decode cX3_init 50 = .ok (.invokespecial 11, 3) := by decide +kernel
theorem dX3_init_53 : decode cX3_init 53 = .ok (.putfield 26, 3) := by decide +kernel
theorem dX3_init_56 : decode cX3_init 56 = .ok (.aload_n 0, 1) := by decide +kernel
theorem dX3_init_57 : decode cX3_init 57 = .ok (.new 9, 3) := by decide +kernel
theorem dX3_init_60 : decode cX3_init 60 = .ok (.dup, 1) := by decide +kernel
theorem dX3_init_61 : decode cX3_init 61 = .ok (.bipush 8, 2) := by decide +kernel
theorem dX3_init_63 : decode cX3_init 63 = .ok (.invokespecial 11, 3) := by decide +kernel
theorem dX3_init_66 : decode cX3_init 66 = .ok (.putfield 29, 3) := by decide +kernel
theorem dX3_init_69 : decode cX3_init 69 = .ok (.aload_n 0, 1) := by decide +kernel
theorem dX3_init_70 : decode cX3_init 70 = .ok (.new 9, 3) := by decide +kernel
theorem dX3_init_73 : decode cX3_init 73 = .ok (.dup, 1) := by decide +kernel
theorem dX3_init_74 : decode cX3_init 74 = .ok (.bipush 8, 2) := by decide +kernel
theorem dX3_init_76 : decode cX3_init 76 = .ok (.invokespecial 11, 3) := by decide +kernel
theorem dX3_init_79 : decode cX3_init 79 = .ok (.putfield 32, 3) := by decide +kernel
theorem dX3_init_82 : decode cX3_init 82 = .ok (.aload_n 0, 1) := by decide +kernel
theorem dX3_init_83 : decode cX3_init 83 = .ok (.new 9, 3) := by decide +kernel
theorem dX3_init_86 : decode cX3_init 86 = .ok (.dup, 1) := by decide +kernel
theorem dX3_init_87 : decode cX3_init 87 = .ok (.bipush 8, 2) := by decide +kernel
theorem dX3_init_89 : decode cX3_init 89 = .ok (.invokespecial 11, 3) := by decide +kernel
theorem dX3_init_92 : decode cX3_init 92 = .ok (.putfield 35, 3) := by decide +kernel
theorem dX3_init_95 : decode cX3_init 95 = .ok (.aload_n 0, 1) := by decide +kernel
theorem dX3_init_96 : decode cX3_init 96 = .ok (.new 9, 3) := by decide +kernel
theorem dX3_init_99 : decode cX3_init 99 = .ok (.dup, 1) := by decide +kernel
theorem dX3_init_100 : decode cX3_init 100 = .ok (.bipush 64, 2) := by decide +kernel
theorem dX3_init_102 : decode cX3_init 102 = .ok (.invokespecial 11, 3) := by decide +kernel
theorem dX3_init_105 : decode cX3_init 105 = .ok (.putfield 38, 3) := by decide +kernel
theorem dX3_init_108 : decode cX3_init 108 = .ok (.return_, 1) := by decide +kernel
theorem dX3_has_0 : decode cX3_has 0 = .ok (.iload_n 1, 1) := by decide +kernel
theorem dX3_has_1 : decode cX3_has 1 = .ok (.ifCond .lt 15, 3) := by decide +kernel
theorem dX3_has_4 : decode cX3_has 4 = .ok (.iload_n 1, 1) := by decide +kernel
theorem dX3_has_5 : decode cX3_has 5 = .ok (.aload_n 0, 1) := by decide +kernel
theorem dX3_has_6 : decode cX3_has 6 = .ok (.getfield 41, 3) := by decide +kernel
theorem dX3_has_9 : decode cX3_has 9 = .ok (.if_icmp .ge 7, 3) := by decide +kernel
theorem dX3_has_12 : decode cX3_has 12 = .ok (.iconst 1, 1) := by decide +kernel
theorem dX3_has_13 : decode cX3_has 13 = .ok (.goto 4, 3) := by decide +kernel
theorem dX3_has_16 : decode cX3_has 16 = .ok (.iconst 0, 1) := by decide +kernel
theorem dX3_has_17 : decode cX3_has 17 = .ok (.ireturn, 1) := by decide +kernel
theorem dX3_make_0 : decode cX3_make 0 = .ok (.aload_n 0, 1) := by decide +kernel
theorem dX3_make_1 : decode cX3_make 1 = .ok (.getfield 41, 3) := by decide +kernel
theorem dX3_make_4 : decode cX3_make 4 = .ok (.istore 5, 2) := by decide +kernel
theorem dX3_make_6 : decode cX3_make 6 = .ok (.aload_n 0, 1) := by decide +kernel
theorem dX3_make_7 : decode cX3_make 7 = .ok (.getfield 14, 3) := by decide +kernel
theorem dX3_make_10 : decode cX3_make 10 = .ok (.iload 5, 2) := by decide +kernel
theorem dX3_make_12 : decode cX3_make 12 = .ok (.iload_n 1, 1) := by decide +kernel
theorem dX3_make_13 : decode cX3_make 13 = .ok (.invokevirtual 45, 3) := by decide +kernel
theorem dX3_make_16 : decode cX3_make 16 = .ok (.aload_n 0, 1) := by decide +kernel
theorem dX3_make_17 : decode cX3_make 17 = .ok (.getfield 20, 3) := by decide +kernel
theorem dX3_make_20 : decode cX3_make 20 = .ok (.iload 5, 2) := by decide +kernel
theorem dX3_make_22 : decode cX3_make 22 = .ok (.iload_n 2, 1) := by decide +kernel
theorem dX3_make_23 : decode cX3_make 23 = .ok (.invokevirtual 45, 3) := by decide +kernel
theorem dX3_make_26 : decode cX3_make 26 = .ok (.aload_n 0, 1) := by decide +kernel
theorem dX3_make_27 : decode cX3_make 27 = .ok (.getfield 23, 3) := by decide +kernel
theorem dX3_make_30 : decode cX3_make 30 = .ok (.iload 5, 2) := by decide +kernel
theorem dX3_make_32 : decode cX3_make 32 = .ok (.iload_n 3, 1) := by decide +kernel
theorem dX3_make_33 : decode cX3_make 33 = .ok (.invokevirtual 45, 3) := by decide +kernel
theorem dX3_make_36 : decode cX3_make 36 = .ok (.aload_n 0, 1) := by decide +kernel
theorem dX3_make_37 : decode cX3_make 37 = .ok (.getfield 26, 3) := by decide +kernel
theorem dX3_make_40 : decode cX3_make 40 = .ok (.iload 5, 2) := by decide +kernel
theorem dX3_make_42 : decode cX3_make 42 = .ok (.iload 4, 2) := by decide +kernel
theorem dX3_make_44 : decode cX3_make 44 = .ok (.invokevirtual 45, 3) := by decide +kernel
theorem dX3_make_47 : decode cX3_make 47 = .ok (.aload_n 0, 1) := by decide +kernel
theorem dX3_make_48 : decode cX3_make 48 = .ok (.getfield 29, 3) := by decide +kernel
theorem dX3_make_51 : decode cX3_make 51 = .ok (.iload 5, 2) := by decide +kernel
theorem dX3_make_53 : decode cX3_make 53 = .ok (.iconst 0, 1) := by decide +kernel
theorem dX3_make_54 : decode cX3_make 54 = .ok (.invokevirtual 45, 3) := by decide +kernel
theorem dX3_make_57 : decode cX3_make 57 = .ok (.aload_n 0, 1) := by decide +kernel
theorem dX3_make_58 : decode cX3_make 58 = .ok (.getfield 32, 3) := by decide +kernel
theorem dX3_make_61 : decode cX3_make 61 = .ok (.iload 5, 2) := by decide +kernel
theorem dX3_make_63 : decode cX3_make 63 = .ok (.iconst 0, 1) := by decide +kernel
theorem dX3_make_64 : decode cX3_make 64 = .ok (.invokevirtual 45, 3) := by decide +kernel
theorem dX3_make_67 : decode cX3_make 67 = .ok (.aload_n 0, 1) := by decide +kernel
theorem dX3_make_68 : decode cX3_make 68 = .ok (.getfield 35, 3) := by decide +kernel
theorem dX3_make_71 : decode cX3_make 71 = .ok (.iload 5, 2) := by decide +kernel
theorem dX3_make_73 : decode cX3_make 73 = .ok (.iconst 0, 1) := by decide +kernel
theorem dX3_make_74 : decode cX3_make 74 = .ok (.invokevirtual 45, 3) := by decide +kernel
theorem dX3_make_77 : decode cX3_make 77 = .ok (.aload_n 0, 1) := by decide +kernel
theorem dX3_make_78 : decode cX3_make 78 = .ok (.dup, 1) := by decide +kernel
theorem dX3_make_79 : decode cX3_make 79 = .ok (.getfield 41, 3) := by decide +kernel
theorem dX3_make_82 : decode cX3_make 82 = .ok (.iconst 1, 1) := by decide +kernel
theorem dX3_make_83 : decode cX3_make 83 = .ok (.iadd, 1) := by decide +kernel
theorem dX3_make_84 : decode cX3_make 84 = .ok (.putfield 41, 3) := by decide +kernel
theorem dX3_make_87 : decode cX3_make 87 = .ok (.iload 5, 2) := by decide +kernel
theorem dX3_make_89 : decode cX3_make 89 = .ok (.ireturn, 1) := by decide +kernel
theorem dX3_left_0 : decode cX3_left 0 = .ok (.aload_n 0, 1) := by decide +kernel
theorem dX3_left_1 : decode cX3_left 1 = .ok (.getfield 14, 3) := by decide +kernel
theorem dX3_left_4 : decode cX3_left 4 = .ok (.iload_n 1, 1) := by decide +kernel
theorem dX3_left_5 : decode cX3_left 5 = .ok (.invokevirtual 49, 3) := by decide +kernel
theorem dX3_left_8 : decode cX3_left 8 = .ok (.ireturn, 1) := by decide +kernel
theorem dX3_top_0 : decode cX3_top 0 = .ok (.aload_n 0, 1) := by decide +kernel
theorem dX3_top_1 : decode cX3_top 1 = .ok (.getfield 20, 3) := by decide +kernel
theorem dX3_top_4 : decode cX3_top 4 = .ok (.iload_n 1, 1) := by decide +kernel
theorem dX3_top_5 : decode cX3_top 5 = .ok (.invokevirtual 49, 3) := by decide +kernel
theorem dX3_top_8 : decode cX3_top 8 = .ok (.ireturn, 1) := by decide +kernel
theorem dX3_width_0 : decode cX3_width 0 = .ok (.aload_n 0, 1) := by decide +kernel
theorem dX3_width_1 : decode cX3_width 1 = .ok (.getfield 23, 3) := by decide +kernel
theorem dX3_width_4 : decode cX3_width 4 = .ok (.iload_n 1, 1) := by decide +kernel
theorem dX3_width_5 : decode cX3_width 5 = .ok (.invokevirtual 49, 3) := by decide +kernel
theorem dX3_width_8 : decode cX3_width 8 = .ok (.ireturn, 1) := by decide +kernel
theorem dX3_height_0 : decode cX3_height 0 = .ok (.aload_n 0, 1) := by decide +kernel
theorem dX3_height_1 : decode cX3_height 1 = .ok (.getfield 26, 3) := by decide +kernel
theorem dX3_height_4 : decode cX3_height 4 = .ok (.iload_n 1, 1) := by decide +kernel
theorem dX3_height_5 : decode cX3_height 5 = .ok (.invokevirtual 49, 3) := by decide +kernel
theorem dX3_height_8 : decode cX3_height 8 = .ok (.ireturn, 1) := by decide +kernel
theorem dX3_fieldDirection_0 : decode cX3_fieldDirection 0 = .ok (.aload_n 0, 1) := by decide +kernel
theorem dX3_fieldDirection_1 : decode cX3_fieldDirection 1 = .ok (.getfield 29, 3) := by decide +kernel
theorem dX3_fieldDirection_4 : decode cX3_fieldDirection 4 = .ok (.iload_n 1, 1) := by decide +kernel
theorem dX3_fieldDirection_5 : decode cX3_fieldDirection 5 = .ok (.invokevirtual 49, 3) := by decide +kernel
theorem dX3_fieldDirection_8 : decode cX3_fieldDirection 8 = .ok (.ireturn, 1) := by decide +kernel
theorem dX3_fieldStrength_0 : decode cX3_fieldStrength 0 = .ok (.aload_n 0, 1) := by decide +kernel
theorem dX3_fieldStrength_1 : decode cX3_fieldStrength 1 = .ok (.getfield 32, 3) := by decide +kernel
theorem dX3_fieldStrength_4 : decode cX3_fieldStrength 4 = .ok (.iload_n 1, 1) := by decide +kernel
theorem dX3_fieldStrength_5 : decode cX3_fieldStrength 5 = .ok (.invokevirtual 49, 3) := by decide +kernel
theorem dX3_fieldStrength_8 : decode cX3_fieldStrength 8 = .ok (.ireturn, 1) := by decide +kernel
theorem dX3_setField_0 : decode cX3_setField 0 = .ok (.aload_n 0, 1) := by decide +kernel
theorem dX3_setField_1 : decode cX3_setField 1 = .ok (.getfield 29, 3) := by decide +kernel
theorem dX3_setField_4 : decode cX3_setField 4 = .ok (.iload_n 1, 1) := by decide +kernel
theorem dX3_setField_5 : decode cX3_setField 5 = .ok (.iload_n 2, 1) := by decide +kernel
theorem dX3_setField_6 : decode cX3_setField 6 = .ok (.invokevirtual 45, 3) := by decide +kernel
theorem dX3_setField_9 : decode cX3_setField 9 = .ok (.aload_n 0, 1) := by decide +kernel
theorem dX3_setField_10 : decode cX3_setField 10 = .ok (.getfield 32, 3) := by decide +kernel
theorem dX3_setField_13 : decode cX3_setField 13 = .ok (.iload_n 1, 1) := by decide +kernel
theorem dX3_setField_14 : decode cX3_setField 14 = .ok (.iload_n 3, 1) := by decide +kernel
theorem dX3_setField_15 : decode cX3_setField 15 = .ok (.invokevirtual 45, 3) := by decide +kernel
theorem dX3_setField_18 : decode cX3_setField 18 = .ok (.return_, 1) := by decide +kernel
theorem dX3_note_0 : decode cX3_note 0 = .ok (.aload_n 0, 1) := by decide +kernel
theorem dX3_note_1 : decode cX3_note 1 = .ok (.getfield 35, 3) := by decide +kernel
theorem dX3_note_4 : decode cX3_note 4 = .ok (.iload_n 1, 1) := by decide +kernel
theorem dX3_note_5 : decode cX3_note 5 = .ok (.invokevirtual 49, 3) := by decide +kernel
theorem dX3_note_8 : decode cX3_note 8 = .ok (.istore_n 3, 1) := by decide +kernel
theorem dX3_note_9 : decode cX3_note 9 = .ok (.aload_n 0, 1) := by decide +kernel
theorem dX3_note_10 : decode cX3_note 10 = .ok (.getfield 38, 3) := by decide +kernel
theorem dX3_note_13 : decode cX3_note 13 = .ok (.iload_n 1, 1) := by decide +kernel
theorem dX3_note_14 : decode cX3_note 14 = .ok (.bipush 8, 2) := by decide +kernel
theorem dX3_note_16 : decode cX3_note 16 = .ok (.imul, 1) := by decide +kernel
theorem dX3_note_17 : decode cX3_note 17 = .ok (.iload_n 3, 1) := by decide +kernel
theorem dX3_note_18 : decode cX3_note 18 = .ok (.bipush 8, 2) := by decide +kernel
theorem dX3_note_20 : decode cX3_note 20 = .ok (.irem, 1) := by decide +kernel
theorem dX3_note_21 : decode cX3_note 21 = .ok (.iadd, 1) := by decide +kernel
theorem dX3_note_22 : decode cX3_note 22 = .ok (.iload_n 2, 1) := by decide +kernel
theorem dX3_note_23 : decode cX3_note 23 = .ok (.invokevirtual 45, 3) := by decide +kernel
theorem dX3_note_26 : decode cX3_note 26 = .ok (.aload_n 0, 1) := by decide +kernel
theorem dX3_note_27 : decode cX3_note 27 = .ok (.getfield 35, 3) := by decide +kernel
theorem dX3_note_30 : decode cX3_note 30 = .ok (.iload_n 1, 1) := by decide +kernel
theorem dX3_note_31 : decode cX3_note 31 = .ok (.iload_n 3, 1) := by decide +kernel
theorem dX3_note_32 : decode cX3_note 32 = .ok (.iconst 1, 1) := by decide +kernel
theorem dX3_note_33 : decode cX3_note 33 = .ok (.iadd, 1) := by decide +kernel
theorem dX3_note_34 : decode cX3_note 34 = .ok (.invokevirtual 45, 3) := by decide +kernel
theorem dX3_note_37 : decode cX3_note 37 = .ok (.return_, 1) := by decide +kernel
theorem dX3_flicker_0 : decode cX3_flicker 0 = .ok (.iload_n 1, 1) := by decide +kernel
theorem dX3_flicker_1 : decode cX3_flicker 1 = .ok (.bipush 8, 2) := by decide +kernel
theorem dX3_flicker_3 : decode cX3_flicker 3 = .ok (.imul, 1) := by decide +kernel
theorem dX3_flicker_4 : decode cX3_flicker 4 = .ok (.istore_n 2, 1) := by decide +kernel
theorem dX3_flicker_5 : decode cX3_flicker 5 = .ok (.aload_n 0, 1) := by decide +kernel
theorem dX3_flicker_6 : decode cX3_flicker 6 = .ok (.getfield 35, 3) := by decide +kernel
theorem dX3_flicker_9 : decode cX3_flicker 9 = .ok (.iload_n 1, 1) := by decide +kernel
theorem dX3_flicker_10 : decode cX3_flicker 10 = .ok (.invokevirtual 49, 3) := by decide +kernel
theorem dX3_flicker_13 : decode cX3_flicker 13 = .ok (.bipush 8, 2) := by decide +kernel
theorem dX3_flicker_15 : decode cX3_flicker 15 = .ok (.invokestatic 53, 3) := by decide +kernel
theorem dX3_flicker_18 : decode cX3_flicker 18 = .ok (.istore_n 3, 1) := by decide +kernel
theorem dX3_flicker_19 : decode cX3_flicker 19 = .ok (.aload_n 0, 1) := by decide +kernel
theorem dX3_flicker_20 : decode cX3_flicker 20 = .ok (.getfield 38, 3) := by decide +kernel
theorem dX3_flicker_23 : decode cX3_flicker 23 = .ok (.iload_n 2, 1) := by decide +kernel
theorem dX3_flicker_24 : decode cX3_flicker 24 = .ok (.invokevirtual 49, 3) := by decide +kernel
theorem dX3_flicker_27 : decode cX3_flicker 27 = .ok (.istore 4, 2) := by decide +kernel
theorem dX3_flicker_29 : decode cX3_flicker 29 = .ok (.iload 4, 2) := by decide +kernel
theorem dX3_flicker_31 : decode cX3_flicker 31 = .ok (.istore 5, 2) := by decide +kernel
theorem dX3_flicker_33 : decode cX3_flicker 33 = .ok (.iconst 1, 1) := by decide +kernel
theorem dX3_flicker_34 : decode cX3_flicker 34 = .ok (.istore 6, 2) := by decide +kernel
theorem dX3_flicker_36 : decode cX3_flicker 36 = .ok (.iload 6, 2) := by decide +kernel
theorem dX3_flicker_38 : decode cX3_flicker 38 = .ok (.iload_n 3, 1) := by decide +kernel
theorem dX3_flicker_39 : decode cX3_flicker 39 = .ok (.if_icmp .ge 40, 3) := by decide +kernel
theorem dX3_flicker_42 : decode cX3_flicker 42 = .ok (.aload_n 0, 1) := by decide +kernel
theorem dX3_flicker_43 : decode cX3_flicker 43 = .ok (.getfield 38, 3) := by decide +kernel
theorem dX3_flicker_46 : decode cX3_flicker 46 = .ok (.iload_n 2, 1) := by decide +kernel
theorem dX3_flicker_47 : decode cX3_flicker 47 = .ok (.iload 6, 2) := by decide +kernel
theorem dX3_flicker_49 : decode cX3_flicker 49 = .ok (.iadd, 1) := by decide +kernel
theorem dX3_flicker_50 : decode cX3_flicker 50 = .ok (.invokevirtual 49, 3) := by decide +kernel
theorem dX3_flicker_53 : decode cX3_flicker 53 = .ok (.istore 7, 2) := by decide +kernel
theorem dX3_flicker_55 : decode cX3_flicker 55 = .ok (.iload 4, 2) := by decide +kernel
theorem dX3_flicker_57 : decode cX3_flicker 57 = .ok (.iload 7, 2) := by decide +kernel
theorem dX3_flicker_59 : decode cX3_flicker 59 = .ok (.invokestatic 59, 3) := by decide +kernel
theorem dX3_flicker_62 : decode cX3_flicker 62 = .ok (.istore 4, 2) := by decide +kernel
theorem dX3_flicker_64 : decode cX3_flicker 64 = .ok (.iload 5, 2) := by decide +kernel
theorem dX3_flicker_66 : decode cX3_flicker 66 = .ok (.iload 7, 2) := by decide +kernel
theorem dX3_flicker_68 : decode cX3_flicker 68 = .ok (.invokestatic 53, 3) := by decide +kernel
theorem dX3_flicker_71 : decode cX3_flicker 71 = .ok (.istore 5, 2) := by decide +kernel
theorem dX3_flicker_73 : decode cX3_flicker 73 = .ok (.iinc 6 1, 3) := by decide +kernel
theorem dX3_flicker_76 : decode cX3_flicker 76 = .ok (.goto (-40), 3) := by decide +kernel
theorem dX3_flicker_79 : decode cX3_flicker 79 = .ok (.iload_n 3, 1) := by decide +kernel
theorem dX3_flicker_80 : decode cX3_flicker 80 = .ok (.ifCond .le 11, 3) := by decide +kernel
theorem dX3_flicker_83 : decode cX3_flicker 83 = .ok (.iload 4, 2) := by decide +kernel
theorem dX3_flicker_85 : decode cX3_flicker 85 = .ok (.iload 5, 2) := by decide +kernel
theorem dX3_flicker_87 : decode cX3_flicker 87 = .ok (.isub, 1) := by decide +kernel
theorem dX3_flicker_88 : decode cX3_flicker 88 = .ok (.goto 4, 3) := by decide +kernel
theorem dX3_flicker_91 : decode cX3_flicker 91 = .ok (.iconst 0, 1) := by decide +kernel
theorem dX3_flicker_92 : decode cX3_flicker 92 = .ok (.ireturn, 1) := by decide +kernel
theorem dX4_init_0 : decode cX4_init 0 = .ok (.aload_n 0, 1) := by decide +kernel
theorem dX4_init_1 : decode cX4_init 1 = .ok (.invokespecial 1, 3) := by decide +kernel
theorem dX4_init_4 : decode cX4_init 4 = .ok (.aload_n 0, 1) := by decide +kernel
theorem dX4_init_5 : decode cX4_init 5 = .ok (.iload_n 1, 1) := by decide +kernel
theorem dX4_init_6 : decode cX4_init 6 = .ok (.ifCond .ge 7, 3) := by decide +kernel
theorem dX4_init_9 : decode cX4_init 9 = .ok (.iconst 0, 1) := by decide +kernel
theorem dX4_init_10 : decode cX4_init 10 = .ok (.goto 4, 3) := by decide +kernel
theorem dX4_init_13 : decode cX4_init 13 = .ok (.iload_n 1, 1) := by decide +kernel
theorem dX4_init_14 : decode cX4_init 14 = .ok (.newarray .int, 2) := by decide +kernel
theorem dX4_init_16 : decode cX4_init 16 = .ok (.putfield 7, 3) := by decide +kernel
theorem dX4_init_19 : decode cX4_init 19 = .ok (.return_, 1) := by decide +kernel
theorem dX4_at_0 : decode cX4_at 0 = .ok (.iload_n 1, 1) := by decide +kernel
theorem dX4_at_1 : decode cX4_at 1 = .ok (.ifCond .lt 21, 3) := by decide +kernel
theorem dX4_at_4 : decode cX4_at 4 = .ok (.iload_n 1, 1) := by decide +kernel
theorem dX4_at_5 : decode cX4_at 5 = .ok (.aload_n 0, 1) := by decide +kernel
theorem dX4_at_6 : decode cX4_at 6 = .ok (.getfield 7, 3) := by decide +kernel
theorem dX4_at_9 : decode cX4_at 9 = .ok (.arraylength, 1) := by decide +kernel
theorem dX4_at_10 : decode cX4_at 10 = .ok (.if_icmp .ge 12, 3) := by decide +kernel
theorem dX4_at_13 : decode cX4_at 13 = .ok (.aload_n 0, 1) := by decide +kernel
theorem dX4_at_14 : decode cX4_at 14 = .ok (.getfield 7, 3) := by decide +kernel
theorem dX4_at_17 : decode cX4_at 17 = .ok (.iload_n 1, 1) := by decide +kernel
theorem dX4_at_18 : decode cX4_at 18 = .ok (.iaload, 1) := by decide +kernel
theorem dX4_at_19 : decode cX4_at 19 = .ok (.goto 4, 3) := by decide +kernel
theorem dX4_at_22 : decode cX4_at 22 = .ok (.iconst 0, 1) := by decide +kernel
theorem dX4_at_23 : decode cX4_at 23 = .ok (.ireturn, 1) := by decide +kernel
theorem dX4_put_0 : decode cX4_put 0 = .ok (.iload_n 1, 1) := by decide +kernel
theorem dX4_put_1 : decode cX4_put 1 = .ok (.ifCond .lt 19, 3) := by decide +kernel
theorem dX4_put_4 : decode cX4_put 4 = .ok (.iload_n 1, 1) := by decide +kernel
theorem dX4_put_5 : decode cX4_put 5 = .ok (.aload_n 0, 1) := by decide +kernel
theorem dX4_put_6 : decode cX4_put 6 = .ok (.getfield 7, 3) := by decide +kernel
theorem dX4_put_9 : decode cX4_put 9 = .ok (.arraylength, 1) := by decide +kernel
theorem dX4_put_10 : decode cX4_put 10 = .ok (.if_icmp .ge 10, 3) := by decide +kernel
theorem dX4_put_13 : decode cX4_put 13 = .ok (.aload_n 0, 1) := by decide +kernel
theorem dX4_put_14 : decode cX4_put 14 = .ok (.getfield 7, 3) := by decide +kernel
theorem dX4_put_17 : decode cX4_put 17 = .ok (.iload_n 1, 1) := by decide +kernel
theorem dX4_put_18 : decode cX4_put 18 = .ok (.iload_n 2, 1) := by decide +kernel
theorem dX4_put_19 : decode cX4_put 19 = .ok (.iastore, 1) := by decide +kernel
theorem dX4_put_20 : decode cX4_put 20 = .ok (.return_, 1) := by decide +kernel
theorem dX4_fill_0 : decode cX4_fill 0 = .ok (.iconst 0, 1) := by decide +kernel
theorem dX4_fill_1 : decode cX4_fill 1 = .ok (.istore_n 2, 1) := by decide +kernel
theorem dX4_fill_2 : decode cX4_fill 2 = .ok (.iload_n 2, 1) := by decide +kernel
theorem dX4_fill_3 : decode cX4_fill 3 = .ok (.aload_n 0, 1) := by decide +kernel
theorem dX4_fill_4 : decode cX4_fill 4 = .ok (.getfield 7, 3) := by decide +kernel
theorem dX4_fill_7 : decode cX4_fill 7 = .ok (.arraylength, 1) := by decide +kernel
theorem dX4_fill_8 : decode cX4_fill 8 = .ok (.if_icmp .ge 16, 3) := by decide +kernel
theorem dX4_fill_11 : decode cX4_fill 11 = .ok (.aload_n 0, 1) := by decide +kernel
theorem dX4_fill_12 : decode cX4_fill 12 = .ok (.getfield 7, 3) := by decide +kernel
theorem dX4_fill_15 : decode cX4_fill 15 = .ok (.iload_n 2, 1) := by decide +kernel
theorem dX4_fill_16 : decode cX4_fill 16 = .ok (.iload_n 1, 1) := by decide +kernel
theorem dX4_fill_17 : decode cX4_fill 17 = .ok (.iastore, 1) := by decide +kernel
theorem dX4_fill_18 : decode cX4_fill 18 = .ok (.iinc 2 1, 3) := by decide +kernel
theorem dX4_fill_21 : decode cX4_fill 21 = .ok (.goto (-19), 3) := by decide +kernel
theorem dX4_fill_24 : decode cX4_fill 24 = .ok (.return_, 1) := by decide +kernel
theorem dX5_init_0 : decode cX5_init 0 = .ok (.aload_n 0, 1) := by decide +kernel
theorem dX5_init_1 : decode cX5_init 1 = .ok (.invokespecial 3, 3) := by decide +kernel
theorem dX5_init_4 : decode cX5_init 4 = .ok (.aload_n 0, 1) := by decide +kernel
theorem dX5_init_5 : decode cX5_init 5 = .ok (.aload_n 1, 1) := by decide +kernel
theorem dX5_init_6 : decode cX5_init 6 = .ok (.putfield 9, 3) := by decide +kernel
theorem dX5_init_9 : decode cX5_init 9 = .ok (.return_, 1) := by decide +kernel
theorem dX5_has_0 : decode cX5_has 0 = .ok (.aload_n 0, 1) := by decide +kernel
theorem dX5_has_1 : decode cX5_has 1 = .ok (.getfield 9, 3) := by decide +kernel
theorem dX5_has_4 : decode cX5_has 4 = .ok (.iload_n 1, 1) := by decide +kernel
theorem dX5_has_5 : decode cX5_has 5 = .ok (.iload_n 2, 1) := by decide +kernel
theorem dX5_has_6 : decode cX5_has 6 = .ok (.invokevirtual 15, 3) := by decide +kernel
theorem dX5_has_9 : decode cX5_has 9 = .ok (.ifCond .eq 23, 3) := by decide +kernel
theorem dX5_has_12 : decode cX5_has 12 = .ok (.aload_n 0, 1) := by decide +kernel
theorem dX5_has_13 : decode cX5_has 13 = .ok (.getfield 9, 3) := by decide +kernel
theorem dX5_has_16 : decode cX5_has 16 = .ok (.iload_n 1, 1) := by decide +kernel
theorem dX5_has_17 : decode cX5_has 17 = .ok (.iconst 1, 1) := by decide +kernel
theorem dX5_has_18 : decode cX5_has 18 = .ok (.iadd, 1) := by decide +kernel
theorem dX5_has_19 : decode cX5_has 19 = .ok (.iload_n 2, 1) := by decide +kernel
theorem dX5_has_20 : decode cX5_has 20 = .ok (.iconst 1, 1) := by decide +kernel
theorem dX5_has_21 : decode cX5_has 21 = .ok (.iadd, 1) := by decide +kernel
theorem dX5_has_22 : decode cX5_has 22 = .ok (.invokevirtual 15, 3) := by decide +kernel
theorem dX5_has_25 : decode cX5_has 25 = .ok (.ifCond .eq 7, 3) := by decide +kernel
theorem dX5_has_28 : decode cX5_has 28 = .ok (.iconst 1, 1) := by decide +kernel
theorem dX5_has_29 : decode cX5_has 29 = .ok (.goto 4, 3) := by decide +kernel
theorem dX5_has_32 : decode cX5_has 32 = .ok (.iconst 0, 1) := by decide +kernel
theorem dX5_has_33 : decode cX5_has 33 = .ok (.ireturn, 1) := by decide +kernel
theorem dX5_at_0 : decode cX5_at 0 = .ok (.aload_n 0, 1) := by decide +kernel
theorem dX5_at_1 : decode cX5_at 1 = .ok (.iload_n 1, 1) := by decide +kernel
theorem dX5_at_2 : decode cX5_at 2 = .ok (.iload_n 2, 1) := by decide +kernel
theorem dX5_at_3 : decode cX5_at 3 = .ok (.iload_n 1, 1) := by decide +kernel
theorem dX5_at_4 : decode cX5_at 4 = .ok (.iconst 1, 1) := by decide +kernel
theorem dX5_at_5 : decode cX5_at 5 = .ok (.iadd, 1) := by decide +kernel
theorem dX5_at_6 : decode cX5_at 6 = .ok (.iload_n 2, 1) := by decide +kernel
theorem dX5_at_7 : decode cX5_at 7 = .ok (.iconst 1, 1) := by decide +kernel
theorem dX5_at_8 : decode cX5_at 8 = .ok (.iadd, 1) := by decide +kernel
theorem dX5_at_9 : decode cX5_at 9 = .ok (.invokevirtual 21, 3) := by decide +kernel
theorem dX5_at_12 : decode cX5_at 12 = .ok (.ireturn, 1) := by decide +kernel
theorem dX5_sum_0 : decode cX5_sum 0 = .ok (.iconst 0, 1) := by decide +kernel
theorem dX5_sum_1 : decode cX5_sum 1 = .ok (.istore 5, 2) := by decide +kernel
theorem dX5_sum_3 : decode cX5_sum 3 = .ok (.iload_n 2, 1) := by decide +kernel
theorem dX5_sum_4 : decode cX5_sum 4 = .ok (.istore 6, 2) := by decide +kernel
theorem dX5_sum_6 : decode cX5_sum 6 = .ok (.iload 6, 2) := by decide +kernel
theorem dX5_sum_8 : decode cX5_sum 8 = .ok (.iload 4, 2) := by decide +kernel
theorem dX5_sum_10 : decode cX5_sum 10 = .ok (.if_icmp .ge 37, 3) := by decide +kernel
theorem dX5_sum_13 : decode cX5_sum 13 = .ok (.iload_n 1, 1) := by decide +kernel
theorem dX5_sum_14 : decode cX5_sum 14 = .ok (.istore 7, 2) := by decide +kernel
theorem dX5_sum_16 : decode cX5_sum 16 = .ok (.iload 7, 2) := by decide +kernel
theorem dX5_sum_18 : decode cX5_sum 18 = .ok (.iload_n 3, 1) := by decide +kernel
theorem dX5_sum_19 : decode cX5_sum 19 = .ok (.if_icmp .ge 22, 3) := by decide +kernel
theorem dX5_sum_22 : decode cX5_sum 22 = .ok (.iload 5, 2) := by decide +kernel
theorem dX5_sum_24 : decode cX5_sum 24 = .ok (.aload_n 0, 1) := by decide +kernel
theorem dX5_sum_25 : decode cX5_sum 25 = .ok (.iload 7, 2) := by decide +kernel
theorem dX5_sum_27 : decode cX5_sum 27 = .ok (.iload 6, 2) := by decide +kernel
theorem dX5_sum_29 : decode cX5_sum 29 = .ok (.invokevirtual 25, 3) := by decide +kernel
theorem dX5_sum_32 : decode cX5_sum 32 = .ok (.iadd, 1) := by decide +kernel
theorem dX5_sum_33 : decode cX5_sum 33 = .ok (.istore 5, 2) := by decide +kernel
theorem dX5_sum_35 : decode cX5_sum 35 = .ok (.iinc 7 1, 3) := by decide +kernel
theorem dX5_sum_38 : decode cX5_sum 38 = .ok (.goto (-22), 3) := by decide +kernel
theorem dX5_sum_41 : decode cX5_sum 41 = .ok (.iinc 6 1, 3) := by decide +kernel
theorem dX5_sum_44 : decode cX5_sum 44 = .ok (.goto (-38), 3) := by decide +kernel
theorem dX5_sum_47 : decode cX5_sum 47 = .ok (.iload 5, 2) := by decide +kernel
theorem dX5_sum_49 : decode cX5_sum 49 = .ok (.ireturn, 1) := by decide +kernel
theorem dX5_around_0 : decode cX5_around 0 = .ok (.iconst 0, 1) := by decide +kernel
theorem dX5_around_1 : decode cX5_around 1 = .ok (.istore 5, 2) := by decide +kernel
theorem dX5_around_3 : decode cX5_around 3 = .ok (.iload_n 1, 1) := by decide +kernel
theorem dX5_around_4 : decode cX5_around 4 = .ok (.istore 6, 2) := by decide +kernel
theorem dX5_around_6 : decode cX5_around 6 = .ok (.iload 6, 2) := by decide +kernel
theorem dX5_around_8 : decode cX5_around 8 = .ok (.iload_n 3, 1) := by decide +kernel
theorem dX5_around_9 : decode cX5_around 9 = .ok (.if_icmp .ge 71, 3) := by decide +kernel
theorem dX5_around_12 : decode cX5_around 12 = .ok (.iload 5, 2) := by decide +kernel
theorem dX5_around_14 : decode cX5_around 14 = .ok (.aload_n 0, 1) := by decide +kernel
theorem dX5_around_15 : decode cX5_around 15 = .ok (.getfield 9, 3) := by decide +kernel
theorem dX5_around_18 : decode cX5_around 18 = .ok (.iload 6, 2) := by decide +kernel
theorem dX5_around_20 : decode cX5_around 20 = .ok (.iload_n 2, 1) := by decide +kernel
theorem dX5_around_21 : decode cX5_around 21 = .ok (.invokevirtual 29, 3) := by decide +kernel
theorem dX5_around_24 : decode cX5_around 24 = .ok (.aload_n 0, 1) := by decide +kernel
theorem dX5_around_25 : decode cX5_around 25 = .ok (.getfield 9, 3) := by decide +kernel
theorem dX5_around_28 : decode cX5_around 28 = .ok (.iload 6, 2) := by decide +kernel
theorem dX5_around_30 : decode cX5_around 30 = .ok (.iconst 1, 1) := by decide +kernel
theorem dX5_around_31 : decode cX5_around 31 = .ok (.iadd, 1) := by decide +kernel
theorem dX5_around_32 : decode cX5_around 32 = .ok (.iload_n 2, 1) := by decide +kernel
theorem dX5_around_33 : decode cX5_around 33 = .ok (.invokevirtual 29, 3) := by decide +kernel
theorem dX5_around_36 : decode cX5_around 36 = .ok (.invokestatic 32, 3) := by decide +kernel
theorem dX5_around_39 : decode cX5_around 39 = .ok (.iadd, 1) := by decide +kernel
theorem dX5_around_40 : decode cX5_around 40 = .ok (.istore 5, 2) := by decide +kernel
theorem dX5_around_42 : decode cX5_around 42 = .ok (.iload 5, 2) := by decide +kernel
theorem dX5_around_44 : decode cX5_around 44 = .ok (.aload_n 0, 1) := by decide +kernel
theorem dX5_around_45 : decode cX5_around 45 = .ok (.getfield 9, 3) := by decide +kernel
theorem dX5_around_48 : decode cX5_around 48 = .ok (.iload 6, 2) := by decide +kernel
theorem dX5_around_50 : decode cX5_around 50 = .ok (.iconst 1, 1) := by decide +kernel
theorem dX5_around_51 : decode cX5_around 51 = .ok (.iadd, 1) := by decide +kernel
theorem dX5_around_52 : decode cX5_around 52 = .ok (.iload 4, 2) := by decide +kernel
theorem dX5_around_54 : decode cX5_around 54 = .ok (.invokevirtual 29, 3) := by decide +kernel
theorem dX5_around_57 : decode cX5_around 57 = .ok (.aload_n 0, 1) := by decide +kernel
theorem dX5_around_58 : decode cX5_around 58 = .ok (.getfield 9, 3) := by decide +kernel
theorem dX5_around_61 : decode cX5_around 61 = .ok (.iload 6, 2) := by decide +kernel
theorem dX5_around_63 : decode cX5_around 63 = .ok (.iload 4, 2) := by decide +kernel
theorem dX5_around_65 : decode cX5_around 65 = .ok (.invokevirtual 29, 3) := by decide +kernel
theorem dX5_around_68 : decode cX5_around 68 = .ok (.invokestatic 32, 3) := by decide +kernel
theorem dX5_around_71 : decode cX5_around 71 = .ok (.iadd, 1) := by decide +kernel
theorem dX5_around_72 : decode cX5_around 72 = .ok (.istore 5, 2) := by decide +kernel
theorem dX5_around_74 : decode cX5_around 74 = .ok (.iinc 6 1, 3) := by decide +kernel
theorem dX5_around_77 : decode cX5_around 77 = .ok (.goto (-71), 3) := by decide +kernel
theorem dX5_around_80 : decode cX5_around 80 = .ok (.iload_n 2, 1) := by decide +kernel
theorem dX5_around_81 : decode cX5_around 81 = .ok (.istore 6, 2) := by decide +kernel
theorem dX5_around_83 : decode cX5_around 83 = .ok (.iload 6, 2) := by decide +kernel
theorem dX5_around_85 : decode cX5_around 85 = .ok (.iload 4, 2) := by decide +kernel
theorem dX5_around_87 : decode cX5_around 87 = .ok (.if_icmp .ge 69, 3) := by decide +kernel
theorem dX5_around_90 : decode cX5_around 90 = .ok (.iload 5, 2) := by decide +kernel
theorem dX5_around_92 : decode cX5_around 92 = .ok (.aload_n 0, 1) := by decide +kernel
theorem dX5_around_93 : decode cX5_around 93 = .ok (.getfield 9, 3) := by decide +kernel
theorem dX5_around_96 : decode cX5_around 96 = .ok (.iload_n 3, 1) := by decide +kernel
theorem dX5_around_97 : decode cX5_around 97 = .ok (.iload 6, 2) := by decide +kernel
theorem dX5_around_99 : decode cX5_around 99 = .ok (.invokevirtual 29, 3) := by decide +kernel
theorem dX5_around_102 : decode cX5_around 102 = .ok (.aload_n 0, 1) := by decide +kernel
theorem dX5_around_103 : decode cX5_around 103 = .ok (.getfield 9, 3) := by decide +kernel
theorem dX5_around_106 : decode cX5_around 106 = .ok (.iload_n 3, 1) := by decide +kernel
theorem dX5_around_107 : decode cX5_around 107 = .ok (.iload 6, 2) := by decide +kernel
theorem dX5_around_109 : decode cX5_around 109 = .ok (.iconst 1, 1) := by decide +kernel
theorem dX5_around_110 : decode cX5_around 110 = .ok (.iadd, 1) := by decide +kernel
theorem dX5_around_111 : decode cX5_around 111 = .ok (.invokevirtual 29, 3) := by decide +kernel
theorem dX5_around_114 : decode cX5_around 114 = .ok (.invokestatic 32, 3) := by decide +kernel
theorem dX5_around_117 : decode cX5_around 117 = .ok (.iadd, 1) := by decide +kernel
theorem dX5_around_118 : decode cX5_around 118 = .ok (.istore 5, 2) := by decide +kernel
theorem dX5_around_120 : decode cX5_around 120 = .ok (.iload 5, 2) := by decide +kernel
theorem dX5_around_122 : decode cX5_around 122 = .ok (.aload_n 0, 1) := by decide +kernel
theorem dX5_around_123 : decode cX5_around 123 = .ok (.getfield 9, 3) := by decide +kernel
theorem dX5_around_126 : decode cX5_around 126 = .ok (.iload_n 1, 1) := by decide +kernel
theorem dX5_around_127 : decode cX5_around 127 = .ok (.iload 6, 2) := by decide +kernel
theorem dX5_around_129 : decode cX5_around 129 = .ok (.iconst 1, 1) := by decide +kernel
theorem dX5_around_130 : decode cX5_around 130 = .ok (.iadd, 1) := by decide +kernel
theorem dX5_around_131 : decode cX5_around 131 = .ok (.invokevirtual 29, 3) := by decide +kernel
theorem dX5_around_134 : decode cX5_around 134 = .ok (.aload_n 0, 1) := by decide +kernel
theorem dX5_around_135 : decode cX5_around 135 = .ok (.getfield 9, 3) := by decide +kernel
theorem dX5_around_138 : decode cX5_around 138 = .ok (.iload_n 1, 1) := by decide +kernel
theorem dX5_around_139 : decode cX5_around 139 = .ok (.iload 6, 2) := by decide +kernel
theorem dX5_around_141 : decode cX5_around 141 = .ok (.invokevirtual 29, 3) := by decide +kernel
theorem dX5_around_144 : decode cX5_around 144 = .ok (.invokestatic 32, 3) := by decide +kernel
theorem dX5_around_147 : decode cX5_around 147 = .ok (.iadd, 1) := by decide +kernel
theorem dX5_around_148 : decode cX5_around 148 = .ok (.istore 5, 2) := by decide +kernel
theorem dX5_around_150 : decode cX5_around 150 = .ok (.iinc 6 1, 3) := by decide +kernel
theorem dX5_around_153 : decode cX5_around 153 = .ok (.goto (-70), 3) := by decide +kernel
theorem dX5_around_156 : decode cX5_around 156 = .ok (.iload 5, 2) := by decide +kernel
theorem dX5_around_158 : decode cX5_around 158 = .ok (.bipush 15, 2) := by decide +kernel
theorem dX5_around_160 : decode cX5_around 160 = .ok (.invokestatic 35, 3) := by decide +kernel
theorem dX5_around_163 : decode cX5_around 163 = .ok (.ireturn, 1) := by decide +kernel
theorem dX5_count_0 : decode cX5_count 0 = .ok (.iconst 0, 1) := by decide +kernel
theorem dX5_count_1 : decode cX5_count 1 = .ok (.istore_n 1, 1) := by decide +kernel
theorem dX5_count_2 : decode cX5_count 2 = .ok (.iconst 0, 1) := by decide +kernel
theorem dX5_count_3 : decode cX5_count 3 = .ok (.istore_n 2, 1) := by decide +kernel
theorem dX5_count_4 : decode cX5_count 4 = .ok (.iload_n 2, 1) := by decide +kernel
theorem dX5_count_5 : decode cX5_count 5 = .ok (.aload_n 0, 1) := by decide +kernel
theorem dX5_count_6 : decode cX5_count 6 = .ok (.getfield 9, 3) := by decide +kernel
theorem dX5_count_9 : decode cX5_count 9 = .ok (.getfield 40, 3) := by decide +kernel
theorem dX5_count_12 : decode cX5_count 12 = .ok (.iconst 1, 1) := by decide +kernel
theorem dX5_count_13 : decode cX5_count 13 = .ok (.isub, 1) := by decide +kernel
theorem dX5_count_14 : decode cX5_count 14 = .ok (.if_icmp .ge 42, 3) := by decide +kernel
theorem dX5_count_17 : decode cX5_count 17 = .ok (.iconst 0, 1) := by decide +kernel
theorem dX5_count_18 : decode cX5_count 18 = .ok (.istore_n 3, 1) := by decide +kernel
theorem dX5_count_19 : decode cX5_count 19 = .ok (.iload_n 3, 1) := by decide +kernel
theorem dX5_count_20 : decode cX5_count 20 = .ok (.aload_n 0, 1) := by decide +kernel
theorem dX5_count_21 : decode cX5_count 21 = .ok (.getfield 9, 3) := by decide +kernel
theorem dX5_count_24 : decode cX5_count 24 = .ok (.getfield 44, 3) := by decide +kernel
theorem dX5_count_27 : decode cX5_count 27 = .ok (.iconst 1, 1) := by decide +kernel
theorem dX5_count_28 : decode cX5_count 28 = .ok (.isub, 1) := by decide +kernel
theorem dX5_count_29 : decode cX5_count 29 = .ok (.if_icmp .ge 21, 3) := by decide +kernel
theorem dX5_count_32 : decode cX5_count 32 = .ok (.aload_n 0, 1) := by decide +kernel
theorem dX5_count_33 : decode cX5_count 33 = .ok (.iload_n 3, 1) := by decide +kernel
theorem dX5_count_34 : decode cX5_count 34 = .ok (.iload_n 2, 1) := by decide +kernel
theorem dX5_count_35 : decode cX5_count 35 = .ok (.invokevirtual 25, 3) := by decide +kernel
theorem dX5_count_38 : decode cX5_count 38 = .ok (.ifCond .eq 6, 3) := by decide +kernel
theorem dX5_count_41 : decode cX5_count 41 = .ok (.iinc 1 1, 3) := by decide +kernel
theorem dX5_count_44 : decode cX5_count 44 = .ok (.iinc 3 1, 3) := by decide +kernel
theorem dX5_count_47 : decode cX5_count 47 = .ok (.goto (-28), 3) := by decide +kernel
theorem dX5_count_50 : decode cX5_count 50 = .ok (.iinc 2 1, 3) := by decide +kernel
theorem dX5_count_53 : decode cX5_count 53 = .ok (.goto (-49), 3) := by decide +kernel
theorem dX5_count_56 : decode cX5_count 56 = .ok (.iload_n 1, 1) := by decide +kernel
theorem dX5_count_57 : decode cX5_count 57 = .ok (.ireturn, 1) := by decide +kernel
theorem dX5_find_0 : decode cX5_find 0 = .ok (.iconst 0, 1) := by decide +kernel
theorem dX5_find_1 : decode cX5_find 1 = .ok (.istore_n 2, 1) := by decide +kernel
theorem dX5_find_2 : decode cX5_find 2 = .ok (.iconst 0, 1) := by decide +kernel
theorem dX5_find_3 : decode cX5_find 3 = .ok (.istore_n 3, 1) := by decide +kernel
theorem dX5_find_4 : decode cX5_find 4 = .ok (.iload_n 3, 1) := by decide +kernel
theorem dX5_find_5 : decode cX5_find 5 = .ok (.aload_n 0, 1) := by decide +kernel
theorem dX5_find_6 : decode cX5_find 6 = .ok (.getfield 9, 3) := by decide +kernel
theorem dX5_find_9 : decode cX5_find 9 = .ok (.getfield 40, 3) := by decide +kernel
theorem dX5_find_12 : decode cX5_find 12 = .ok (.iconst 1, 1) := by decide +kernel
theorem dX5_find_13 : decode cX5_find 13 = .ok (.isub, 1) := by decide +kernel
theorem dX5_find_14 : decode cX5_find 14 = .ok (.if_icmp .ge 57, 3) := by decide +kernel
theorem dX5_find_17 : decode cX5_find 17 = .ok (.iconst 0, 1) := by decide +kernel
theorem dX5_find_18 : decode cX5_find 18 = .ok (.istore 4, 2) := by decide +kernel
theorem dX5_find_20 : decode cX5_find 20 = .ok (.iload 4, 2) := by decide +kernel
theorem dX5_find_22 : decode cX5_find 22 = .ok (.aload_n 0, 1) := by decide +kernel
theorem dX5_find_23 : decode cX5_find 23 = .ok (.getfield 9, 3) := by decide +kernel
theorem dX5_find_26 : decode cX5_find 26 = .ok (.getfield 44, 3) := by decide +kernel
theorem dX5_find_29 : decode cX5_find 29 = .ok (.iconst 1, 1) := by decide +kernel
theorem dX5_find_30 : decode cX5_find 30 = .ok (.isub, 1) := by decide +kernel
theorem dX5_find_31 : decode cX5_find 31 = .ok (.if_icmp .ge 34, 3) := by decide +kernel
theorem dX5_find_34 : decode cX5_find 34 = .ok (.aload_n 0, 1) := by decide +kernel
theorem dX5_find_35 : decode cX5_find 35 = .ok (.iload 4, 2) := by decide +kernel
theorem dX5_find_37 : decode cX5_find 37 = .ok (.iload_n 3, 1) := by decide +kernel
theorem dX5_find_38 : decode cX5_find 38 = .ok (.invokevirtual 25, 3) := by decide +kernel
theorem dX5_find_41 : decode cX5_find 41 = .ok (.ifCond .eq 18, 3) := by decide +kernel
theorem dX5_find_44 : decode cX5_find 44 = .ok (.iload_n 2, 1) := by decide +kernel
theorem dX5_find_45 : decode cX5_find 45 = .ok (.iload_n 1, 1) := by decide +kernel
theorem dX5_find_46 : decode cX5_find 46 = .ok (.if_icmp .ne 10, 3) := by decide +kernel
theorem dX5_find_49 : decode cX5_find 49 = .ok (.iload 4, 2) := by decide +kernel
theorem dX5_find_51 : decode cX5_find 51 = .ok (.iload_n 3, 1) := by decide +kernel
theorem dX5_find_52 : decode cX5_find 52 = .ok (.invokestatic 47, 3) := by decide +kernel
theorem dX5_find_55 : decode cX5_find 55 = .ok (.ireturn, 1) := by decide +kernel
theorem dX5_find_56 : decode cX5_find 56 = .ok (.iinc 2 1, 3) := by decide +kernel
theorem dX5_find_59 : decode cX5_find 59 = .ok (.iinc 4 1, 3) := by decide +kernel
theorem dX5_find_62 : decode cX5_find 62 = .ok (.goto (-42), 3) := by decide +kernel
theorem dX5_find_65 : decode cX5_find 65 = .ok (.iinc 3 1, 3) := by decide +kernel
theorem dX5_find_68 : decode cX5_find 68 = .ok (.goto (-64), 3) := by decide +kernel
theorem dX5_find_71 : decode cX5_find 71 = .ok (.iconst (-1), 1) := by decide +kernel
theorem dX5_find_72 : decode cX5_find 72 = .ok (.ireturn, 1) := by decide +kernel
theorem dX5_isGood_0 : decode cX5_isGood 0 = .ok (.iconst 0, 1) := by decide +kernel
theorem dX5_isGood_1 : decode cX5_isGood 1 = .ok (.istore_n 2, 1) := by decide +kernel
theorem dX5_isGood_2 : decode cX5_isGood 2 = .ok (.iload_n 2, 1) := by decide +kernel
theorem dX5_isGood_3 : decode cX5_isGood 3 = .ok (.aload_n 0, 1) := by decide +kernel
theorem dX5_isGood_4 : decode cX5_isGood 4 = .ok (.getfield 9, 3) := by decide +kernel
theorem dX5_isGood_7 : decode cX5_isGood 7 = .ok (.getfield 40, 3) := by decide +kernel
theorem dX5_isGood_10 : decode cX5_isGood 10 = .ok (.iconst 1, 1) := by decide +kernel
theorem dX5_isGood_11 : decode cX5_isGood 11 = .ok (.isub, 1) := by decide +kernel
theorem dX5_isGood_12 : decode cX5_isGood 12 = .ok (.if_icmp .ge 51, 3) := by decide +kernel
theorem dX5_isGood_15 : decode cX5_isGood 15 = .ok (.iconst 0, 1) := by decide +kernel
theorem dX5_isGood_16 : decode cX5_isGood 16 = .ok (.istore_n 3, 1) := by decide +kernel
theorem dX5_isGood_17 : decode cX5_isGood 17 = .ok (.iload_n 3, 1) := by decide +kernel
theorem dX5_isGood_18 : decode cX5_isGood 18 = .ok (.aload_n 0, 1) := by decide +kernel
theorem dX5_isGood_19 : decode cX5_isGood 19 = .ok (.getfield 9, 3) := by decide +kernel
theorem dX5_isGood_22 : decode cX5_isGood 22 = .ok (.getfield 44, 3) := by decide +kernel
theorem dX5_isGood_25 : decode cX5_isGood 25 = .ok (.iconst 1, 1) := by decide +kernel
theorem dX5_isGood_26 : decode cX5_isGood 26 = .ok (.isub, 1) := by decide +kernel
theorem dX5_isGood_27 : decode cX5_isGood 27 = .ok (.if_icmp .ge 30, 3) := by decide +kernel
theorem dX5_isGood_30 : decode cX5_isGood 30 = .ok (.aload_n 0, 1) := by decide +kernel
theorem dX5_isGood_31 : decode cX5_isGood 31 = .ok (.iload_n 3, 1) := by decide +kernel
theorem dX5_isGood_32 : decode cX5_isGood 32 = .ok (.iload_n 2, 1) := by decide +kernel
theorem dX5_isGood_33 : decode cX5_isGood 33 = .ok (.iload_n 1, 1) := by decide +kernel
theorem dX5_isGood_34 : decode cX5_isGood 34 = .ok (.invokevirtual 50, 3) := by decide +kernel
theorem dX5_isGood_37 : decode cX5_isGood 37 = .ok (.ifCond .eq 14, 3) := by decide +kernel
theorem dX5_isGood_40 : decode cX5_isGood 40 = .ok (.aload_n 0, 1) := by decide +kernel
theorem dX5_isGood_41 : decode cX5_isGood 41 = .ok (.iload_n 3, 1) := by decide +kernel
theorem dX5_isGood_42 : decode cX5_isGood 42 = .ok (.iload_n 2, 1) := by decide +kernel
theorem dX5_isGood_43 : decode cX5_isGood 43 = .ok (.invokevirtual 25, 3) := by decide +kernel
theorem dX5_isGood_46 : decode cX5_isGood 46 = .ok (.ifCond .eq 5, 3) := by decide +kernel
theorem dX5_isGood_49 : decode cX5_isGood 49 = .ok (.iconst 0, 1) := by decide +kernel
theorem dX5_isGood_50 : decode cX5_isGood 50 = .ok (.ireturn, 1) := by decide +kernel
theorem dX5_isGood_51 : decode cX5_isGood 51 = .ok (.iinc 3 1, 3) := by decide +kernel
theorem dX5_isGood_54 : decode cX5_isGood 54 = .ok (.goto (-37), 3) := by decide +kernel
theorem dX5_isGood_57 : decode cX5_isGood 57 = .ok (.iinc 2 1, 3) := by decide +kernel
theorem dX5_isGood_60 : decode cX5_isGood 60 = .ok (.goto (-58), 3) := by decide +kernel
theorem dX5_isGood_63 : decode cX5_isGood 63 = .ok (.iconst 1, 1) := by decide +kernel
theorem dX5_isGood_64 : decode cX5_isGood 64 = .ok (.ireturn, 1) := by decide +kernel
theorem dX5_touches_0 : decode cX5_touches 0 = .ok (.aload_n 0, 1) := by decide +kernel
theorem dX5_touches_1 : decode cX5_touches 1 = .ok (.getfield 9, 3) := by decide +kernel
theorem dX5_touches_4 : decode cX5_touches 4 = .ok (.iload_n 1, 1) := by decide +kernel
theorem dX5_touches_5 : decode cX5_touches 5 = .ok (.iload_n 2, 1) := by decide +kernel
theorem dX5_touches_6 : decode cX5_touches 6 = .ok (.invokevirtual 54, 3) := by decide +kernel
theorem dX5_touches_9 : decode cX5_touches 9 = .ok (.iload_n 3, 1) := by decide +kernel
theorem dX5_touches_10 : decode cX5_touches 10 = .ok (.if_icmp .eq 50, 3) := by decide +kernel
theorem dX5_touches_13 : decode cX5_touches 13 = .ok (.aload_n 0, 1) := by decide +kernel
theorem dX5_touches_14 : decode cX5_touches 14 = .ok (.getfield 9, 3) := by decide +kernel
theorem dX5_touches_17 : decode cX5_touches 17 = .ok (.iload_n 1, 1) := by decide +kernel
theorem dX5_touches_18 : decode cX5_touches 18 = .ok (.iconst 1, 1) := by decide +kernel
theorem dX5_touches_19 : decode cX5_touches 19 = .ok (.iadd, 1) := by decide +kernel
theorem dX5_touches_20 : decode cX5_touches 20 = .ok (.iload_n 2, 1) := by decide +kernel
theorem dX5_touches_21 : decode cX5_touches 21 = .ok (.invokevirtual 54, 3) := by decide +kernel
theorem dX5_touches_24 : decode cX5_touches 24 = .ok (.iload_n 3, 1) := by decide +kernel
theorem dX5_touches_25 : decode cX5_touches 25 = .ok (.if_icmp .eq 35, 3) := by decide +kernel
theorem dX5_touches_28 : decode cX5_touches 28 = .ok (.aload_n 0, 1) := by decide +kernel
theorem dX5_touches_29 : decode cX5_touches 29 = .ok (.getfield 9, 3) := by decide +kernel
theorem dX5_touches_32 : decode cX5_touches 32 = .ok (.iload_n 1, 1) := by decide +kernel
theorem dX5_touches_33 : decode cX5_touches 33 = .ok (.iload_n 2, 1) := by decide +kernel
theorem dX5_touches_34 : decode cX5_touches 34 = .ok (.iconst 1, 1) := by decide +kernel
theorem dX5_touches_35 : decode cX5_touches 35 = .ok (.iadd, 1) := by decide +kernel
theorem dX5_touches_36 : decode cX5_touches 36 = .ok (.invokevirtual 54, 3) := by decide +kernel
theorem dX5_touches_39 : decode cX5_touches 39 = .ok (.iload_n 3, 1) := by decide +kernel
theorem dX5_touches_40 : decode cX5_touches 40 = .ok (.if_icmp .eq 20, 3) := by decide +kernel
theorem dX5_touches_43 : decode cX5_touches 43 = .ok (.aload_n 0, 1) := by decide +kernel
theorem dX5_touches_44 : decode cX5_touches 44 = .ok (.getfield 9, 3) := by decide +kernel
theorem dX5_touches_47 : decode cX5_touches 47 = .ok (.iload_n 1, 1) := by decide +kernel
theorem dX5_touches_48 : decode cX5_touches 48 = .ok (.iconst 1, 1) := by decide +kernel
theorem dX5_touches_49 : decode cX5_touches 49 = .ok (.iadd, 1) := by decide +kernel
theorem dX5_touches_50 : decode cX5_touches 50 = .ok (.iload_n 2, 1) := by decide +kernel
theorem dX5_touches_51 : decode cX5_touches 51 = .ok (.iconst 1, 1) := by decide +kernel
theorem dX5_touches_52 : decode cX5_touches 52 = .ok (.iadd, 1) := by decide +kernel
theorem dX5_touches_53 : decode cX5_touches 53 = .ok (.invokevirtual 54, 3) := by decide +kernel
theorem dX5_touches_56 : decode cX5_touches 56 = .ok (.iload_n 3, 1) := by decide +kernel
theorem dX5_touches_57 : decode cX5_touches 57 = .ok (.if_icmp .ne 7, 3) := by decide +kernel
theorem dX5_touches_60 : decode cX5_touches 60 = .ok (.iconst 1, 1) := by decide +kernel
theorem dX5_touches_61 : decode cX5_touches 61 = .ok (.goto 4, 3) := by decide +kernel
theorem dX5_touches_64 : decode cX5_touches 64 = .ok (.iconst 0, 1) := by decide +kernel
theorem dX5_touches_65 : decode cX5_touches 65 = .ok (.ireturn, 1) := by decide +kernel
