theorem dX0_init_0 : decode cX0_init 0 = .ok (.aload_n 0, 1) := by decide +kernel
theorem dX0_init_1 : decode cX0_init 1 = .ok (.invokespecial 3, 3) := by decide +kernel
theorem dX0_init_4 : decode cX0_init 4 = .ok (.aload_n 0, 1) := by decide +kernel
theorem dX0_init_5 : decode cX0_init 5 = .ok (.sipush 128, 3) := by decide +kernel
theorem dX0_init_8 : decode cX0_init 8 = .ok (.newarray .long, 2) := by decide +kernel
theorem dX0_init_10 : decode cX0_init 10 = .ok (.putfield 9, 3) := by decide +kernel
theorem dX0_init_13 : decode cX0_init 13 = .ok (.aload_n 0, 1) := by decide +kernel
theorem dX0_init_14 : decode cX0_init 14 = .ok (.sipush 128, 3) := by decide +kernel
theorem dX0_init_17 : decode cX0_init 17 = .ok (.newarray .int, 2) := by decide +kernel
theorem dX0_init_19 : decode cX0_init 19 = .ok (.putfield 15, 3) := by decide +kernel
theorem dX0_init_22 : decode cX0_init 22 = .ok (.aload_n 0, 1) := by decide +kernel
theorem dX0_init_23 : decode cX0_init 23 = .ok (.bipush 35, 2) := by decide +kernel
theorem dX0_init_25 : decode cX0_init 25 = .ok (.newarray .long, 2) := by decide +kernel
theorem dX0_init_27 : decode cX0_init 27 = .ok (.putfield 19, 3) := by decide +kernel
theorem dX0_init_30 : decode cX0_init 30 = .ok (.aload_n 0, 1) := by decide +kernel
theorem dX0_init_31 : decode cX0_init 31 = .ok (.bipush 7, 2) := by decide +kernel
theorem dX0_init_33 : decode cX0_init 33 = .ok (.newarray .long, 2) := by decide +kernel
theorem dX0_init_35 : decode cX0_init 35 = .ok (.putfield 22, 3) := by decide +kernel
theorem dX0_init_38 : decode cX0_init 38 = .ok (.aload_n 0, 1) := by decide +kernel
theorem dX0_init_39 : decode cX0_init 39 = .ok (.new 25, 3) := by decide +kernel
theorem dX0_init_42 : decode cX0_init 42 = .ok (.dup, 1) := by decide +kernel
theorem dX0_init_43 : decode cX0_init 43 = .ok (.invokespecial 27, 3) := by decide +kernel
theorem dX0_init_46 : decode cX0_init 46 = .ok (.putfield 28, 3) := by decide +kernel
theorem dX0_init_49 : decode cX0_init 49 = .ok (.return_, 1) := by decide +kernel
theorem dX0_reckon_0 : decode cX0_reckon 0 = .ok (.aload_n 0, 1) := by decide +kernel
theorem dX0_reckon_1 : decode cX0_reckon 1 = .ok (.getfield 9, 3) := by decide +kernel
theorem dX0_reckon_4 : decode cX0_reckon 4 = .ok (.lconst 0, 1) := by decide +kernel
theorem dX0_reckon_5 : decode cX0_reckon 5 = .ok (.invokestatic 32, 3) := by decide +kernel
theorem dX0_reckon_8 : decode cX0_reckon 8 = .ok (.aload_n 0, 1) := by decide +kernel
theorem dX0_reckon_9 : decode cX0_reckon 9 = .ok (.getfield 15, 3) := by decide +kernel
theorem dX0_reckon_12 : decode cX0_reckon 12 = .ok (.iconst 0, 1) := by decide +kernel
theorem dX0_reckon_13 : decode cX0_reckon 13 = .ok (.invokestatic 36, 3) := by decide +kernel
theorem dX0_reckon_16 : decode cX0_reckon 16 = .ok (.aload_n 0, 1) := by decide +kernel
theorem dX0_reckon_17 : decode cX0_reckon 17 = .ok (.getfield 19, 3) := by decide +kernel
theorem dX0_reckon_20 : decode cX0_reckon 20 = .ok (.lconst 0, 1) := by decide +kernel
theorem dX0_reckon_21 : decode cX0_reckon 21 = .ok (.invokestatic 32, 3) := by decide +kernel
theorem dX0_reckon_24 : decode cX0_reckon 24 = .ok (.aload_n 0, 1) := by decide +kernel
theorem dX0_reckon_25 : decode cX0_reckon 25 = .ok (.getfield 22, 3) := by decide +kernel
theorem dX0_reckon_28 : decode cX0_reckon 28 = .ok (.lconst 0, 1) := by decide +kernel
theorem dX0_reckon_29 : decode cX0_reckon 29 = .ok (.invokestatic 32, 3) := by decide +kernel
theorem dX0_reckon_32 : decode cX0_reckon 32 = .ok (.aload_n 1, 1) := by decide +kernel
theorem dX0_reckon_33 : decode cX0_reckon 33 = .ok (.getfield 40, 3) := by decide +kernel
theorem dX0_reckon_36 : decode cX0_reckon 36 = .ok (.bipush 7, 2) := by decide +kernel
theorem dX0_reckon_38 : decode cX0_reckon 38 = .ok (.if_icmp .gt 24, 3) := by decide +kernel
theorem dX0_reckon_41 : decode cX0_reckon 41 = .ok (.aload_n 0, 1) := by decide +kernel
theorem dX0_reckon_42 : decode cX0_reckon 42 = .ok (.aload_n 1, 1) := by decide +kernel
theorem dX0_reckon_43 : decode cX0_reckon 43 = .ok (.iconst 0, 1) := by decide +kernel
theorem dX0_reckon_44 : decode cX0_reckon 44 = .ok (.iconst 1, 1) := by decide +kernel
theorem dX0_reckon_45 : decode cX0_reckon 45 = .ok (.aload_n 1, 1) := by decide +kernel
theorem dX0_reckon_46 : decode cX0_reckon 46 = .ok (.getfield 40, 3) := by decide +kernel
theorem dX0_reckon_49 : decode cX0_reckon 49 = .ok (.ishl, 1) := by decide +kernel
theorem dX0_reckon_50 : decode cX0_reckon 50 = .ok (.iconst 1, 1) := by decide +kernel
theorem dX0_reckon_51 : decode cX0_reckon 51 = .ok (.isub, 1) := by decide +kernel
theorem dX0_reckon_52 : decode cX0_reckon 52 = .ok (.aload_n 1, 1) := by decide +kernel
theorem dX0_reckon_53 : decode cX0_reckon 53 = .ok (.getfield 46, 3) := by decide +kernel
theorem dX0_reckon_56 : decode cX0_reckon 56 = .ok (.ldc2_w 49, 3) := by decide +kernel
theorem dX0_reckon_59 : decode cX0_reckon 59 = .ok (.invokestatic 51, 3) := by decide +kernel
theorem dX0_reckon_62 : decode cX0_reckon 62 = .ok (.return_, 1) := by decide +kernel
theorem dX0_walk_0 : decode cX0_walk 0 = .ok (.iload_n 3, 1) := by decide +kernel
theorem dX0_walk_1 : decode cX0_walk 1 = .ok (.ifCond .ne 19, 3) := by decide +kernel
theorem dX0_walk_4 : decode cX0_walk 4 = .ok (.aload_n 0, 1) := by decide +kernel
theorem dX0_walk_5 : decode cX0_walk 5 = .ok (.getfield 28, 3) := by decide +kernel
theorem dX0_walk_8 : decode cX0_walk 8 = .ok (.aload_n 1, 1) := by decide +kernel
theorem dX0_walk_9 : decode cX0_walk 9 = .ok (.invokevirtual 55, 3) := by decide +kernel
theorem dX0_walk_12 : decode cX0_walk 12 = .ok (.aload_n 0, 1) := by decide +kernel
theorem dX0_walk_13 : decode cX0_walk 13 = .ok (.aload_n 1, 1) := by decide +kernel
theorem dX0_walk_14 : decode cX0_walk 14 = .ok (.lload 5, 2) := by decide +kernel
theorem dX0_walk_16 : decode cX0_walk 16 = .ok (.invokevirtual 59, 3) := by decide +kernel
theorem dX0_walk_19 : decode cX0_walk 19 = .ok (.return_, 1) := by decide +kernel
theorem dX0_walk_20 : decode cX0_walk 20 = .ok (.iload_n 2, 1) := by decide +kernel
theorem dX0_walk_21 : decode cX0_walk 21 = .ok (.bipush 7, 2) := by decide +kernel
theorem dX0_walk_23 : decode cX0_walk 23 = .ok (.if_icmp .ge 8, 3) := by decide +kernel
theorem dX0_walk_26 : decode cX0_walk 26 = .ok (.iload 4, 2) := by decide +kernel
theorem dX0_walk_28 : decode cX0_walk 28 = .ok (.ifCond .gt 4, 3) := by decide +kernel
theorem dX0_walk_31 : decode cX0_walk 31 = .ok (.return_, 1) := by decide +kernel
theorem dX0_walk_32 : decode cX0_walk 32 = .ok (.iconst 0, 1) := by decide +kernel
theorem dX0_walk_33 : decode cX0_walk 33 = .ok (.istore 7, 2) := by decide +kernel
theorem dX0_walk_35 : decode cX0_walk 35 = .ok (.iload 7, 2) := by decide +kernel
theorem dX0_walk_37 : decode cX0_walk 37 = .ok (.aload_n 1, 1) := by decide +kernel
theorem dX0_walk_38 : decode cX0_walk 38 = .ok (.getfield 40, 3) := by decide +kernel
theorem dX0_walk_41 : decode cX0_walk 41 = .ok (.if_icmp .ge 74, 3) := by decide +kernel
theorem dX0_walk_44 : decode cX0_walk 44 = .ok (.iload_n 3, 1) := by decide +kernel
theorem dX0_walk_45 : decode cX0_walk 45 = .ok (.iload 7, 2) := by decide +kernel
theorem dX0_walk_47 : decode cX0_walk 47 = .ok (.ishr, 1) := by decide +kernel
theorem dX0_walk_48 : decode cX0_walk 48 = .ok (.iconst 1, 1) := by decide +kernel
theorem dX0_walk_49 : decode cX0_walk 49 = .ok (.iand, 1) := by decide +kernel
theorem dX0_walk_50 : decode cX0_walk 50 = .ok (.iconst 1, 1) := by decide +kernel
theorem dX0_walk_51 : decode cX0_walk 51 = .ok (.if_icmp .ne 58, 3) := by decide +kernel
theorem dX0_walk_54 : decode cX0_walk 54 = .ok (.aload_n 1, 1) := by decide +kernel
theorem dX0_walk_55 : decode cX0_walk 55 = .ok (.getfield 63, 3) := by decide +kernel
theorem dX0_walk_58 : decode cX0_walk 58 = .ok (.iload 7, 2) := by decide +kernel
theorem dX0_walk_60 : decode cX0_walk 60 = .ok (.invokestatic 66, 3) := by decide +kernel
theorem dX0_walk_63 : decode cX0_walk 63 = .ok (.istore 8, 2) := by decide +kernel
theorem dX0_walk_65 : decode cX0_walk 65 = .ok (.aload_n 0, 1) := by decide +kernel
theorem dX0_walk_66 : decode cX0_walk 66 = .ok (.getfield 28, 3) := by decide +kernel
theorem dX0_walk_69 : decode cX0_walk 69 = .ok (.getfield 70, 3) := by decide +kernel
theorem dX0_walk_72 : decode cX0_walk 72 = .ok (.iload_n 2, 1) := by decide +kernel
theorem dX0_walk_73 : decode cX0_walk 73 = .ok (.iload 7, 2) := by decide +kernel
theorem dX0_walk_75 : decode cX0_walk 75 = .ok (.invokestatic 73, 3) := by decide +kernel
theorem dX0_walk_78 : decode cX0_walk 78 = .ok (.aload_n 0, 1) := by decide +kernel
theorem dX0_walk_79 : decode cX0_walk 79 = .ok (.aload_n 1, 1) := by decide +kernel
theorem dX0_walk_80 : decode cX0_walk 80 = .ok (.iload_n 2, 1) := by decide +kernel
theorem dX0_walk_81 : decode cX0_walk 81 = .ok (.iconst 1, 1) := by decide +kernel
theorem dX0_walk_82 : decode cX0_walk 82 = .ok (.iadd, 1) := by decide +kernel
theorem dX0_walk_83 : decode cX0_walk 83 = .ok (.iload_n 3, 1) := by decide +kernel
theorem dX0_walk_84 : decode cX0_walk 84 = .ok (.iconst 1, 1) := by decide +kernel
theorem dX0_walk_85 : decode cX0_walk 85 = .ok (.iload 7, 2) := by decide +kernel
theorem dX0_walk_87 : decode cX0_walk 87 = .ok (.ishl, 1) := by decide +kernel
theorem dX0_walk_88 : decode cX0_walk 88 = .ok (.iconst (-1), 1) := by decide +kernel
theorem dX0_walk_89 : decode cX0_walk 89 = .ok (.ixor, 1) := by decide +kernel
theorem dX0_walk_90 : decode cX0_walk 90 = .ok (.iand, 1) := by decide +kernel
theorem dX0_walk_91 : decode cX0_walk 91 = .ok (.iload 4, 2) := by decide +kernel
theorem dX0_walk_93 : decode cX0_walk 93 = .ok (.iload 8, 2) := by decide +kernel
theorem dX0_walk_95 : decode cX0_walk 95 = .ok (.isub, 1) := by decide +kernel
theorem dX0_walk_96 : decode cX0_walk 96 = .ok (.lload 5, 2) := by decide +kernel
theorem dX0_walk_98 : decode cX0_walk 98 = .ok (.iload 8, 2) := by decide +kernel
theorem dX0_walk_100 : decode cX0_walk 100 = .ok (.i2l, 1) := by decide +kernel
theorem dX0_walk_101 : decode cX0_walk 101 = .ok (.lmul, 1) := by decide +kernel
theorem dX0_walk_102 : decode cX0_walk 102 = .ok (.iload 4, 2) := by decide +kernel
theorem dX0_walk_104 : decode cX0_walk 104 = .ok (.i2l, 1) := by decide +kernel
theorem dX0_walk_105 : decode cX0_walk 105 = .ok (.ldiv, 1) := by decide +kernel
theorem dX0_walk_106 : decode cX0_walk 106 = .ok (.invokestatic 51, 3) := by decide +kernel
theorem dX0_walk_109 : decode cX0_walk 109 = .ok (.iinc 7 1, 3) := by decide +kernel
theorem dX0_walk_112 : decode cX0_walk 112 = .ok (.goto (-77), 3) := by decide +kernel
theorem dX0_walk_115 : decode cX0_walk 115 = .ok (.return_, 1) := by decide +kernel
theorem dX0_record_0 : decode cX0_record 0 = .ok (.iconst 0, 1) := by decide +kernel
theorem dX0_record_1 : decode cX0_record 1 = .ok (.istore 4, 2) := by decide +kernel
theorem dX0_record_3 : decode cX0_record 3 = .ok (.iconst 0, 1) := by decide +kernel
theorem dX0_record_4 : decode cX0_record 4 = .ok (.istore 5, 2) := by decide +kernel
theorem dX0_record_6 : decode cX0_record 6 = .ok (.iload 5, 2) := by decide +kernel
theorem dX0_record_8 : decode cX0_record 8 = .ok (.aload_n 1, 1) := by decide +kernel
theorem dX0_record_9 : decode cX0_record 9 = .ok (.getfield 40, 3) := by decide +kernel
theorem dX0_record_12 : decode cX0_record 12 = .ok (.if_icmp .ge 82, 3) := by decide +kernel
theorem dX0_record_15 : decode cX0_record 15 = .ok (.aload_n 0, 1) := by decide +kernel
theorem dX0_record_16 : decode cX0_record 16 = .ok (.getfield 28, 3) := by decide +kernel
theorem dX0_record_19 : decode cX0_record 19 = .ok (.getfield 77, 3) := by decide +kernel
theorem dX0_record_22 : decode cX0_record 22 = .ok (.iload 5, 2) := by decide +kernel
theorem dX0_record_24 : decode cX0_record 24 = .ok (.invokestatic 66, 3) := by decide +kernel
theorem dX0_record_27 : decode cX0_record 27 = .ok (.istore 6, 2) := by decide +kernel
theorem dX0_record_29 : decode cX0_record 29 = .ok (.iload 6, 2) := by decide +kernel
theorem dX0_record_31 : decode cX0_record 31 = .ok (.iconst (-1), 1) := by decide +kernel
theorem dX0_record_32 : decode cX0_record 32 = .ok (.if_icmp .ne 6, 3) := by decide +kernel
theorem dX0_record_35 : decode cX0_record 35 = .ok (.goto 53, 3) := by decide +kernel
theorem dX0_record_38 : decode cX0_record 38 = .ok (.iload 4, 2) := by decide +kernel
theorem dX0_record_40 : decode cX0_record 40 = .ok (.iconst 1, 1) := by decide +kernel
theorem dX0_record_41 : decode cX0_record 41 = .ok (.iload 5, 2) := by decide +kernel
theorem dX0_record_43 : decode cX0_record 43 = .ok (.ishl, 1) := by decide +kernel
theorem dX0_record_44 : decode cX0_record 44 = .ok (.ior, 1) := by decide +kernel
theorem dX0_record_45 : decode cX0_record 45 = .ok (.istore 4, 2) := by decide +kernel
theorem dX0_record_47 : decode cX0_record 47 = .ok (.aload_n 0, 1) := by decide +kernel
theorem dX0_record_48 : decode cX0_record 48 = .ok (.getfield 19, 3) := by decide +kernel
theorem dX0_record_51 : decode cX0_record 51 = .ok (.iload 5, 2) := by decide +kernel
theorem dX0_record_53 : decode cX0_record 53 = .ok (.iconst 5, 1) := by decide +kernel
theorem dX0_record_54 : decode cX0_record 54 = .ok (.imul, 1) := by decide +kernel
theorem dX0_record_55 : decode cX0_record 55 = .ok (.iload 6, 2) := by decide +kernel
theorem dX0_record_57 : decode cX0_record 57 = .ok (.iadd, 1) := by decide +kernel
theorem dX0_record_58 : decode cX0_record 58 = .ok (.lload_n 2, 1) := by decide +kernel
theorem dX0_record_59 : decode cX0_record 59 = .ok (.invokestatic 80, 3) := by decide +kernel
theorem dX0_record_62 : decode cX0_record 62 = .ok (.aload_n 0, 1) := by decide +kernel
theorem dX0_record_63 : decode cX0_record 63 = .ok (.getfield 28, 3) := by decide +kernel
theorem dX0_record_66 : decode cX0_record 66 = .ok (.getfield 84, 3) := by decide +kernel
theorem dX0_record_69 : decode cX0_record 69 = .ok (.iload 5, 2) := by decide +kernel
theorem dX0_record_71 : decode cX0_record 71 = .ok (.invokestatic 66, 3) := by decide +kernel
theorem dX0_record_74 : decode cX0_record 74 = .ok (.iconst 1, 1) := by decide +kernel
theorem dX0_record_75 : decode cX0_record 75 = .ok (.if_icmp .ne 13, 3) := by decide +kernel
theorem dX0_record_78 : decode cX0_record 78 = .ok (.aload_n 0, 1) := by decide +kernel
theorem dX0_record_79 : decode cX0_record 79 = .ok (.getfield 22, 3) := by decide +kernel
theorem dX0_record_82 : decode cX0_record 82 = .ok (.iload 5, 2) := by decide +kernel
theorem dX0_record_84 : decode cX0_record 84 = .ok (.lload_n 2, 1) := by decide +kernel
theorem dX0_record_85 : decode cX0_record 85 = .ok (.invokestatic 80, 3) := by decide +kernel
theorem dX0_record_88 : decode cX0_record 88 = .ok (.iinc 5 1, 3) := by decide +kernel
theorem dX0_record_91 : decode cX0_record 91 = .ok (.goto (-85), 3) := by decide +kernel
theorem dX0_record_94 : decode cX0_record 94 = .ok (.aload_n 0, 1) := by decide +kernel
theorem dX0_record_95 : decode cX0_record 95 = .ok (.getfield 9, 3) := by decide +kernel
theorem dX0_record_98 : decode cX0_record 98 = .ok (.iload 4, 2) := by decide +kernel
theorem dX0_record_100 : decode cX0_record 100 = .ok (.lload_n 2, 1) := by decide +kernel
theorem dX0_record_101 : decode cX0_record 101 = .ok (.invokestatic 80, 3) := by decide +kernel
theorem dX0_record_104 : decode cX0_record 104 = .ok (.aload_n 0, 1) := by decide +kernel
theorem dX0_record_105 : decode cX0_record 105 = .ok (.getfield 15, 3) := by decide +kernel
theorem dX0_record_108 : decode cX0_record 108 = .ok (.iload 4, 2) := by decide +kernel
theorem dX0_record_110 : decode cX0_record 110 = .ok (.iconst 1, 1) := by decide +kernel
theorem dX0_record_111 : decode cX0_record 111 = .ok (.invokestatic 73, 3) := by decide +kernel
theorem dX0_record_114 : decode cX0_record 114 = .ok (.return_, 1) := by decide +kernel
theorem dX0_certainUnit_0 : decode cX0_certainUnit 0 = .ok (.aload_n 0, 1) := by decide +kernel
theorem dX0_certainUnit_1 : decode cX0_certainUnit 1 = .ok (.getfield 19, 3) := by decide +kernel
theorem dX0_certainUnit_4 : decode cX0_certainUnit 4 = .ok (.iload_n 1, 1) := by decide +kernel
theorem dX0_certainUnit_5 : decode cX0_certainUnit 5 = .ok (.iconst 5, 1) := by decide +kernel
theorem dX0_certainUnit_6 : decode cX0_certainUnit 6 = .ok (.imul, 1) := by decide +kernel
theorem dX0_certainUnit_7 : decode cX0_certainUnit 7 = .ok (.iload_n 2, 1) := by decide +kernel
theorem dX0_certainUnit_8 : decode cX0_certainUnit 8 = .ok (.iadd, 1) := by decide +kernel
theorem dX0_certainUnit_9 : decode cX0_certainUnit 9 = .ok (.invokestatic 87, 3) := by decide +kernel
theorem dX0_certainUnit_12 : decode cX0_certainUnit 12 = .ok (.lreturn, 1) := by decide +kernel
theorem dX0_anyUnit_0 : decode cX0_anyUnit 0 = .ok (.aload_n 0, 1) := by decide +kernel
theorem dX0_anyUnit_1 : decode cX0_anyUnit 1 = .ok (.iconst 1, 1) := by decide +kernel
theorem dX0_anyUnit_2 : decode cX0_anyUnit 2 = .ok (.iload_n 1, 1) := by decide +kernel
theorem dX0_anyUnit_3 : decode cX0_anyUnit 3 = .ok (.ishl, 1) := by decide +kernel
theorem dX0_anyUnit_4 : decode cX0_anyUnit 4 = .ok (.invokevirtual 91, 3) := by decide +kernel
theorem dX0_anyUnit_7 : decode cX0_anyUnit 7 = .ok (.lreturn, 1) := by decide +kernel
theorem dX0_allOf_0 : decode cX0_allOf 0 = .ok (.lconst 0, 1) := by decide +kernel
theorem dX0_allOf_1 : decode cX0_allOf 1 = .ok (.lstore_n 2, 1) := by decide +kernel
theorem dX0_allOf_2 : decode cX0_allOf 2 = .ok (.iconst 0, 1) := by decide +kernel
theorem dX0_allOf_3 : decode cX0_allOf 3 = .ok (.istore 4, 2) := by decide +kernel
theorem dX0_allOf_5 : decode cX0_allOf 5 = .ok (.iload 4, 2) := by decide +kernel
theorem dX0_allOf_7 : decode cX0_allOf 7 = .ok (.sipush 128, 3) := by decide +kernel
theorem dX0_allOf_10 : decode cX0_allOf 10 = .ok (.if_icmp .ge 29, 3) := by decide +kernel
theorem dX0_allOf_13 : decode cX0_allOf 13 = .ok (.iload 4, 2) := by decide +kernel
theorem dX0_allOf_15 : decode cX0_allOf 15 = .ok (.iload_n 1, 1) := by decide +kernel
theorem dX0_allOf_16 : decode cX0_allOf 16 = .ok (.iand, 1) := by decide +kernel
theorem dX0_allOf_17 : decode cX0_allOf 17 = .ok (.iload_n 1, 1) := by decide +kernel
theorem dX0_allOf_18 : decode cX0_allOf 18 = .ok (.if_icmp .ne 15, 3) := by decide +kernel
theorem dX0_allOf_21 : decode cX0_allOf 21 = .ok (.lload_n 2, 1) := by decide +kernel
theorem dX0_allOf_22 : decode cX0_allOf 22 = .ok (.aload_n 0, 1) := by decide +kernel
theorem dX0_allOf_23 : decode cX0_allOf 23 = .ok (.getfield 9, 3) := by decide +kernel
theorem dX0_allOf_26 : decode cX0_allOf 26 = .ok (.iload 4, 2) := by decide +kernel
theorem dX0_allOf_28 : decode cX0_allOf 28 = .ok (.invokestatic 87, 3) := by decide +kernel
theorem dX0_allOf_31 : decode cX0_allOf 31 = .ok (.ladd, 1) := by decide +kernel
theorem dX0_allOf_32 : decode cX0_allOf 32 = .ok (.lstore_n 2, 1) := by decide +kernel
theorem dX0_allOf_33 : decode cX0_allOf 33 = .ok (.iinc 4 1, 3) := by decide +kernel
theorem dX0_allOf_36 : decode cX0_allOf 36 = .ok (.goto (-31), 3) := by decide +kernel
theorem dX0_allOf_39 : decode cX0_allOf 39 = .ok (.lload_n 2, 1) := by decide +kernel
theorem dX0_allOf_40 : decode cX0_allOf 40 = .ok (.lreturn, 1) := by decide +kernel
theorem dX0_always_0 : decode cX0_always 0 = .ok (.bipush 127, 2) := by decide +kernel
theorem dX0_always_2 : decode cX0_always 2 = .ok (.istore_n 1, 1) := by decide +kernel
theorem dX0_always_3 : decode cX0_always 3 = .ok (.iconst 0, 1) := by decide +kernel
theorem dX0_always_4 : decode cX0_always 4 = .ok (.istore_n 2, 1) := by decide +kernel
theorem dX0_always_5 : decode cX0_always 5 = .ok (.iload_n 2, 1) := by decide +kernel
theorem dX0_always_6 : decode cX0_always 6 = .ok (.sipush 128, 3) := by decide +kernel
theorem dX0_always_9 : decode cX0_always 9 = .ok (.if_icmp .ge 25, 3) := by decide +kernel
theorem dX0_always_12 : decode cX0_always 12 = .ok (.aload_n 0, 1) := by decide +kernel
theorem dX0_always_13 : decode cX0_always 13 = .ok (.getfield 15, 3) := by decide +kernel
theorem dX0_always_16 : decode cX0_always 16 = .ok (.iload_n 2, 1) := by decide +kernel
theorem dX0_always_17 : decode cX0_always 17 = .ok (.invokestatic 66, 3) := by decide +kernel
theorem dX0_always_20 : decode cX0_always 20 = .ok (.iconst 1, 1) := by decide +kernel
theorem dX0_always_21 : decode cX0_always 21 = .ok (.if_icmp .ne 7, 3) := by decide +kernel
theorem dX0_always_24 : decode cX0_always 24 = .ok (.iload_n 1, 1) := by decide +kernel
theorem dX0_always_25 : decode cX0_always 25 = .ok (.iload_n 2, 1) := by decide +kernel
theorem dX0_always_26 : decode cX0_always 26 = .ok (.iand, 1) := by decide +kernel
theorem dX0_always_27 : decode cX0_always 27 = .ok (.istore_n 1, 1) := by decide +kernel
theorem dX0_always_28 : decode cX0_always 28 = .ok (.iinc 2 1, 3) := by decide +kernel
theorem dX0_always_31 : decode cX0_always 31 = .ok (.goto (-26), 3) := by decide +kernel
theorem dX0_always_34 : decode cX0_always 34 = .ok (.iload_n 1, 1) := by decide +kernel
theorem dX0_always_35 : decode cX0_always 35 = .ok (.ireturn, 1) := by decide +kernel
theorem dX0_ever_0 : decode cX0_ever 0 = .ok (.iconst 0, 1) := by decide +kernel
theorem dX0_ever_1 : decode cX0_ever 1 = .ok (.istore_n 1, 1) := by decide +kernel
theorem dX0_ever_2 : decode cX0_ever 2 = .ok (.iconst 0, 1) := by decide +kernel
theorem dX0_ever_3 : decode cX0_ever 3 = .ok (.istore_n 2, 1) := by decide +kernel
theorem dX0_ever_4 : decode cX0_ever 4 = .ok (.iload_n 2, 1) := by decide +kernel
theorem dX0_ever_5 : decode cX0_ever 5 = .ok (.sipush 128, 3) := by decide +kernel
theorem dX0_ever_8 : decode cX0_ever 8 = .ok (.if_icmp .ge 25, 3) := by decide +kernel
theorem dX0_ever_11 : decode cX0_ever 11 = .ok (.aload_n 0, 1) := by decide +kernel
theorem dX0_ever_12 : decode cX0_ever 12 = .ok (.getfield 15, 3) := by decide +kernel
theorem dX0_ever_15 : decode cX0_ever 15 = .ok (.iload_n 2, 1) := by decide +kernel
theorem dX0_ever_16 : decode cX0_ever 16 = .ok (.invokestatic 66, 3) := by decide +kernel
theorem dX0_ever_19 : decode cX0_ever 19 = .ok (.iconst 1, 1) := by decide +kernel
theorem dX0_ever_20 : decode cX0_ever 20 = .ok (.if_icmp .ne 7, 3) := by decide +kernel
theorem dX0_ever_23 : decode cX0_ever 23 = .ok (.iload_n 1, 1) := by decide +kernel
theorem dX0_ever_24 : decode cX0_ever 24 = .ok (.iload_n 2, 1) := by decide +kernel
theorem dX0_ever_25 : decode cX0_ever 25 = .ok (.ior, 1) := by decide +kernel
theorem dX0_ever_26 : decode cX0_ever 26 = .ok (.istore_n 1, 1) := by decide +kernel
theorem dX0_ever_27 : decode cX0_ever 27 = .ok (.iinc 2 1, 3) := by decide +kernel
theorem dX0_ever_30 : decode cX0_ever 30 = .ok (.goto (-26), 3) := by decide +kernel
theorem dX0_ever_33 : decode cX0_ever 33 = .ok (.iload_n 1, 1) := by decide +kernel
theorem dX0_ever_34 : decode cX0_ever 34 = .ok (.ireturn, 1) := by decide +kernel
theorem dX0_fewestTags_0 : decode cX0_fewestTags 0 = .ok (.bipush 10, 2) := by decide +kernel
theorem dX0_fewestTags_2 : decode cX0_fewestTags 2 = .ok (.istore_n 2, 1) := by decide +kernel
theorem dX0_fewestTags_3 : decode cX0_fewestTags 3 = .ok (.iconst 0, 1) := by decide +kernel
theorem dX0_fewestTags_4 : decode cX0_fewestTags 4 = .ok (.istore_n 3, 1) := by decide +kernel
theorem dX0_fewestTags_5 : decode cX0_fewestTags 5 = .ok (.iload_n 3, 1) := by decide +kernel
theorem dX0_fewestTags_6 : decode cX0_fewestTags 6 = .ok (.sipush 128, 3) := by decide +kernel
theorem dX0_fewestTags_9 : decode cX0_fewestTags 9 = .ok (.if_icmp .ge 31, 3) := by decide +kernel
theorem dX0_fewestTags_12 : decode cX0_fewestTags 12 = .ok (.aload_n 0, 1) := by decide +kernel
theorem dX0_fewestTags_13 : decode cX0_fewestTags 13 = .ok (.getfield 15, 3) := by decide +kernel
theorem dX0_fewestTags_16 : decode cX0_fewestTags 16 = .ok (.iload_n 3, 1) := by decide +kernel
theorem dX0_fewestTags_17 : decode cX0_fewestTags 17 = .ok (.invokestatic 66, 3) := by decide +kernel
theorem dX0_fewestTags_20 : decode cX0_fewestTags 20 = .ok (.iconst 1, 1) := by decide +kernel
theorem dX0_fewestTags_21 : decode cX0_fewestTags 21 = .ok (.if_icmp .ne 13, 3) := by decide +kernel
theorem dX0_fewestTags_24 : decode cX0_fewestTags 24 = .ok (.iload_n 2, 1) := by decide +kernel
theorem dX0_fewestTags_25 : decode cX0_fewestTags 25 = .ok (.aload_n 1, 1) := by decide +kernel
theorem dX0_fewestTags_26 : decode cX0_fewestTags 26 = .ok (.iload_n 3, 1) := by decide +kernel
theorem dX0_fewestTags_27 : decode cX0_fewestTags 27 = .ok (.invokestatic 95, 3) := by decide +kernel
theorem dX0_fewestTags_30 : decode cX0_fewestTags 30 = .ok (.invokestatic 99, 3) := by decide +kernel
theorem dX0_fewestTags_33 : decode cX0_fewestTags 33 = .ok (.istore_n 2, 1) := by decide +kernel
theorem dX0_fewestTags_34 : decode cX0_fewestTags 34 = .ok (.iinc 3 1, 3) := by decide +kernel
theorem dX0_fewestTags_37 : decode cX0_fewestTags 37 = .ok (.goto (-32), 3) := by decide +kernel
theorem dX0_fewestTags_40 : decode cX0_fewestTags 40 = .ok (.iload_n 2, 1) := by decide +kernel
theorem dX0_fewestTags_41 : decode cX0_fewestTags 41 = .ok (.ireturn, 1) := by decide +kernel
theorem dX0_mostTags_0 : decode cX0_mostTags 0 = .ok (.iconst 0, 1) := by decide +kernel
theorem dX0_mostTags_1 : decode cX0_mostTags 1 = .ok (.istore_n 2, 1) := by decide +kernel
theorem dX0_mostTags_2 : decode cX0_mostTags 2 = .ok (.iconst 0, 1) := by decide +kernel
theorem dX0_mostTags_3 : decode cX0_mostTags 3 = .ok (.istore_n 3, 1) := by decide +kernel
theorem dX0_mostTags_4 : decode cX0_mostTags 4 = .ok (.iload_n 3, 1) := by decide +kernel
theorem dX0_mostTags_5 : decode cX0_mostTags 5 = .ok (.sipush 128, 3) := by decide +kernel
theorem dX0_mostTags_8 : decode cX0_mostTags 8 = .ok (.if_icmp .ge 31, 3) := by decide +kernel
theorem dX0_mostTags_11 : decode cX0_mostTags 11 = .ok (.aload_n 0, 1) := by decide +kernel
theorem dX0_mostTags_12 : decode cX0_mostTags 12 = .ok (.getfield 15, 3) := by decide +kernel
theorem dX0_mostTags_15 : decode cX0_mostTags 15 = .ok (.iload_n 3, 1) := by decide +kernel
theorem dX0_mostTags_16 : decode cX0_mostTags 16 = .ok (.invokestatic 66, 3) := by decide +kernel
theorem dX0_mostTags_19 : decode cX0_mostTags 19 = .ok (.iconst 1, 1) := by decide +kernel
theorem dX0_mostTags_20 : decode cX0_mostTags 20 = .ok (.if_icmp .ne 13, 3) := by decide +kernel
theorem dX0_mostTags_23 : decode cX0_mostTags 23 = .ok (.iload_n 2, 1) := by decide +kernel
theorem dX0_mostTags_24 : decode cX0_mostTags 24 = .ok (.aload_n 1, 1) := by decide +kernel
theorem dX0_mostTags_25 : decode cX0_mostTags 25 = .ok (.iload_n 3, 1) := by decide +kernel
theorem dX0_mostTags_26 : decode cX0_mostTags 26 = .ok (.invokestatic 95, 3) := by decide +kernel
theorem dX0_mostTags_29 : decode cX0_mostTags 29 = .ok (.invokestatic 105, 3) := by decide +kernel
theorem dX0_mostTags_32 : decode cX0_mostTags 32 = .ok (.istore_n 2, 1) := by decide +kernel
theorem dX0_mostTags_33 : decode cX0_mostTags 33 = .ok (.iinc 3 1, 3) := by decide +kernel
theorem dX0_mostTags_36 : decode cX0_mostTags 36 = .ok (.goto (-32), 3) := by decide +kernel
theorem dX0_mostTags_39 : decode cX0_mostTags 39 = .ok (.iload_n 2, 1) := by decide +kernel
theorem dX0_mostTags_40 : decode cX0_mostTags 40 = .ok (.ireturn, 1) := by decide +kernel
theorem dX0_tagsOf_0 : decode cX0_tagsOf 0 = .ok (.iconst 0, 1) := by decide +kernel
theorem dX0_tagsOf_1 : decode cX0_tagsOf 1 = .ok (.istore_n 2, 1) := by decide +kernel
theorem dX0_tagsOf_2 : decode cX0_tagsOf 2 = .ok (.iconst 0, 1) := by decide +kernel
theorem dX0_tagsOf_3 : decode cX0_tagsOf 3 = .ok (.istore_n 3, 1) := by decide +kernel
theorem dX0_tagsOf_4 : decode cX0_tagsOf 4 = .ok (.iload_n 3, 1) := by decide +kernel
theorem dX0_tagsOf_5 : decode cX0_tagsOf 5 = .ok (.aload_n 0, 1) := by decide +kernel
theorem dX0_tagsOf_6 : decode cX0_tagsOf 6 = .ok (.getfield 40, 3) := by decide +kernel
theorem dX0_tagsOf_9 : decode cX0_tagsOf 9 = .ok (.if_icmp .ge 33, 3) := by decide +kernel
theorem dX0_tagsOf_12 : decode cX0_tagsOf 12 = .ok (.iload_n 2, 1) := by decide +kernel
theorem dX0_tagsOf_13 : decode cX0_tagsOf 13 = .ok (.iload_n 1, 1) := by decide +kernel
theorem dX0_tagsOf_14 : decode cX0_tagsOf 14 = .ok (.iload_n 3, 1) := by decide +kernel
theorem dX0_tagsOf_15 : decode cX0_tagsOf 15 = .ok (.ishr, 1) := by decide +kernel
theorem dX0_tagsOf_16 : decode cX0_tagsOf 16 = .ok (.iconst 1, 1) := by decide +kernel
theorem dX0_tagsOf_17 : decode cX0_tagsOf 17 = .ok (.iand, 1) := by decide +kernel
theorem dX0_tagsOf_18 : decode cX0_tagsOf 18 = .ok (.iconst 1, 1) := by decide +kernel
theorem dX0_tagsOf_19 : decode cX0_tagsOf 19 = .ok (.if_icmp .ne 14, 3) := by decide +kernel
theorem dX0_tagsOf_22 : decode cX0_tagsOf 22 = .ok (.aload_n 0, 1) := by decide +kernel
theorem dX0_tagsOf_23 : decode cX0_tagsOf 23 = .ok (.getfield 108, 3) := by decide +kernel
theorem dX0_tagsOf_26 : decode cX0_tagsOf 26 = .ok (.iload_n 3, 1) := by decide +kernel
theorem dX0_tagsOf_27 : decode cX0_tagsOf 27 = .ok (.invokestatic 66, 3) := by decide +kernel
theorem dX0_tagsOf_30 : decode cX0_tagsOf 30 = .ok (.goto 4, 3) := by decide +kernel
theorem dX0_tagsOf_33 : decode cX0_tagsOf 33 = .ok (.iconst 0, 1) := by decide +kernel
theorem dX0_tagsOf_34 : decode cX0_tagsOf 34 = .ok (.iadd, 1) := by decide +kernel
theorem dX0_tagsOf_35 : decode cX0_tagsOf 35 = .ok (.istore_n 2, 1) := by decide +kernel
theorem dX0_tagsOf_36 : decode cX0_tagsOf 36 = .ok (.iinc 3 1, 3) := by decide +kernel
theorem dX0_tagsOf_39 : decode cX0_tagsOf 39 = .ok (.goto (-35), 3) := by decide +kernel
theorem dX0_tagsOf_42 : decode cX0_tagsOf 42 = .ok (.iload_n 2, 1) := by decide +kernel
theorem dX0_tagsOf_43 : decode cX0_tagsOf 43 = .ok (.ireturn, 1) := by decide +kernel
theorem dX1_init_0 : decode cX1_init 0 = .ok (.aload_n 0, 1) := by decide +kernel
theorem dX1_init_1 : decode cX1_init 1 = .ok (.invokespecial 3, 3) := by decide +kernel
theorem dX1_init_4 : decode cX1_init 4 = .ok (.aload_n 0, 1) := by decide +kernel
theorem dX1_init_5 : decode cX1_init 5 = .ok (.bipush 8, 2) := by decide +kernel
theorem dX1_init_7 : decode cX1_init 7 = .ok (.anewarray 9, 3) := by decide +kernel
theorem dX1_init_10 : decode cX1_init 10 = .ok (.putfield 11, 3) := by decide +kernel
theorem dX1_init_13 : decode cX1_init 13 = .ok (.iconst 0, 1) := by decide +kernel
theorem dX1_init_14 : decode cX1_init 14 = .ok (.istore_n 1, 1) := by decide +kernel
theorem dX1_init_15 : decode cX1_init 15 = .ok (.iload_n 1, 1) := by decide +kernel
theorem dX1_init_16 : decode cX1_init 16 = .ok (.aload_n 0, 1) := by decide +kernel
theorem dX1_init_17 : decode cX1_init 17 = .ok (.getfield 11, 3) := by decide +kernel
theorem dX1_init_20 : decode cX1_init 20 = .ok (.arraylength, 1) := by decide +kernel
theorem dX1_init_21 : decode cX1_init 21 = .ok (.if_icmp .ge 22, 3) := by decide +kernel
theorem dX1_init_24 : decode cX1_init 24 = .ok (.aload_n 0, 1) := by decide +kernel
theorem dX1_init_25 : decode cX1_init 25 = .ok (.getfield 11, 3) := by decide +kernel
theorem dX1_init_28 : decode cX1_init 28 = .ok (.iload_n 1, 1) := by decide +kernel
theorem dX1_init_29 : decode cX1_init 29 = .ok (.new 9, 3) := by decide +kernel
theorem dX1_init_32 : decode cX1_init 32 = .ok (.dup, 1) := by decide +kernel
theorem dX1_init_33 : decode cX1_init 33 = .ok (.invokespecial 17, 3) := by decide +kernel
theorem dX1_init_36 : decode cX1_init 36 = .ok (.aastore, 1) := by decide +kernel
theorem dX1_init_37 : decode cX1_init 37 = .ok (.iinc 1 1, 3) := by decide +kernel
theorem dX1_init_40 : decode cX1_init 40 = .ok (.goto (-25), 3) := by decide +kernel
theorem dX1_init_43 : decode cX1_init 43 = .ok (.return_, 1) := by decide +kernel
theorem dX1_forget_0 : decode cX1_forget 0 = .ok (.aload_n 0, 1) := by decide +kernel
theorem dX1_forget_1 : decode cX1_forget 1 = .ok (.iconst 0, 1) := by decide +kernel
theorem dX1_forget_2 : decode cX1_forget 2 = .ok (.putfield 18, 3) := by decide +kernel
theorem dX1_forget_5 : decode cX1_forget 5 = .ok (.return_, 1) := by decide +kernel
theorem dX1_keep_0 : decode cX1_keep 0 = .ok (.aload_n 0, 1) := by decide +kernel
theorem dX1_keep_1 : decode cX1_keep 1 = .ok (.aload_n 0, 1) := by decide +kernel
theorem dX1_keep_2 : decode cX1_keep 2 = .ok (.getfield 22, 3) := by decide +kernel
theorem dX1_keep_5 : decode cX1_keep 5 = .ok (.iconst 1, 1) := by decide +kernel
theorem dX1_keep_6 : decode cX1_keep 6 = .ok (.iadd, 1) := by decide +kernel
theorem dX1_keep_7 : decode cX1_keep 7 = .ok (.bipush 8, 2) := by decide +kernel
theorem dX1_keep_9 : decode cX1_keep 9 = .ok (.if_icmp .ge 12, 3) := by decide +kernel
theorem dX1_keep_12 : decode cX1_keep 12 = .ok (.aload_n 0, 1) := by decide +kernel
theorem dX1_keep_13 : decode cX1_keep 13 = .ok (.getfield 22, 3) := by decide +kernel
theorem dX1_keep_16 : decode cX1_keep 16 = .ok (.iconst 1, 1) := by decide +kernel
theorem dX1_keep_17 : decode cX1_keep 17 = .ok (.iadd, 1) := by decide +kernel
theorem dX1_keep_18 : decode cX1_keep 18 = .ok (.goto 4, 3) := by decide +kernel
theorem dX1_keep_21 : decode cX1_keep 21 = .ok (.iconst 0, 1) := by decide +kernel
theorem dX1_keep_22 : decode cX1_keep 22 = .ok (.putfield 22, 3) := by decide +kernel
theorem dX1_keep_25 : decode cX1_keep 25 = .ok (.aload_n 0, 1) := by decide +kernel
theorem dX1_keep_26 : decode cX1_keep 26 = .ok (.invokevirtual 25, 3) := by decide +kernel
theorem dX1_keep_29 : decode cX1_keep 29 = .ok (.astore_n 2, 1) := by decide +kernel
theorem dX1_keep_30 : decode cX1_keep 30 = .ok (.aload_n 2, 1) := by decide +kernel
theorem dX1_keep_31 : decode cX1_keep 31 = .ok (.ifnonnull 4, 3) := by decide +kernel
theorem dX1_keep_34 : decode cX1_keep 34 = .ok (.return_, 1) := by decide +kernel
theorem dX1_keep_35 : decode cX1_keep 35 = .ok (.aload_n 2, 1) := by decide +kernel
theorem dX1_keep_36 : decode cX1_keep 36 = .ok (.aload_n 1, 1) := by decide +kernel
theorem dX1_keep_37 : decode cX1_keep 37 = .ok (.invokevirtual 29, 3) := by decide +kernel
theorem dX1_keep_40 : decode cX1_keep 40 = .ok (.aload_n 0, 1) := by decide +kernel
theorem dX1_keep_41 : decode cX1_keep 41 = .ok (.aload_n 0, 1) := by decide +kernel
theorem dX1_keep_42 : decode cX1_keep 42 = .ok (.getfield 18, 3) := by decide +kernel
theorem dX1_keep_45 : decode cX1_keep 45 = .ok (.iconst 1, 1) := by decide +kernel
theorem dX1_keep_46 : decode cX1_keep 46 = .ok (.iadd, 1) := by decide +kernel
theorem dX1_keep_47 : decode cX1_keep 47 = .ok (.bipush 8, 2) := by decide +kernel
theorem dX1_keep_49 : decode cX1_keep 49 = .ok (.invokestatic 33, 3) := by decide +kernel
theorem dX1_keep_52 : decode cX1_keep 52 = .ok (.putfield 18, 3) := by decide +kernel
theorem dX1_keep_55 : decode cX1_keep 55 = .ok (.return_, 1) := by decide +kernel
theorem dX1_giveBack_0 : decode cX1_giveBack 0 = .ok (.aload_n 0, 1) := by decide +kernel
theorem dX1_giveBack_1 : decode cX1_giveBack 1 = .ok (.invokevirtual 25, 3) := by decide +kernel
theorem dX1_giveBack_4 : decode cX1_giveBack 4 = .ok (.astore_n 2, 1) := by decide +kernel
theorem dX1_giveBack_5 : decode cX1_giveBack 5 = .ok (.aload_n 0, 1) := by decide +kernel
theorem dX1_giveBack_6 : decode cX1_giveBack 6 = .ok (.getfield 18, 3) := by decide +kernel
theorem dX1_giveBack_9 : decode cX1_giveBack 9 = .ok (.ifCond .eq 7, 3) := by decide +kernel
theorem dX1_giveBack_12 : decode cX1_giveBack 12 = .ok (.aload_n 2, 1) := by decide +kernel
theorem dX1_giveBack_13 : decode cX1_giveBack 13 = .ok (.ifnonnull 5, 3) := by decide +kernel
theorem dX1_giveBack_16 : decode cX1_giveBack 16 = .ok (.iconst 0, 1) := by decide +kernel
theorem dX1_giveBack_17 : decode cX1_giveBack 17 = .ok (.ireturn, 1) := by decide +kernel
theorem dX1_giveBack_18 : decode cX1_giveBack 18 = .ok (.aload_n 1, 1) := by decide +kernel
theorem dX1_giveBack_19 : decode cX1_giveBack 19 = .ok (.aload_n 2, 1) := by decide +kernel
theorem dX1_giveBack_20 : decode cX1_giveBack 20 = .ok (.invokevirtual 29, 3) := by decide +kernel
theorem dX1_giveBack_23 : decode cX1_giveBack 23 = .ok (.aload_n 0, 1) := by decide +kernel
theorem dX1_giveBack_24 : decode cX1_giveBack 24 = .ok (.dup, 1) := by decide +kernel
theorem dX1_giveBack_25 : decode cX1_giveBack 25 = .ok (.getfield 18, 3) := by decide +kernel
theorem dX1_giveBack_28 : decode cX1_giveBack 28 = .ok (.iconst 1, 1) := by decide +kernel
theorem dX1_giveBack_29 : decode cX1_giveBack 29 = .ok (.isub, 1) := by decide +kernel
theorem dX1_giveBack_30 : decode cX1_giveBack 30 = .ok (.putfield 18, 3) := by decide +kernel
theorem dX1_giveBack_33 : decode cX1_giveBack 33 = .ok (.aload_n 0, 1) := by decide +kernel
theorem dX1_giveBack_34 : decode cX1_giveBack 34 = .ok (.aload_n 0, 1) := by decide +kernel
theorem dX1_giveBack_35 : decode cX1_giveBack 35 = .ok (.getfield 22, 3) := by decide +kernel
theorem dX1_giveBack_38 : decode cX1_giveBack 38 = .ok (.ifCond .le 12, 3) := by decide +kernel
theorem dX1_giveBack_41 : decode cX1_giveBack 41 = .ok (.aload_n 0, 1) := by decide +kernel
theorem dX1_giveBack_42 : decode cX1_giveBack 42 = .ok (.getfield 22, 3) := by decide +kernel
theorem dX1_giveBack_45 : decode cX1_giveBack 45 = .ok (.iconst 1, 1) := by decide +kernel
theorem dX1_giveBack_46 : decode cX1_giveBack 46 = .ok (.isub, 1) := by decide +kernel
theorem dX1_giveBack_47 : decode cX1_giveBack 47 = .ok (.goto 5, 3) := by decide +kernel
theorem dX1_giveBack_50 : decode cX1_giveBack 50 = .ok (.bipush 7, 2) := by decide +kernel
theorem dX1_giveBack_52 : decode cX1_giveBack 52 = .ok (.putfield 22, 3) := by decide +kernel
theorem dX1_giveBack_55 : decode cX1_giveBack 55 = .ok (.iconst 1, 1) := by decide +kernel
theorem dX1_giveBack_56 : decode cX1_giveBack 56 = .ok (.ireturn, 1) := by decide +kernel
theorem dX1_newestStood_0 : decode cX1_newestStood 0 = .ok (.aload_n 0, 1) := by decide +kernel
theorem dX1_newestStood_1 : decode cX1_newestStood 1 = .ok (.getfield 22, 3) := by decide +kernel
theorem dX1_newestStood_4 : decode cX1_newestStood 4 = .ok (.ifCond .lt 27, 3) := by decide +kernel
theorem dX1_newestStood_7 : decode cX1_newestStood 7 = .ok (.aload_n 0, 1) := by decide +kernel
theorem dX1_newestStood_8 : decode cX1_newestStood 8 = .ok (.getfield 22, 3) := by decide +kernel
theorem dX1_newestStood_11 : decode cX1_newestStood 11 = .ok (.aload_n 0, 1) := by decide +kernel
theorem dX1_newestStood_12 : decode cX1_newestStood 12 = .ok (.getfield 11, 3) := by decide +kernel
theorem dX1_newestStood_15 : decode cX1_newestStood 15 = .ok (.arraylength, 1) := by decide +kernel
theorem dX1_newestStood_16 : decode cX1_newestStood 16 = .ok (.if_icmp .ge 15, 3) := by decide +kernel
theorem dX1_newestStood_19 : decode cX1_newestStood 19 = .ok (.aload_n 0, 1) := by decide +kernel
theorem dX1_newestStood_20 : decode cX1_newestStood 20 = .ok (.getfield 11, 3) := by decide +kernel
theorem dX1_newestStood_23 : decode cX1_newestStood 23 = .ok (.aload_n 0, 1) := by decide +kernel
theorem dX1_newestStood_24 : decode cX1_newestStood 24 = .ok (.getfield 22, 3) := by decide +kernel
theorem dX1_newestStood_27 : decode cX1_newestStood 27 = .ok (.aaload, 1) := by decide +kernel
theorem dX1_newestStood_28 : decode cX1_newestStood 28 = .ok (.goto 4, 3) := by decide +kernel
theorem dX1_newestStood_31 : decode cX1_newestStood 31 = .ok (.aconst_null, 1) := by decide +kernel
theorem dX1_newestStood_32 : decode cX1_newestStood 32 = .ok (.areturn, 1) := by decide +kernel
theorem dX2_init_0 : decode cX2_init 0 = .ok (.aload_n 0, 1) := by decide +kernel
theorem dX2_init_1 : decode cX2_init 1 = .ok (.invokespecial 3, 3) := by decide +kernel
theorem dX2_init_4 : decode cX2_init 4 = .ok (.aload_n 0, 1) := by decide +kernel
theorem dX2_init_5 : decode cX2_init 5 = .ok (.iconst 5, 1) := by decide +kernel
theorem dX2_init_6 : decode cX2_init 6 = .ok (.newarray .int, 2) := by decide +kernel
theorem dX2_init_8 : decode cX2_init 8 = .ok (.putfield 9, 3) := by decide +kernel
theorem dX2_init_11 : decode cX2_init 11 = .ok (.aload_n 0, 1) := by decide +kernel
theorem dX2_init_12 : decode cX2_init 12 = .ok (.iconst 5, 1) := by decide +kernel
theorem dX2_init_13 : decode cX2_init 13 = .ok (.newarray .int, 2) := by decide +kernel
theorem dX2_init_15 : decode cX2_init 15 = .ok (.putfield 15, 3) := by decide +kernel
theorem dX2_init_18 : decode cX2_init 18 = .ok (.aload_n 0, 1) := by decide +kernel
theorem dX2_init_19 : decode cX2_init 19 = .ok (.iconst 5, 1) := by decide +kernel
theorem dX2_init_20 : decode cX2_init 20 = .ok (.newarray .int, 2) := by decide +kernel
theorem dX2_init_22 : decode cX2_init 22 = .ok (.putfield 18, 3) := by decide +kernel
theorem dX2_init_25 : decode cX2_init 25 = .ok (.aload_n 0, 1) := by decide +kernel
theorem dX2_init_26 : decode cX2_init 26 = .ok (.bipush 10, 2) := by decide +kernel
theorem dX2_init_28 : decode cX2_init 28 = .ok (.newarray .int, 2) := by decide +kernel
theorem dX2_init_30 : decode cX2_init 30 = .ok (.putfield 21, 3) := by decide +kernel
theorem dX2_init_33 : decode cX2_init 33 = .ok (.aload_n 0, 1) := by decide +kernel
theorem dX2_init_34 : decode cX2_init 34 = .ok (.bipush 10, 2) := by decide +kernel
theorem dX2_init_36 : decode cX2_init 36 = .ok (.newarray .int, 2) := by decide +kernel
theorem dX2_init_38 : decode cX2_init 38 = .ok (.putfield 24, 3) := by decide +kernel
theorem dX2_init_41 : decode cX2_init 41 = .ok (.aload_n 0, 1) := by decide +kernel
theorem dX2_init_42 : decode cX2_init 42 = .ok (.bipush 10, 2) := by decide +kernel
theorem dX2_init_44 : decode cX2_init 44 = .ok (.newarray .int, 2) := by decide +kernel
theorem dX2_init_46 : decode cX2_init 46 = .ok (.putfield 27, 3) := by decide +kernel
theorem dX2_init_49 : decode cX2_init 49 = .ok (.aload_n 0, 1) := by decide +kernel
theorem dX2_init_50 : decode cX2_init 50 = .ok (.bipush 10, 2) := by decide +kernel
theorem dX2_init_52 : decode cX2_init 52 = .ok (.newarray .int, 2) := by decide +kernel
theorem dX2_init_54 : decode cX2_init 54 = .ok (.putfield 30, 3) := by decide +kernel
theorem dX2_init_57 : decode cX2_init 57 = .ok (.aload_n 0, 1) := by decide +kernel
theorem dX2_init_58 : decode cX2_init 58 = .ok (.bipush 10, 2) := by decide +kernel
theorem dX2_init_60 : decode cX2_init 60 = .ok (.newarray .int, 2) := by decide +kernel
theorem dX2_init_62 : decode cX2_init 62 = .ok (.putfield 33, 3) := by decide +kernel
theorem dX2_init_65 : decode cX2_init 65 = .ok (.aload_n 0, 1) := by decide +kernel
theorem dX2_init_66 : decode cX2_init 66 = .ok (.bipush 10, 2) := by decide +kernel
theorem dX2_init_68 : decode cX2_init 68 = .ok (.newarray .int, 2) := by decide +kernel
theorem dX2_init_70 : decode cX2_init 70 = .ok (.putfield 36, 3) := by decide +kernel
theorem dX2_init_73 : decode cX2_init 73 = .ok (.aload_n 0, 1) := by decide +kernel
theorem dX2_init_74 : decode cX2_init 74 = .ok (.bipush 10, 2) := by decide +kernel
theorem dX2_init_76 : decode cX2_init 76 = .ok (.newarray .int, 2) := by decide +kernel
theorem dX2_init_78 : decode cX2_init 78 = .ok (.putfield 39, 3) := by decide +kernel
theorem dX2_init_81 : decode cX2_init 81 = .ok (.aload_n 0, 1) := by decide +kernel
theorem dX2_init_82 : decode cX2_init 82 = .ok (.bipush 10, 2) := by decide +kernel
theorem dX2_init_84 : decode cX2_init 84 = .ok (.newarray .int, 2) := by decide +kernel
theorem dX2_init_86 : decode cX2_init 86 = .ok (.putfield 42, 3) := by decide +kernel
theorem dX2_init_89 : decode cX2_init 89 = .ok (.aload_n 0, 1) := by decide +kernel
theorem dX2_init_90 : decode cX2_init 90 = .ok (.bipush 30, 2) := by decide +kernel
theorem dX2_init_92 : decode cX2_init 92 = .ok (.newarray .int, 2) := by decide +kernel
theorem dX2_init_94 : decode cX2_init 94 = .ok (.putfield 45, 3) := by decide +kernel
theorem dX2_init_97 : decode cX2_init 97 = .ok (.return_, 1) := by decide +kernel
theorem dX2_gather_0 : decode cX2_gather 0 = .ok (.aload_n 0, 1) := by decide +kernel
theorem dX2_gather_1 : decode cX2_gather 1 = .ok (.aload_n 1, 1) := by decide +kernel
theorem dX2_gather_2 : decode cX2_gather 2 = .ok (.invokevirtual 48, 3) := by decide +kernel
theorem dX2_gather_5 : decode cX2_gather 5 = .ok (.aload_n 0, 1) := by decide +kernel
theorem dX2_gather_6 : decode cX2_gather 6 = .ok (.iconst 0, 1) := by decide +kernel
theorem dX2_gather_7 : decode cX2_gather 7 = .ok (.putfield 52, 3) := by decide +kernel
theorem dX2_gather_10 : decode cX2_gather 10 = .ok (.iconst 0, 1) := by decide +kernel
theorem dX2_gather_11 : decode cX2_gather 11 = .ok (.istore_n 2, 1) := by decide +kernel
theorem dX2_gather_12 : decode cX2_gather 12 = .ok (.iload_n 2, 1) := by decide +kernel
theorem dX2_gather_13 : decode cX2_gather 13 = .ok (.aload_n 1, 1) := by decide +kernel
theorem dX2_gather_14 : decode cX2_gather 14 = .ok (.getfield 56, 3) := by decide +kernel
theorem dX2_gather_17 : decode cX2_gather 17 = .ok (.if_icmp .ge 32, 3) := by decide +kernel
theorem dX2_gather_20 : decode cX2_gather 20 = .ok (.aload_n 1, 1) := by decide +kernel
theorem dX2_gather_21 : decode cX2_gather 21 = .ok (.getfield 61, 3) := by decide +kernel
theorem dX2_gather_24 : decode cX2_gather 24 = .ok (.iload_n 2, 1) := by decide +kernel
theorem dX2_gather_25 : decode cX2_gather 25 = .ok (.invokestatic 62, 3) := by decide +kernel
theorem dX2_gather_28 : decode cX2_gather 28 = .ok (.iconst (-1), 1) := by decide +kernel
theorem dX2_gather_29 : decode cX2_gather 29 = .ok (.if_icmp .ne 14, 3) := by decide +kernel
theorem dX2_gather_32 : decode cX2_gather 32 = .ok (.aload_n 0, 1) := by decide +kernel
theorem dX2_gather_33 : decode cX2_gather 33 = .ok (.iconst (-1), 1) := by decide +kernel
theorem dX2_gather_34 : decode cX2_gather 34 = .ok (.invokevirtual 66, 3) := by decide +kernel
theorem dX2_gather_37 : decode cX2_gather 37 = .ok (.aload_n 0, 1) := by decide +kernel
theorem dX2_gather_38 : decode cX2_gather 38 = .ok (.aload_n 1, 1) := by decide +kernel
theorem dX2_gather_39 : decode cX2_gather 39 = .ok (.iload_n 2, 1) := by decide +kernel
theorem dX2_gather_40 : decode cX2_gather 40 = .ok (.invokevirtual 70, 3) := by decide +kernel
theorem dX2_gather_43 : decode cX2_gather 43 = .ok (.iinc 2 1, 3) := by decide +kernel
theorem dX2_gather_46 : decode cX2_gather 46 = .ok (.goto (-34), 3) := by decide +kernel
theorem dX2_gather_49 : decode cX2_gather 49 = .ok (.iconst 0, 1) := by decide +kernel
theorem dX2_gather_50 : decode cX2_gather 50 = .ok (.istore_n 2, 1) := by decide +kernel
theorem dX2_gather_51 : decode cX2_gather 51 = .ok (.iload_n 2, 1) := by decide +kernel
theorem dX2_gather_52 : decode cX2_gather 52 = .ok (.aload_n 1, 1) := by decide +kernel
theorem dX2_gather_53 : decode cX2_gather 53 = .ok (.getfield 74, 3) := by decide +kernel
theorem dX2_gather_56 : decode cX2_gather 56 = .ok (.if_icmp .ge 48, 3) := by decide +kernel
theorem dX2_gather_59 : decode cX2_gather 59 = .ok (.aload_n 0, 1) := by decide +kernel
theorem dX2_gather_60 : decode cX2_gather 60 = .ok (.iload_n 2, 1) := by decide +kernel
theorem dX2_gather_61 : decode cX2_gather 61 = .ok (.invokevirtual 66, 3) := by decide +kernel
theorem dX2_gather_64 : decode cX2_gather 64 = .ok (.iconst 0, 1) := by decide +kernel
theorem dX2_gather_65 : decode cX2_gather 65 = .ok (.istore_n 3, 1) := by decide +kernel
theorem dX2_gather_66 : decode cX2_gather 66 = .ok (.iload_n 3, 1) := by decide +kernel
theorem dX2_gather_67 : decode cX2_gather 67 = .ok (.aload_n 1, 1) := by decide +kernel
theorem dX2_gather_68 : decode cX2_gather 68 = .ok (.getfield 56, 3) := by decide +kernel
theorem dX2_gather_71 : decode cX2_gather 71 = .ok (.if_icmp .ge 27, 3) := by decide +kernel
theorem dX2_gather_74 : decode cX2_gather 74 = .ok (.aload_n 1, 1) := by decide +kernel
theorem dX2_gather_75 : decode cX2_gather 75 = .ok (.getfield 61, 3) := by decide +kernel
theorem dX2_gather_78 : decode cX2_gather 78 = .ok (.iload_n 3, 1) := by decide +kernel
theorem dX2_gather_79 : decode cX2_gather 79 = .ok (.invokestatic 62, 3) := by decide +kernel
theorem dX2_gather_82 : decode cX2_gather 82 = .ok (.iload_n 2, 1) := by decide +kernel
theorem dX2_gather_83 : decode cX2_gather 83 = .ok (.if_icmp .ne 9, 3) := by decide +kernel
theorem dX2_gather_86 : decode cX2_gather 86 = .ok (.aload_n 0, 1) := by decide +kernel
theorem dX2_gather_87 : decode cX2_gather 87 = .ok (.aload_n 1, 1) := by decide +kernel
theorem dX2_gather_88 : decode cX2_gather 88 = .ok (.iload_n 3, 1) := by decide +kernel
theorem dX2_gather_89 : decode cX2_gather 89 = .ok (.invokevirtual 70, 3) := by decide +kernel
theorem dX2_gather_92 : decode cX2_gather 92 = .ok (.iinc 3 1, 3) := by decide +kernel
theorem dX2_gather_95 : decode cX2_gather 95 = .ok (.goto (-29), 3) := by decide +kernel
theorem dX2_gather_98 : decode cX2_gather 98 = .ok (.iinc 2 1, 3) := by decide +kernel
theorem dX2_gather_101 : decode cX2_gather 101 = .ok (.goto (-50), 3) := by decide +kernel
theorem dX2_gather_104 : decode cX2_gather 104 = .ok (.aload_n 0, 1) := by decide +kernel
theorem dX2_gather_105 : decode cX2_gather 105 = .ok (.iconst 0, 1) := by decide +kernel
theorem dX2_gather_106 : decode cX2_gather 106 = .ok (.putfield 77, 3) := by decide +kernel
theorem dX2_gather_109 : decode cX2_gather 109 = .ok (.iconst 0, 1) := by decide +kernel
theorem dX2_gather_110 : decode cX2_gather 110 = .ok (.istore_n 2, 1) := by decide +kernel
theorem dX2_gather_111 : decode cX2_gather 111 = .ok (.iload_n 2, 1) := by decide +kernel
theorem dX2_gather_112 : decode cX2_gather 112 = .ok (.aload_n 0, 1) := by decide +kernel
theorem dX2_gather_113 : decode cX2_gather 113 = .ok (.getfield 52, 3) := by decide +kernel
theorem dX2_gather_116 : decode cX2_gather 116 = .ok (.if_icmp .ge 35, 3) := by decide +kernel
theorem dX2_gather_119 : decode cX2_gather 119 = .ok (.aload_n 0, 1) := by decide +kernel
theorem dX2_gather_120 : decode cX2_gather 120 = .ok (.iload_n 2, 1) := by decide +kernel
theorem dX2_gather_121 : decode cX2_gather 121 = .ok (.aload_n 1, 1) := by decide +kernel
theorem dX2_gather_122 : decode cX2_gather 122 = .ok (.getfield 80, 3) := by decide +kernel
theorem dX2_gather_125 : decode cX2_gather 125 = .ok (.invokevirtual 83, 3) := by decide +kernel
theorem dX2_gather_128 : decode cX2_gather 128 = .ok (.aload_n 0, 1) := by decide +kernel
theorem dX2_gather_129 : decode cX2_gather 129 = .ok (.dup, 1) := by decide +kernel
theorem dX2_gather_130 : decode cX2_gather 130 = .ok (.getfield 77, 3) := by decide +kernel
theorem dX2_gather_133 : decode cX2_gather 133 = .ok (.aload_n 0, 1) := by decide +kernel
theorem dX2_gather_134 : decode cX2_gather 134 = .ok (.getfield 33, 3) := by decide +kernel
theorem dX2_gather_137 : decode cX2_gather 137 = .ok (.iload_n 2, 1) := by decide +kernel
theorem dX2_gather_138 : decode cX2_gather 138 = .ok (.invokestatic 62, 3) := by decide +kernel
theorem dX2_gather_141 : decode cX2_gather 141 = .ok (.iadd, 1) := by decide +kernel
theorem dX2_gather_142 : decode cX2_gather 142 = .ok (.putfield 77, 3) := by decide +kernel
theorem dX2_gather_145 : decode cX2_gather 145 = .ok (.iinc 2 1, 3) := by decide +kernel
theorem dX2_gather_148 : decode cX2_gather 148 = .ok (.goto (-37), 3) := by decide +kernel
theorem dX2_gather_151 : decode cX2_gather 151 = .ok (.return_, 1) := by decide +kernel
theorem dX2_gatherUnits_0 : decode cX2_gatherUnits 0 = .ok (.aload_n 0, 1) := by decide +kernel
theorem dX2_gatherUnits_1 : decode cX2_gatherUnits 1 = .ok (.aload_n 1, 1) := by decide +kernel
theorem dX2_gatherUnits_2 : decode cX2_gatherUnits 2 = .ok (.getfield 87, 3) := by decide +kernel
theorem dX2_gatherUnits_5 : decode cX2_gatherUnits 5 = .ok (.putfield 90, 3) := by decide +kernel
theorem dX2_gatherUnits_8 : decode cX2_gatherUnits 8 = .ok (.aload_n 0, 1) := by decide +kernel
theorem dX2_gatherUnits_9 : decode cX2_gatherUnits 9 = .ok (.iconst 0, 1) := by decide +kernel
theorem dX2_gatherUnits_10 : decode cX2_gatherUnits 10 = .ok (.putfield 91, 3) := by decide +kernel
theorem dX2_gatherUnits_13 : decode cX2_gatherUnits 13 = .ok (.iconst 0, 1) := by decide +kernel
theorem dX2_gatherUnits_14 : decode cX2_gatherUnits 14 = .ok (.istore_n 2, 1) := by decide +kernel
theorem dX2_gatherUnits_15 : decode cX2_gatherUnits 15 = .ok (.iload_n 2, 1) := by decide +kernel
theorem dX2_gatherUnits_16 : decode cX2_gatherUnits 16 = .ok (.aload_n 0, 1) := by decide +kernel
theorem dX2_gatherUnits_17 : decode cX2_gatherUnits 17 = .ok (.getfield 90, 3) := by decide +kernel
theorem dX2_gatherUnits_20 : decode cX2_gatherUnits 20 = .ok (.if_icmp .ge 86, 3) := by decide +kernel
theorem dX2_gatherUnits_23 : decode cX2_gatherUnits 23 = .ok (.aload_n 1, 1) := by decide +kernel
theorem dX2_gatherUnits_24 : decode cX2_gatherUnits 24 = .ok (.getfield 95, 3) := by decide +kernel
theorem dX2_gatherUnits_27 : decode cX2_gatherUnits 27 = .ok (.iload_n 2, 1) := by decide +kernel
theorem dX2_gatherUnits_28 : decode cX2_gatherUnits 28 = .ok (.invokestatic 62, 3) := by decide +kernel
theorem dX2_gatherUnits_31 : decode cX2_gatherUnits 31 = .ok (.istore_n 3, 1) := by decide +kernel
theorem dX2_gatherUnits_32 : decode cX2_gatherUnits 32 = .ok (.aload_n 0, 1) := by decide +kernel
theorem dX2_gatherUnits_33 : decode cX2_gatherUnits 33 = .ok (.getfield 9, 3) := by decide +kernel
theorem dX2_gatherUnits_36 : decode cX2_gatherUnits 36 = .ok (.iload_n 2, 1) := by decide +kernel
theorem dX2_gatherUnits_37 : decode cX2_gatherUnits 37 = .ok (.iload_n 3, 1) := by decide +kernel
theorem dX2_gatherUnits_38 : decode cX2_gatherUnits 38 = .ok (.invokestatic 96, 3) := by decide +kernel
theorem dX2_gatherUnits_41 : decode cX2_gatherUnits 41 = .ok (.aload_n 0, 1) := by decide +kernel
theorem dX2_gatherUnits_42 : decode cX2_gatherUnits 42 = .ok (.getfield 15, 3) := by decide +kernel
theorem dX2_gatherUnits_45 : decode cX2_gatherUnits 45 = .ok (.iload_n 2, 1) := by decide +kernel
theorem dX2_gatherUnits_46 : decode cX2_gatherUnits 46 = .ok (.iload_n 3, 1) := by decide +kernel
theorem dX2_gatherUnits_47 : decode cX2_gatherUnits 47 = .ok (.aload_n 1, 1) := by decide +kernel
theorem dX2_gatherUnits_48 : decode cX2_gatherUnits 48 = .ok (.getfield 100, 3) := by decide +kernel
theorem dX2_gatherUnits_51 : decode cX2_gatherUnits 51 = .ok (.imul, 1) := by decide +kernel
theorem dX2_gatherUnits_52 : decode cX2_gatherUnits 52 = .ok (.bipush 100, 2) := by decide +kernel
theorem dX2_gatherUnits_54 : decode cX2_gatherUnits 54 = .ok (.idiv, 1) := by decide +kernel
theorem dX2_gatherUnits_55 : decode cX2_gatherUnits 55 = .ok (.invokestatic 96, 3) := by decide +kernel
theorem dX2_gatherUnits_58 : decode cX2_gatherUnits 58 = .ok (.aload_n 0, 1) := by decide +kernel
theorem dX2_gatherUnits_59 : decode cX2_gatherUnits 59 = .ok (.getfield 18, 3) := by decide +kernel
theorem dX2_gatherUnits_62 : decode cX2_gatherUnits 62 = .ok (.iload_n 2, 1) := by decide +kernel
theorem dX2_gatherUnits_63 : decode cX2_gatherUnits 63 = .ok (.iload_n 3, 1) := by decide +kernel
theorem dX2_gatherUnits_64 : decode cX2_gatherUnits 64 = .ok (.aload_n 1, 1) := by decide +kernel
theorem dX2_gatherUnits_65 : decode cX2_gatherUnits 65 = .ok (.getfield 103, 3) := by decide +kernel
theorem dX2_gatherUnits_68 : decode cX2_gatherUnits 68 = .ok (.imul, 1) := by decide +kernel
theorem dX2_gatherUnits_69 : decode cX2_gatherUnits 69 = .ok (.bipush 100, 2) := by decide +kernel
theorem dX2_gatherUnits_71 : decode cX2_gatherUnits 71 = .ok (.idiv, 1) := by decide +kernel
theorem dX2_gatherUnits_72 : decode cX2_gatherUnits 72 = .ok (.invokestatic 96, 3) := by decide +kernel
theorem dX2_gatherUnits_75 : decode cX2_gatherUnits 75 = .ok (.aload_n 0, 1) := by decide +kernel
theorem dX2_gatherUnits_76 : decode cX2_gatherUnits 76 = .ok (.dup, 1) := by decide +kernel
theorem dX2_gatherUnits_77 : decode cX2_gatherUnits 77 = .ok (.getfield 91, 3) := by decide +kernel
theorem dX2_gatherUnits_80 : decode cX2_gatherUnits 80 = .ok (.aload_n 0, 1) := by decide +kernel
theorem dX2_gatherUnits_81 : decode cX2_gatherUnits 81 = .ok (.getfield 15, 3) := by decide +kernel
theorem dX2_gatherUnits_84 : decode cX2_gatherUnits 84 = .ok (.iload_n 2, 1) := by decide +kernel
theorem dX2_gatherUnits_85 : decode cX2_gatherUnits 85 = .ok (.invokestatic 62, 3) := by decide +kernel
theorem dX2_gatherUnits_88 : decode cX2_gatherUnits 88 = .ok (.ifCond .le 7, 3) := by decide +kernel
theorem dX2_gatherUnits_91 : decode cX2_gatherUnits 91 = .ok (.iconst 1, 1) := by decide +kernel
theorem dX2_gatherUnits_92 : decode cX2_gatherUnits 92 = .ok (.goto 4, 3) := by decide +kernel
theorem dX2_gatherUnits_95 : decode cX2_gatherUnits 95 = .ok (.iconst 0, 1) := by decide +kernel
theorem dX2_gatherUnits_96 : decode cX2_gatherUnits 96 = .ok (.ior, 1) := by decide +kernel
theorem dX2_gatherUnits_97 : decode cX2_gatherUnits 97 = .ok (.putfield 91, 3) := by decide +kernel
theorem dX2_gatherUnits_100 : decode cX2_gatherUnits 100 = .ok (.iinc 2 1, 3) := by decide +kernel
theorem dX2_gatherUnits_103 : decode cX2_gatherUnits 103 = .ok (.goto (-88), 3) := by decide +kernel
theorem dX2_gatherUnits_106 : decode cX2_gatherUnits 106 = .ok (.return_, 1) := by decide +kernel
theorem dX2_open_0 : decode cX2_open 0 = .ok (.aload_n 0, 1) := by decide +kernel
theorem dX2_open_1 : decode cX2_open 1 = .ok (.getfield 24, 3) := by decide +kernel
theorem dX2_open_4 : decode cX2_open 4 = .ok (.aload_n 0, 1) := by decide +kernel
theorem dX2_open_5 : decode cX2_open 5 = .ok (.getfield 52, 3) := by decide +kernel
theorem dX2_open_8 : decode cX2_open 8 = .ok (.iconst 0, 1) := by decide +kernel
theorem dX2_open_9 : decode cX2_open 9 = .ok (.invokestatic 96, 3) := by decide +kernel
theorem dX2_open_12 : decode cX2_open 12 = .ok (.aload_n 0, 1) := by decide +kernel
theorem dX2_open_13 : decode cX2_open 13 = .ok (.getfield 27, 3) := by decide +kernel
theorem dX2_open_16 : decode cX2_open 16 = .ok (.aload_n 0, 1) := by decide +kernel
theorem dX2_open_17 : decode cX2_open 17 = .ok (.getfield 52, 3) := by decide +kernel
theorem dX2_open_20 : decode cX2_open 20 = .ok (.iconst 0, 1) := by decide +kernel
theorem dX2_open_21 : decode cX2_open 21 = .ok (.invokestatic 96, 3) := by decide +kernel
theorem dX2_open_24 : decode cX2_open 24 = .ok (.aload_n 0, 1) := by decide +kernel
theorem dX2_open_25 : decode cX2_open 25 = .ok (.getfield 30, 3) := by decide +kernel
theorem dX2_open_28 : decode cX2_open 28 = .ok (.aload_n 0, 1) := by decide +kernel
theorem dX2_open_29 : decode cX2_open 29 = .ok (.getfield 52, 3) := by decide +kernel
theorem dX2_open_32 : decode cX2_open 32 = .ok (.iconst 0, 1) := by decide +kernel
theorem dX2_open_33 : decode cX2_open 33 = .ok (.invokestatic 96, 3) := by decide +kernel
theorem dX2_open_36 : decode cX2_open 36 = .ok (.aload_n 0, 1) := by decide +kernel
theorem dX2_open_37 : decode cX2_open 37 = .ok (.getfield 36, 3) := by decide +kernel
theorem dX2_open_40 : decode cX2_open 40 = .ok (.aload_n 0, 1) := by decide +kernel
theorem dX2_open_41 : decode cX2_open 41 = .ok (.getfield 52, 3) := by decide +kernel
theorem dX2_open_44 : decode cX2_open 44 = .ok (.iconst 0, 1) := by decide +kernel
theorem dX2_open_45 : decode cX2_open 45 = .ok (.invokestatic 96, 3) := by decide +kernel
theorem dX2_open_48 : decode cX2_open 48 = .ok (.aload_n 0, 1) := by decide +kernel
theorem dX2_open_49 : decode cX2_open 49 = .ok (.getfield 39, 3) := by decide +kernel
theorem dX2_open_52 : decode cX2_open 52 = .ok (.aload_n 0, 1) := by decide +kernel
theorem dX2_open_53 : decode cX2_open 53 = .ok (.getfield 52, 3) := by decide +kernel
theorem dX2_open_56 : decode cX2_open 56 = .ok (.iload_n 1, 1) := by decide +kernel
theorem dX2_open_57 : decode cX2_open 57 = .ok (.invokestatic 96, 3) := by decide +kernel
theorem dX2_open_60 : decode cX2_open 60 = .ok (.aload_n 0, 1) := by decide +kernel
theorem dX2_open_61 : decode cX2_open 61 = .ok (.dup, 1) := by decide +kernel
theorem dX2_open_62 : decode cX2_open 62 = .ok (.getfield 52, 3) := by decide +kernel
theorem dX2_open_65 : decode cX2_open 65 = .ok (.iconst 1, 1) := by decide +kernel
theorem dX2_open_66 : decode cX2_open 66 = .ok (.iadd, 1) := by decide +kernel
theorem dX2_open_67 : decode cX2_open 67 = .ok (.putfield 52, 3) := by decide +kernel
theorem dX2_open_70 : decode cX2_open 70 = .ok (.return_, 1) := by decide +kernel
theorem dX2_join_0 : decode cX2_join 0 = .ok (.aload_n 0, 1) := by decide +kernel
theorem dX2_join_1 : decode cX2_join 1 = .ok (.getfield 52, 3) := by decide +kernel
theorem dX2_join_4 : decode cX2_join 4 = .ok (.iconst 1, 1) := by decide +kernel
theorem dX2_join_5 : decode cX2_join 5 = .ok (.isub, 1) := by decide +kernel
theorem dX2_join_6 : decode cX2_join 6 = .ok (.istore_n 3, 1) := by decide +kernel
theorem dX2_join_7 : decode cX2_join 7 = .ok (.aload_n 0, 1) := by decide +kernel
theorem dX2_join_8 : decode cX2_join 8 = .ok (.getfield 21, 3) := by decide +kernel
theorem dX2_join_11 : decode cX2_join 11 = .ok (.iload_n 2, 1) := by decide +kernel
theorem dX2_join_12 : decode cX2_join 12 = .ok (.iload_n 3, 1) := by decide +kernel
theorem dX2_join_13 : decode cX2_join 13 = .ok (.invokestatic 96, 3) := by decide +kernel
theorem dX2_join_16 : decode cX2_join 16 = .ok (.aload_n 0, 1) := by decide +kernel
theorem dX2_join_17 : decode cX2_join 17 = .ok (.getfield 24, 3) := by decide +kernel
theorem dX2_join_20 : decode cX2_join 20 = .ok (.iload_n 3, 1) := by decide +kernel
theorem dX2_join_21 : decode cX2_join 21 = .ok (.iconst 1, 1) := by decide +kernel
theorem dX2_join_22 : decode cX2_join 22 = .ok (.invokestatic 106, 3) := by decide +kernel
theorem dX2_join_25 : decode cX2_join 25 = .ok (.aload_n 0, 1) := by decide +kernel
theorem dX2_join_26 : decode cX2_join 26 = .ok (.getfield 27, 3) := by decide +kernel
theorem dX2_join_29 : decode cX2_join 29 = .ok (.iload_n 3, 1) := by decide +kernel
theorem dX2_join_30 : decode cX2_join 30 = .ok (.aload_n 1, 1) := by decide +kernel
theorem dX2_join_31 : decode cX2_join 31 = .ok (.getfield 109, 3) := by decide +kernel
theorem dX2_join_34 : decode cX2_join 34 = .ok (.iload_n 2, 1) := by decide +kernel
theorem dX2_join_35 : decode cX2_join 35 = .ok (.invokestatic 62, 3) := by decide +kernel
theorem dX2_join_38 : decode cX2_join 38 = .ok (.invokestatic 106, 3) := by decide +kernel
theorem dX2_join_41 : decode cX2_join 41 = .ok (.aload_n 0, 1) := by decide +kernel
theorem dX2_join_42 : decode cX2_join 42 = .ok (.getfield 30, 3) := by decide +kernel
theorem dX2_join_45 : decode cX2_join 45 = .ok (.iload_n 3, 1) := by decide +kernel
theorem dX2_join_46 : decode cX2_join 46 = .ok (.aload_n 1, 1) := by decide +kernel
theorem dX2_join_47 : decode cX2_join 47 = .ok (.getfield 112, 3) := by decide +kernel
theorem dX2_join_50 : decode cX2_join 50 = .ok (.iload_n 2, 1) := by decide +kernel
theorem dX2_join_51 : decode cX2_join 51 = .ok (.invokestatic 62, 3) := by decide +kernel
theorem dX2_join_54 : decode cX2_join 54 = .ok (.invokestatic 106, 3) := by decide +kernel
theorem dX2_join_57 : decode cX2_join 57 = .ok (.aload_n 0, 1) := by decide +kernel
theorem dX2_join_58 : decode cX2_join 58 = .ok (.getfield 36, 3) := by decide +kernel
theorem dX2_join_61 : decode cX2_join 61 = .ok (.iload_n 3, 1) := by decide +kernel
theorem dX2_join_62 : decode cX2_join 62 = .ok (.iconst 1, 1) := by decide +kernel
theorem dX2_join_63 : decode cX2_join 63 = .ok (.iload_n 2, 1) := by decide +kernel
theorem dX2_join_64 : decode cX2_join 64 = .ok (.ishl, 1) := by decide +kernel
theorem dX2_join_65 : decode cX2_join 65 = .ok (.invokestatic 106, 3) := by decide +kernel
theorem dX2_join_68 : decode cX2_join 68 = .ok (.aload_n 0, 1) := by decide +kernel
theorem dX2_join_69 : decode cX2_join 69 = .ok (.getfield 42, 3) := by decide +kernel
theorem dX2_join_72 : decode cX2_join 72 = .ok (.iload_n 3, 1) := by decide +kernel
theorem dX2_join_73 : decode cX2_join 73 = .ok (.aload_n 1, 1) := by decide +kernel
theorem dX2_join_74 : decode cX2_join 74 = .ok (.getfield 113, 3) := by decide +kernel
theorem dX2_join_77 : decode cX2_join 77 = .ok (.iload_n 2, 1) := by decide +kernel
theorem dX2_join_78 : decode cX2_join 78 = .ok (.invokestatic 62, 3) := by decide +kernel
theorem dX2_join_81 : decode cX2_join 81 = .ok (.invokestatic 96, 3) := by decide +kernel
theorem dX2_join_84 : decode cX2_join 84 = .ok (.iconst 0, 1) := by decide +kernel
theorem dX2_join_85 : decode cX2_join 85 = .ok (.istore 4, 2) := by decide +kernel
theorem dX2_join_87 : decode cX2_join 87 = .ok (.iload 4, 2) := by decide +kernel
theorem dX2_join_89 : decode cX2_join 89 = .ok (.iconst 3, 1) := by decide +kernel
theorem dX2_join_90 : decode cX2_join 90 = .ok (.if_icmp .ge 35, 3) := by decide +kernel
theorem dX2_join_93 : decode cX2_join 93 = .ok (.aload_n 0, 1) := by decide +kernel
theorem dX2_join_94 : decode cX2_join 94 = .ok (.getfield 45, 3) := by decide +kernel
theorem dX2_join_97 : decode cX2_join 97 = .ok (.iload_n 3, 1) := by decide +kernel
theorem dX2_join_98 : decode cX2_join 98 = .ok (.iconst 3, 1) := by decide +kernel
theorem dX2_join_99 : decode cX2_join 99 = .ok (.imul, 1) := by decide +kernel
theorem dX2_join_100 : decode cX2_join 100 = .ok (.iload 4, 2) := by decide +kernel
theorem dX2_join_102 : decode cX2_join 102 = .ok (.iadd, 1) := by decide +kernel
theorem dX2_join_103 : decode cX2_join 103 = .ok (.aload_n 1, 1) := by decide +kernel
theorem dX2_join_104 : decode cX2_join 104 = .ok (.getfield 114, 3) := by decide +kernel
theorem dX2_join_107 : decode cX2_join 107 = .ok (.iload_n 2, 1) := by decide +kernel
theorem dX2_join_108 : decode cX2_join 108 = .ok (.iconst 3, 1) := by decide +kernel
theorem dX2_join_109 : decode cX2_join 109 = .ok (.imul, 1) := by decide +kernel
theorem dX2_join_110 : decode cX2_join 110 = .ok (.iload 4, 2) := by decide +kernel
theorem dX2_join_112 : decode cX2_join 112 = .ok (.iadd, 1) := by decide +kernel
theorem dX2_join_113 : decode cX2_join 113 = .ok (.invokestatic 62, 3) := by decide +kernel
theorem dX2_join_116 : decode cX2_join 116 = .ok (.invokestatic 96, 3) := by decide +kernel
theorem dX2_join_119 : decode cX2_join 119 = .ok (.iinc 4 1, 3) := by decide +kernel
theorem dX2_join_122 : decode cX2_join 122 = .ok (.goto (-35), 3) := by decide +kernel
theorem dX2_join_125 : decode cX2_join 125 = .ok (.return_, 1) := by decide +kernel
theorem dX2_close_0 : decode cX2_close 0 = .ok (.aload_n 0, 1) := by decide +kernel
theorem dX2_close_1 : decode cX2_close 1 = .ok (.getfield 24, 3) := by decide +kernel
theorem dX2_close_4 : decode cX2_close 4 = .ok (.iload_n 1, 1) := by decide +kernel
theorem dX2_close_5 : decode cX2_close 5 = .ok (.invokestatic 62, 3) := by decide +kernel
theorem dX2_close_8 : decode cX2_close 8 = .ok (.istore_n 3, 1) := by decide +kernel
theorem dX2_close_9 : decode cX2_close 9 = .ok (.iload_n 3, 1) := by decide +kernel
theorem dX2_close_10 : decode cX2_close 10 = .ok (.ifCond .ne 7, 3) := by decide +kernel
theorem dX2_close_13 : decode cX2_close 13 = .ok (.iconst 0, 1) := by decide +kernel
theorem dX2_close_14 : decode cX2_close 14 = .ok (.goto 13, 3) := by decide +kernel
theorem dX2_close_17 : decode cX2_close 17 = .ok (.aload_n 0, 1) := by decide +kernel
theorem dX2_close_18 : decode cX2_close 18 = .ok (.getfield 30, 3) := by decide +kernel
theorem dX2_close_21 : decode cX2_close 21 = .ok (.iload_n 1, 1) := by decide +kernel
theorem dX2_close_22 : decode cX2_close 22 = .ok (.invokestatic 62, 3) := by decide +kernel
theorem dX2_close_25 : decode cX2_close 25 = .ok (.iload_n 3, 1) := by decide +kernel
theorem dX2_close_26 : decode cX2_close 26 = .ok (.idiv, 1) := by decide +kernel
theorem dX2_close_27 : decode cX2_close 27 = .ok (.istore 4, 2) := by decide +kernel
theorem dX2_close_29 : decode cX2_close 29 = .ok (.aload_n 0, 1) := by decide +kernel
theorem dX2_close_30 : decode cX2_close 30 = .ok (.getfield 30, 3) := by decide +kernel
theorem dX2_close_33 : decode cX2_close 33 = .ok (.iload_n 1, 1) := by decide +kernel
theorem dX2_close_34 : decode cX2_close 34 = .ok (.iload 4, 2) := by decide +kernel
theorem dX2_close_36 : decode cX2_close 36 = .ok (.invokestatic 96, 3) := by decide +kernel
theorem dX2_close_39 : decode cX2_close 39 = .ok (.aload_n 0, 1) := by decide +kernel
theorem dX2_close_40 : decode cX2_close 40 = .ok (.getfield 33, 3) := by decide +kernel
theorem dX2_close_43 : decode cX2_close 43 = .ok (.iload_n 1, 1) := by decide +kernel
theorem dX2_close_44 : decode cX2_close 44 = .ok (.iload_n 2, 1) := by decide +kernel
theorem dX2_close_45 : decode cX2_close 45 = .ok (.iconst 2, 1) := by decide +kernel
theorem dX2_close_46 : decode cX2_close 46 = .ok (.if_icmp .ne 13, 3) := by decide +kernel
theorem dX2_close_49 : decode cX2_close 49 = .ok (.iconst 1, 1) := by decide +kernel
theorem dX2_close_50 : decode cX2_close 50 = .ok (.iload 4, 2) := by decide +kernel
theorem dX2_close_52 : decode cX2_close 52 = .ok (.iload 4, 2) := by decide +kernel
theorem dX2_close_54 : decode cX2_close 54 = .ok (.imul, 1) := by decide +kernel
theorem dX2_close_55 : decode cX2_close 55 = .ok (.iadd, 1) := by decide +kernel
theorem dX2_close_56 : decode cX2_close 56 = .ok (.goto 16, 3) := by decide +kernel
theorem dX2_close_59 : decode cX2_close 59 = .ok (.iload_n 2, 1) := by decide +kernel
theorem dX2_close_60 : decode cX2_close 60 = .ok (.iconst 1, 1) := by decide +kernel
theorem dX2_close_61 : decode cX2_close 61 = .ok (.if_icmp .ne 10, 3) := by decide +kernel
theorem dX2_close_64 : decode cX2_close 64 = .ok (.iconst 1, 1) := by decide +kernel
theorem dX2_close_65 : decode cX2_close 65 = .ok (.iload 4, 2) := by decide +kernel
theorem dX2_close_67 : decode cX2_close 67 = .ok (.iadd, 1) := by decide +kernel
theorem dX2_close_68 : decode cX2_close 68 = .ok (.goto 4, 3) := by decide +kernel
theorem dX2_close_71 : decode cX2_close 71 = .ok (.iconst 1, 1) := by decide +kernel
theorem dX2_close_72 : decode cX2_close 72 = .ok (.invokestatic 96, 3) := by decide +kernel
theorem dX2_close_75 : decode cX2_close 75 = .ok (.return_, 1) := by decide +kernel
theorem dX2_wish_0 : decode cX2_wish 0 = .ok (.aload_n 0, 1) := by decide +kernel
theorem dX2_wish_1 : decode cX2_wish 1 = .ok (.getfield 45, 3) := by decide +kernel
theorem dX2_wish_4 : decode cX2_wish 4 = .ok (.iload_n 1, 1) := by decide +kernel
theorem dX2_wish_5 : decode cX2_wish 5 = .ok (.iconst 3, 1) := by decide +kernel
theorem dX2_wish_6 : decode cX2_wish 6 = .ok (.imul, 1) := by decide +kernel
theorem dX2_wish_7 : decode cX2_wish 7 = .ok (.iload_n 2, 1) := by decide +kernel
theorem dX2_wish_8 : decode cX2_wish 8 = .ok (.iadd, 1) := by decide +kernel
theorem dX2_wish_9 : decode cX2_wish 9 = .ok (.invokestatic 62, 3) := by decide +kernel
theorem dX2_wish_12 : decode cX2_wish 12 = .ok (.ireturn, 1) := by decide +kernel
theorem dX2_rankOf_0 : decode cX2_rankOf 0 = .ok (.iconst 0, 1) := by decide +kernel
theorem dX2_rankOf_1 : decode cX2_rankOf 1 = .ok (.istore_n 3, 1) := by decide +kernel
theorem dX2_rankOf_2 : decode cX2_rankOf 2 = .ok (.iload_n 3, 1) := by decide +kernel
theorem dX2_rankOf_3 : decode cX2_rankOf 3 = .ok (.aload_n 0, 1) := by decide +kernel
theorem dX2_rankOf_4 : decode cX2_rankOf 4 = .ok (.getfield 42, 3) := by decide +kernel
theorem dX2_rankOf_7 : decode cX2_rankOf 7 = .ok (.iload_n 1, 1) := by decide +kernel
theorem dX2_rankOf_8 : decode cX2_rankOf 8 = .ok (.invokestatic 62, 3) := by decide +kernel
theorem dX2_rankOf_11 : decode cX2_rankOf 11 = .ok (.if_icmp .ge 21, 3) := by decide +kernel
theorem dX2_rankOf_14 : decode cX2_rankOf 14 = .ok (.aload_n 0, 1) := by decide +kernel
theorem dX2_rankOf_15 : decode cX2_rankOf 15 = .ok (.iload_n 1, 1) := by decide +kernel
theorem dX2_rankOf_16 : decode cX2_rankOf 16 = .ok (.iload_n 3, 1) := by decide +kernel
theorem dX2_rankOf_17 : decode cX2_rankOf 17 = .ok (.invokevirtual 115, 3) := by decide +kernel
theorem dX2_rankOf_20 : decode cX2_rankOf 20 = .ok (.iload_n 2, 1) := by decide +kernel
theorem dX2_rankOf_21 : decode cX2_rankOf 21 = .ok (.if_icmp .ne 5, 3) := by decide +kernel
theorem dX2_rankOf_24 : decode cX2_rankOf 24 = .ok (.iload_n 3, 1) := by decide +kernel
theorem dX2_rankOf_25 : decode cX2_rankOf 25 = .ok (.ireturn, 1) := by decide +kernel
theorem dX2_rankOf_26 : decode cX2_rankOf 26 = .ok (.iinc 3 1, 3) := by decide +kernel
theorem dX2_rankOf_29 : decode cX2_rankOf 29 = .ok (.goto (-27), 3) := by decide +kernel
theorem dX2_rankOf_32 : decode cX2_rankOf 32 = .ok (.iconst (-1), 1) := by decide +kernel
theorem dX2_rankOf_33 : decode cX2_rankOf 33 = .ok (.ireturn, 1) := by decide +kernel
theorem dX2_fits_0 : decode cX2_fits 0 = .ok (.aload_n 0, 1) := by decide +kernel
theorem dX2_fits_1 : decode cX2_fits 1 = .ok (.getfield 24, 3) := by decide +kernel
theorem dX2_fits_4 : decode cX2_fits 4 = .ok (.iload_n 1, 1) := by decide +kernel
theorem dX2_fits_5 : decode cX2_fits 5 = .ok (.invokestatic 62, 3) := by decide +kernel
theorem dX2_fits_8 : decode cX2_fits 8 = .ok (.iload_n 2, 1) := by decide +kernel
theorem dX2_fits_9 : decode cX2_fits 9 = .ok (.if_icmp .gt 19, 3) := by decide +kernel
theorem dX2_fits_12 : decode cX2_fits 12 = .ok (.aload_n 0, 1) := by decide +kernel
theorem dX2_fits_13 : decode cX2_fits 13 = .ok (.getfield 27, 3) := by decide +kernel
theorem dX2_fits_16 : decode cX2_fits 16 = .ok (.iload_n 1, 1) := by decide +kernel
theorem dX2_fits_17 : decode cX2_fits 17 = .ok (.invokestatic 62, 3) := by decide +kernel
theorem dX2_fits_20 : decode cX2_fits 20 = .ok (.iload_n 3, 1) := by decide +kernel
theorem dX2_fits_21 : decode cX2_fits 21 = .ok (.if_icmp .gt 7, 3) := by decide +kernel
theorem dX2_fits_24 : decode cX2_fits 24 = .ok (.iconst 1, 1) := by decide +kernel
theorem dX2_fits_25 : decode cX2_fits 25 = .ok (.goto 4, 3) := by decide +kernel
theorem dX2_fits_28 : decode cX2_fits 28 = .ok (.iconst 0, 1) := by decide +kernel
theorem dX2_fits_29 : decode cX2_fits 29 = .ok (.ireturn, 1) := by decide +kernel
theorem dX2_firstApplicants_0 : decode cX2_firstApplicants 0 = .ok (.iconst 0, 1) := by decide +kernel
theorem dX2_firstApplicants_1 : decode cX2_firstApplicants 1 = .ok (.istore_n 2, 1) := by decide +kernel
theorem dX2_firstApplicants_2 : decode cX2_firstApplicants 2 = .ok (.iconst 0, 1) := by decide +kernel
theorem dX2_firstApplicants_3 : decode cX2_firstApplicants 3 = .ok (.istore_n 3, 1) := by decide +kernel
theorem dX2_firstApplicants_4 : decode cX2_firstApplicants 4 = .ok (.iload_n 3, 1) := by decide +kernel
theorem dX2_firstApplicants_5 : decode cX2_firstApplicants 5 = .ok (.aload_n 0, 1) := by decide +kernel
theorem dX2_firstApplicants_6 : decode cX2_firstApplicants 6 = .ok (.getfield 52, 3) := by decide +kernel
theorem dX2_firstApplicants_9 : decode cX2_firstApplicants 9 = .ok (.if_icmp .ge 26, 3) := by decide +kernel
theorem dX2_firstApplicants_12 : decode cX2_firstApplicants 12 = .ok (.iload_n 2, 1) := by decide +kernel
theorem dX2_firstApplicants_13 : decode cX2_firstApplicants 13 = .ok (.aload_n 0, 1) := by decide +kernel
theorem dX2_firstApplicants_14 : decode cX2_firstApplicants 14 = .ok (.iload_n 3, 1) := by decide +kernel
theorem dX2_firstApplicants_15 : decode cX2_firstApplicants 15 = .ok (.iload_n 1, 1) := by decide +kernel
theorem dX2_firstApplicants_16 : decode cX2_firstApplicants 16 = .ok (.invokevirtual 119, 3) := by decide +kernel
theorem dX2_firstApplicants_19 : decode cX2_firstApplicants 19 = .ok (.ifCond .ne 7, 3) := by decide +kernel
theorem dX2_firstApplicants_22 : decode cX2_firstApplicants 22 = .ok (.iconst 1, 1) := by decide +kernel
theorem dX2_firstApplicants_23 : decode cX2_firstApplicants 23 = .ok (.goto 4, 3) := by decide +kernel
theorem dX2_firstApplicants_26 : decode cX2_firstApplicants 26 = .ok (.iconst 0, 1) := by decide +kernel
theorem dX2_firstApplicants_27 : decode cX2_firstApplicants 27 = .ok (.iadd, 1) := by decide +kernel
theorem dX2_firstApplicants_28 : decode cX2_firstApplicants 28 = .ok (.istore_n 2, 1) := by decide +kernel
theorem dX2_firstApplicants_29 : decode cX2_firstApplicants 29 = .ok (.iinc 3 1, 3) := by decide +kernel
theorem dX2_firstApplicants_32 : decode cX2_firstApplicants 32 = .ok (.goto (-28), 3) := by decide +kernel
theorem dX2_firstApplicants_35 : decode cX2_firstApplicants 35 = .ok (.iload_n 2, 1) := by decide +kernel
theorem dX2_firstApplicants_36 : decode cX2_firstApplicants 36 = .ok (.ireturn, 1) := by decide +kernel
theorem dX2_firstHunters_0 : decode cX2_firstHunters 0 = .ok (.iconst 0, 1) := by decide +kernel
theorem dX2_firstHunters_1 : decode cX2_firstHunters 1 = .ok (.istore_n 2, 1) := by decide +kernel
theorem dX2_firstHunters_2 : decode cX2_firstHunters 2 = .ok (.iconst 0, 1) := by decide +kernel
theorem dX2_firstHunters_3 : decode cX2_firstHunters 3 = .ok (.istore_n 3, 1) := by decide +kernel
theorem dX2_firstHunters_4 : decode cX2_firstHunters 4 = .ok (.iload_n 3, 1) := by decide +kernel
theorem dX2_firstHunters_5 : decode cX2_firstHunters 5 = .ok (.aload_n 0, 1) := by decide +kernel
theorem dX2_firstHunters_6 : decode cX2_firstHunters 6 = .ok (.getfield 52, 3) := by decide +kernel
theorem dX2_firstHunters_9 : decode cX2_firstHunters 9 = .ok (.if_icmp .ge 33, 3) := by decide +kernel
theorem dX2_firstHunters_12 : decode cX2_firstHunters 12 = .ok (.iload_n 2, 1) := by decide +kernel
theorem dX2_firstHunters_13 : decode cX2_firstHunters 13 = .ok (.aload_n 0, 1) := by decide +kernel
theorem dX2_firstHunters_14 : decode cX2_firstHunters 14 = .ok (.iload_n 3, 1) := by decide +kernel
theorem dX2_firstHunters_15 : decode cX2_firstHunters 15 = .ok (.iload_n 1, 1) := by decide +kernel
theorem dX2_firstHunters_16 : decode cX2_firstHunters 16 = .ok (.invokevirtual 119, 3) := by decide +kernel
theorem dX2_firstHunters_19 : decode cX2_firstHunters 19 = .ok (.ifCond .ne 14, 3) := by decide +kernel
theorem dX2_firstHunters_22 : decode cX2_firstHunters 22 = .ok (.aload_n 0, 1) := by decide +kernel
theorem dX2_firstHunters_23 : decode cX2_firstHunters 23 = .ok (.getfield 24, 3) := by decide +kernel
theorem dX2_firstHunters_26 : decode cX2_firstHunters 26 = .ok (.iload_n 3, 1) := by decide +kernel
theorem dX2_firstHunters_27 : decode cX2_firstHunters 27 = .ok (.invokestatic 62, 3) := by decide +kernel
theorem dX2_firstHunters_30 : decode cX2_firstHunters 30 = .ok (.goto 4, 3) := by decide +kernel
theorem dX2_firstHunters_33 : decode cX2_firstHunters 33 = .ok (.iconst 0, 1) := by decide +kernel
theorem dX2_firstHunters_34 : decode cX2_firstHunters 34 = .ok (.iadd, 1) := by decide +kernel
theorem dX2_firstHunters_35 : decode cX2_firstHunters 35 = .ok (.istore_n 2, 1) := by decide +kernel
theorem dX2_firstHunters_36 : decode cX2_firstHunters 36 = .ok (.iinc 3 1, 3) := by decide +kernel
theorem dX2_firstHunters_39 : decode cX2_firstHunters 39 = .ok (.goto (-35), 3) := by decide +kernel
theorem dX2_firstHunters_42 : decode cX2_firstHunters 42 = .ok (.iload_n 2, 1) := by decide +kernel
theorem dX2_firstHunters_43 : decode cX2_firstHunters 43 = .ok (.ireturn, 1) := by decide +kernel
theorem dX2_askers_0 : decode cX2_askers 0 = .ok (.iconst 0, 1) := by decide +kernel
theorem dX2_askers_1 : decode cX2_askers 1 = .ok (.istore_n 2, 1) := by decide +kernel
theorem dX2_askers_2 : decode cX2_askers 2 = .ok (.iconst 0, 1) := by decide +kernel
theorem dX2_askers_3 : decode cX2_askers 3 = .ok (.istore_n 3, 1) := by decide +kernel
theorem dX2_askers_4 : decode cX2_askers 4 = .ok (.iload_n 3, 1) := by decide +kernel
theorem dX2_askers_5 : decode cX2_askers 5 = .ok (.aload_n 0, 1) := by decide +kernel
theorem dX2_askers_6 : decode cX2_askers 6 = .ok (.getfield 52, 3) := by decide +kernel
theorem dX2_askers_9 : decode cX2_askers 9 = .ok (.if_icmp .ge 27, 3) := by decide +kernel
theorem dX2_askers_12 : decode cX2_askers 12 = .ok (.iload_n 2, 1) := by decide +kernel
theorem dX2_askers_13 : decode cX2_askers 13 = .ok (.aload_n 0, 1) := by decide +kernel
theorem dX2_askers_14 : decode cX2_askers 14 = .ok (.iload_n 3, 1) := by decide +kernel
theorem dX2_askers_15 : decode cX2_askers 15 = .ok (.iload_n 1, 1) := by decide +kernel
theorem dX2_askers_16 : decode cX2_askers 16 = .ok (.invokevirtual 119, 3) := by decide +kernel
theorem dX2_askers_19 : decode cX2_askers 19 = .ok (.iconst (-1), 1) := by decide +kernel
theorem dX2_askers_20 : decode cX2_askers 20 = .ok (.if_icmp .ne 7, 3) := by decide +kernel
theorem dX2_askers_23 : decode cX2_askers 23 = .ok (.iconst 0, 1) := by decide +kernel
theorem dX2_askers_24 : decode cX2_askers 24 = .ok (.goto 4, 3) := by decide +kernel
theorem dX2_askers_27 : decode cX2_askers 27 = .ok (.iconst 1, 1) := by decide +kernel
theorem dX2_askers_28 : decode cX2_askers 28 = .ok (.iadd, 1) := by decide +kernel
theorem dX2_askers_29 : decode cX2_askers 29 = .ok (.istore_n 2, 1) := by decide +kernel
theorem dX2_askers_30 : decode cX2_askers 30 = .ok (.iinc 3 1, 3) := by decide +kernel
theorem dX2_askers_33 : decode cX2_askers 33 = .ok (.goto (-29), 3) := by decide +kernel
theorem dX2_askers_36 : decode cX2_askers 36 = .ok (.iload_n 2, 1) := by decide +kernel
theorem dX2_askers_37 : decode cX2_askers 37 = .ok (.ireturn, 1) := by decide +kernel
theorem dX3_init_0 : decode cX3_init 0 = .ok (.aload_n 0, 1) := by decide +kernel
theorem dX3_init_1 : decode cX3_init 1 = .ok (.invokespecial 3, 3) := by decide +kernel
theorem dX3_init_4 : decode cX3_init 4 = .ok (.aload_n 0, 1) := by decide +kernel
theorem dX3_init_5 : decode cX3_init 5 = .ok (.new 9, 3) := by decide +kernel
theorem dX3_init_8 : decode cX3_init 8 = .ok (.dup, 1) := by decide +kernel
theorem dX3_init_9 : decode cX3_init 9 = .ok (.invokespecial 11, 3) := by decide +kernel
theorem dX3_init_12 : decode cX3_init 12 = .ok (.putfield 12, 3) := by decide +kernel
theorem dX3_init_15 : decode cX3_init 15 = .ok (.aload_n 0, 1) := by decide +kernel
theorem dX3_init_16 : decode cX3_init 16 = .ok (.iconst (-1), 1) := by decide +kernel
theorem dX3_init_17 : decode cX3_init 17 = .ok (.putfield 18, 3) := by decide +kernel
theorem dX3_init_20 : decode cX3_init 20 = .ok (.aload_n 0, 1) := by decide +kernel
theorem dX3_init_21 : decode cX3_init 21 = .ok (.iconst (-1), 1) := by decide +kernel
theorem dX3_init_22 : decode cX3_init 22 = .ok (.putfield 22, 3) := by decide +kernel
theorem dX3_init_25 : decode cX3_init 25 = .ok (.aload_n 0, 1) := by decide +kernel
theorem dX3_init_26 : decode cX3_init 26 = .ok (.sipush 700, 3) := by decide +kernel
theorem dX3_init_29 : decode cX3_init 29 = .ok (.newarray .int, 2) := by decide +kernel
theorem dX3_init_31 : decode cX3_init 31 = .ok (.putfield 25, 3) := by decide +kernel
theorem dX3_init_34 : decode cX3_init 34 = .ok (.aload_n 0, 1) := by decide +kernel
theorem dX3_init_35 : decode cX3_init 35 = .ok (.iconst 5, 1) := by decide +kernel
theorem dX3_init_36 : decode cX3_init 36 = .ok (.newarray .long, 2) := by decide +kernel
theorem dX3_init_38 : decode cX3_init 38 = .ok (.putfield 29, 3) := by decide +kernel
theorem dX3_init_41 : decode cX3_init 41 = .ok (.aload_n 0, 1) := by decide +kernel
theorem dX3_init_42 : decode cX3_init 42 = .ok (.bipush 10, 2) := by decide +kernel
theorem dX3_init_44 : decode cX3_init 44 = .ok (.newarray .long, 2) := by decide +kernel
theorem dX3_init_46 : decode cX3_init 46 = .ok (.putfield 33, 3) := by decide +kernel
theorem dX3_init_49 : decode cX3_init 49 = .ok (.aload_n 0, 1) := by decide +kernel
theorem dX3_init_50 : decode cX3_init 50 = .ok (.iconst 4, 1) := by decide +kernel
theorem dX3_init_51 : decode cX3_init 51 = .ok (.newarray .long, 2) := by decide +kernel
theorem dX3_init_53 : decode cX3_init 53 = .ok (.putfield 36, 3) := by decide +kernel
theorem dX3_init_56 : decode cX3_init 56 = .ok (.aload_n 0, 1) := by decide +kernel
theorem dX3_init_57 : decode cX3_init 57 = .ok (.iconst 3, 1) := by decide +kernel
theorem dX3_init_58 : decode cX3_init 58 = .ok (.newarray .int, 2) := by decide +kernel
theorem dX3_init_60 : decode cX3_init 60 = .ok (.putfield 39, 3) := by decide +kernel
theorem dX3_init_63 : decode cX3_init 63 = .ok (.return_, 1) := by decide +kernel
theorem dX3_read_0 : decode cX3_read 0 = .ok (.aload_n 1, 1) := by decide +kernel
theorem dX3_read_1 : decode cX3_read 1 = .ok (.aload_n 0, 1) := by decide +kernel
theorem dX3_read_2 : decode cX3_read 2 = .ok (.getfield 25, 3) := by decide +kernel
theorem dX3_read_5 : decode cX3_read 5 = .ok (.invokestatic 42, 3) := by decide +kernel
theorem dX3_read_8 : decode cX3_read 8 = .ok (.aload_n 0, 1) := by decide +kernel
theorem dX3_read_9 : decode cX3_read 9 = .ok (.iload_n 2, 1) := by decide +kernel
theorem dX3_read_10 : decode cX3_read 10 = .ok (.sipush 700, 3) := by decide +kernel
theorem dX3_read_13 : decode cX3_read 13 = .ok (.invokestatic 46, 3) := by decide +kernel
theorem dX3_read_16 : decode cX3_read 16 = .ok (.putfield 52, 3) := by decide +kernel
theorem dX3_read_19 : decode cX3_read 19 = .ok (.aload_n 0, 1) := by decide +kernel
theorem dX3_read_20 : decode cX3_read 20 = .ok (.iconst 0, 1) := by decide +kernel
theorem dX3_read_21 : decode cX3_read 21 = .ok (.putfield 55, 3) := by decide +kernel
theorem dX3_read_24 : decode cX3_read 24 = .ok (.aload_n 0, 1) := by decide +kernel
theorem dX3_read_25 : decode cX3_read 25 = .ok (.iconst 0, 1) := by decide +kernel
theorem dX3_read_26 : decode cX3_read 26 = .ok (.putfield 58, 3) := by decide +kernel
theorem dX3_read_29 : decode cX3_read 29 = .ok (.aload_n 0, 1) := by decide +kernel
theorem dX3_read_30 : decode cX3_read 30 = .ok (.iconst 0, 1) := by decide +kernel
theorem dX3_read_31 : decode cX3_read 31 = .ok (.putfield 62, 3) := by decide +kernel
theorem dX3_read_34 : decode cX3_read 34 = .ok (.aload_n 0, 1) := by decide +kernel
theorem dX3_read_35 : decode cX3_read 35 = .ok (.iconst 0, 1) := by decide +kernel
theorem dX3_read_36 : decode cX3_read 36 = .ok (.putfield 65, 3) := by decide +kernel
theorem dX3_read_39 : decode cX3_read 39 = .ok (.aload_n 0, 1) := by decide +kernel
theorem dX3_read_40 : decode cX3_read 40 = .ok (.getfield 12, 3) := by decide +kernel
theorem dX3_read_43 : decode cX3_read 43 = .ok (.invokevirtual 68, 3) := by decide +kernel
theorem dX3_read_46 : decode cX3_read 46 = .ok (.aload_n 0, 1) := by decide +kernel
theorem dX3_read_47 : decode cX3_read 47 = .ok (.iconst 0, 1) := by decide +kernel
theorem dX3_read_48 : decode cX3_read 48 = .ok (.putfield 18, 3) := by decide +kernel
theorem dX3_read_51 : decode cX3_read 51 = .ok (.aload_n 0, 1) := by decide +kernel
theorem dX3_read_52 : decode cX3_read 52 = .ok (.iconst (-1), 1) := by decide +kernel
theorem dX3_read_53 : decode cX3_read 53 = .ok (.putfield 22, 3) := by decide +kernel
theorem dX3_read_56 : decode cX3_read 56 = .ok (.aload_n 0, 1) := by decide +kernel
theorem dX3_read_57 : decode cX3_read 57 = .ok (.invokevirtual 71, 3) := by decide +kernel
theorem dX3_read_60 : decode cX3_read 60 = .ok (.iconst 0, 1) := by decide +kernel
theorem dX3_read_61 : decode cX3_read 61 = .ok (.istore_n 3, 1) := by decide +kernel
theorem dX3_read_62 : decode cX3_read 62 = .ok (.iload_n 3, 1) := by decide +kernel
theorem dX3_read_63 : decode cX3_read 63 = .ok (.sipush 700, 3) := by decide +kernel
theorem dX3_read_66 : decode cX3_read 66 = .ok (.if_icmp .ge 25, 3) := by decide +kernel
theorem dX3_read_69 : decode cX3_read 69 = .ok (.aload_n 0, 1) := by decide +kernel
theorem dX3_read_70 : decode cX3_read 70 = .ok (.getfield 74, 3) := by decide +kernel
theorem dX3_read_73 : decode cX3_read 73 = .ok (.ifCond .eq 18, 3) := by decide +kernel
theorem dX3_read_76 : decode cX3_read 76 = .ok (.aload_n 0, 1) := by decide +kernel
theorem dX3_read_77 : decode cX3_read 77 = .ok (.invokevirtual 77, 3) := by decide +kernel
theorem dX3_read_80 : decode cX3_read 80 = .ok (.ifCond .ne 5, 3) := by decide +kernel
theorem dX3_read_83 : decode cX3_read 83 = .ok (.iconst 0, 1) := by decide +kernel
theorem dX3_read_84 : decode cX3_read 84 = .ok (.ireturn, 1) := by decide +kernel
theorem dX3_read_85 : decode cX3_read 85 = .ok (.iinc 3 1, 3) := by decide +kernel
theorem dX3_read_88 : decode cX3_read 88 = .ok (.goto (-26), 3) := by decide +kernel
theorem dX3_read_91 : decode cX3_read 91 = .ok (.iconst 1, 1) := by decide +kernel
theorem dX3_read_92 : decode cX3_read 92 = .ok (.ireturn, 1) := by decide +kernel
theorem dX3_step_0 : decode cX3_step 0 = .ok (.aload_n 0, 1) := by decide +kernel
theorem dX3_step_1 : decode cX3_step 1 = .ok (.getfield 55, 3) := by decide +kernel
theorem dX3_step_4 : decode cX3_step 4 = .ok (.aload_n 0, 1) := by decide +kernel
theorem dX3_step_5 : decode cX3_step 5 = .ok (.getfield 52, 3) := by decide +kernel
theorem dX3_step_8 : decode cX3_step 8 = .ok (.if_icmp .ge 33, 3) := by decide +kernel
theorem dX3_step_11 : decode cX3_step 11 = .ok (.aload_n 0, 1) := by decide +kernel
theorem dX3_step_12 : decode cX3_step 12 = .ok (.getfield 25, 3) := by decide +kernel
theorem dX3_step_15 : decode cX3_step 15 = .ok (.aload_n 0, 1) := by decide +kernel
theorem dX3_step_16 : decode cX3_step 16 = .ok (.getfield 55, 3) := by decide +kernel
theorem dX3_step_19 : decode cX3_step 19 = .ok (.invokestatic 81, 3) := by decide +kernel
theorem dX3_step_22 : decode cX3_step 22 = .ok (.invokestatic 85, 3) := by decide +kernel
theorem dX3_step_25 : decode cX3_step 25 = .ok (.ifCond .eq 16, 3) := by decide +kernel
theorem dX3_step_28 : decode cX3_step 28 = .ok (.aload_n 0, 1) := by decide +kernel
theorem dX3_step_29 : decode cX3_step 29 = .ok (.dup, 1) := by decide +kernel
theorem dX3_step_30 : decode cX3_step 30 = .ok (.getfield 55, 3) := by decide +kernel
theorem dX3_step_33 : decode cX3_step 33 = .ok (.iconst 1, 1) := by decide +kernel
theorem dX3_step_34 : decode cX3_step 34 = .ok (.iadd, 1) := by decide +kernel
theorem dX3_step_35 : decode cX3_step 35 = .ok (.putfield 55, 3) := by decide +kernel
theorem dX3_step_38 : decode cX3_step 38 = .ok (.goto (-38), 3) := by decide +kernel
theorem dX3_step_41 : decode cX3_step 41 = .ok (.aload_n 0, 1) := by decide +kernel
theorem dX3_step_42 : decode cX3_step 42 = .ok (.aload_n 0, 1) := by decide +kernel
theorem dX3_step_43 : decode cX3_step 43 = .ok (.getfield 55, 3) := by decide +kernel
theorem dX3_step_46 : decode cX3_step 46 = .ok (.putfield 89, 3) := by decide +kernel
theorem dX3_step_49 : decode cX3_step 49 = .ok (.aload_n 0, 1) := by decide +kernel
theorem dX3_step_50 : decode cX3_step 50 = .ok (.getfield 25, 3) := by decide +kernel
theorem dX3_step_53 : decode cX3_step 53 = .ok (.aload_n 0, 1) := by decide +kernel
theorem dX3_step_54 : decode cX3_step 54 = .ok (.getfield 55, 3) := by decide +kernel
theorem dX3_step_57 : decode cX3_step 57 = .ok (.invokestatic 81, 3) := by decide +kernel
theorem dX3_step_60 : decode cX3_step 60 = .ok (.istore_n 1, 1) := by decide +kernel
theorem dX3_step_61 : decode cX3_step 61 = .ok (.aload_n 0, 1) := by decide +kernel
theorem dX3_step_62 : decode cX3_step 62 = .ok (.getfield 55, 3) := by decide +kernel
theorem dX3_step_65 : decode cX3_step 65 = .ok (.aload_n 0, 1) := by decide +kernel
theorem dX3_step_66 : decode cX3_step 66 = .ok (.getfield 52, 3) := by decide +kernel
theorem dX3_step_69 : decode cX3_step 69 = .ok (.if_icmp .lt 11, 3) := by decide +kernel
theorem dX3_step_72 : decode cX3_step 72 = .ok (.aload_n 0, 1) := by decide +kernel
theorem dX3_step_73 : decode cX3_step 73 = .ok (.iconst 0, 1) := by decide +kernel
theorem dX3_step_74 : decode cX3_step 74 = .ok (.putfield 74, 3) := by decide +kernel
theorem dX3_step_77 : decode cX3_step 77 = .ok (.goto 60, 3) := by decide +kernel
theorem dX3_step_80 : decode cX3_step 80 = .ok (.iload_n 1, 1) := by decide +kernel
theorem dX3_step_81 : decode cX3_step 81 = .ok (.invokestatic 92, 3) := by decide +kernel
theorem dX3_step_84 : decode cX3_step 84 = .ok (.ifCond .eq 10, 3) := by decide +kernel
theorem dX3_step_87 : decode cX3_step 87 = .ok (.aload_n 0, 1) := by decide +kernel
theorem dX3_step_88 : decode cX3_step 88 = .ok (.invokevirtual 95, 3) := by decide +kernel
theorem dX3_step_91 : decode cX3_step 91 = .ok (.goto 46, 3) := by decide +kernel
theorem dX3_step_94 : decode cX3_step 94 = .ok (.iload_n 1, 1) := by decide +kernel
theorem dX3_step_95 : decode cX3_step 95 = .ok (.invokestatic 98, 3) := by decide +kernel
theorem dX3_step_98 : decode cX3_step 98 = .ok (.ifCond .eq 10, 3) := by decide +kernel
theorem dX3_step_101 : decode cX3_step 101 = .ok (.aload_n 0, 1) := by decide +kernel
theorem dX3_step_102 : decode cX3_step 102 = .ok (.invokevirtual 101, 3) := by decide +kernel
theorem dX3_step_105 : decode cX3_step 105 = .ok (.goto 32, 3) := by decide +kernel
theorem dX3_step_108 : decode cX3_step 108 = .ok (.iload_n 1, 1) := by decide +kernel
theorem dX3_step_109 : decode cX3_step 109 = .ok (.bipush 59, 2) := by decide +kernel
theorem dX3_step_111 : decode cX3_step 111 = .ok (.if_icmp .ne 21, 3) := by decide +kernel
theorem dX3_step_114 : decode cX3_step 114 = .ok (.aload_n 0, 1) := by decide +kernel
theorem dX3_step_115 : decode cX3_step 115 = .ok (.iconst 3, 1) := by decide +kernel
theorem dX3_step_116 : decode cX3_step 116 = .ok (.putfield 74, 3) := by decide +kernel
theorem dX3_step_119 : decode cX3_step 119 = .ok (.aload_n 0, 1) := by decide +kernel
theorem dX3_step_120 : decode cX3_step 120 = .ok (.dup, 1) := by decide +kernel
theorem dX3_step_121 : decode cX3_step 121 = .ok (.getfield 55, 3) := by decide +kernel
theorem dX3_step_124 : decode cX3_step 124 = .ok (.iconst 1, 1) := by decide +kernel
theorem dX3_step_125 : decode cX3_step 125 = .ok (.iadd, 1) := by decide +kernel
theorem dX3_step_126 : decode cX3_step 126 = .ok (.putfield 55, 3) := by decide +kernel
theorem dX3_step_129 : decode cX3_step 129 = .ok (.goto 8, 3) := by decide +kernel
theorem dX3_step_132 : decode cX3_step 132 = .ok (.aload_n 0, 1) := by decide +kernel
theorem dX3_step_133 : decode cX3_step 133 = .ok (.iconst 4, 1) := by decide +kernel
theorem dX3_step_134 : decode cX3_step 134 = .ok (.putfield 74, 3) := by decide +kernel
theorem dX3_step_137 : decode cX3_step 137 = .ok (.return_, 1) := by decide +kernel
theorem dX3_stepWord_0 : decode cX3_stepWord 0 = .ok (.aload_n 0, 1) := by decide +kernel
theorem dX3_stepWord_1 : decode cX3_stepWord 1 = .ok (.lconst 0, 1) := by decide +kernel
theorem dX3_stepWord_2 : decode cX3_stepWord 2 = .ok (.putfield 104, 3) := by decide +kernel
theorem dX3_stepWord_5 : decode cX3_stepWord 5 = .ok (.aload_n 0, 1) := by decide +kernel
theorem dX3_stepWord_6 : decode cX3_stepWord 6 = .ok (.getfield 55, 3) := by decide +kernel
theorem dX3_stepWord_9 : decode cX3_stepWord 9 = .ok (.aload_n 0, 1) := by decide +kernel
theorem dX3_stepWord_10 : decode cX3_stepWord 10 = .ok (.getfield 52, 3) := by decide +kernel
theorem dX3_stepWord_13 : decode cX3_stepWord 13 = .ok (.if_icmp .ge 63, 3) := by decide +kernel
theorem dX3_stepWord_16 : decode cX3_stepWord 16 = .ok (.aload_n 0, 1) := by decide +kernel
theorem dX3_stepWord_17 : decode cX3_stepWord 17 = .ok (.getfield 25, 3) := by decide +kernel
theorem dX3_stepWord_20 : decode cX3_stepWord 20 = .ok (.aload_n 0, 1) := by decide +kernel
theorem dX3_stepWord_21 : decode cX3_stepWord 21 = .ok (.getfield 55, 3) := by decide +kernel
theorem dX3_stepWord_24 : decode cX3_stepWord 24 = .ok (.invokestatic 81, 3) := by decide +kernel
theorem dX3_stepWord_27 : decode cX3_stepWord 27 = .ok (.invokestatic 92, 3) := by decide +kernel
theorem dX3_stepWord_30 : decode cX3_stepWord 30 = .ok (.ifCond .eq 46, 3) := by decide +kernel
theorem dX3_stepWord_33 : decode cX3_stepWord 33 = .ok (.aload_n 0, 1) := by decide +kernel
theorem dX3_stepWord_34 : decode cX3_stepWord 34 = .ok (.aload_n 0, 1) := by decide +kernel
theorem dX3_stepWord_35 : decode cX3_stepWord 35 = .ok (.getfield 104, 3) := by decide +kernel
theorem dX3_stepWord_38 : decode cX3_stepWord 38 = .ok (.ldc2_w 108, 3) := by decide +kernel
theorem dX3_stepWord_41 : decode cX3_stepWord 41 = .ok (.lmul, 1) := by decide +kernel
theorem dX3_stepWord_42 : decode cX3_stepWord 42 = .ok (.aload_n 0, 1) := by decide +kernel
theorem dX3_stepWord_43 : decode cX3_stepWord 43 = .ok (.getfield 25, 3) := by decide +kernel
theorem dX3_stepWord_46 : decode cX3_stepWord 46 = .ok (.aload_n 0, 1) := by decide +kernel
theorem dX3_stepWord_47 : decode cX3_stepWord 47 = .ok (.getfield 55, 3) := by decide +kernel
theorem dX3_stepWord_50 : decode cX3_stepWord 50 = .ok (.invokestatic 81, 3) := by decide +kernel
theorem dX3_stepWord_53 : decode cX3_stepWord 53 = .ok (.bipush 97, 2) := by decide +kernel
theorem dX3_stepWord_55 : decode cX3_stepWord 55 = .ok (.isub, 1) := by decide +kernel
theorem dX3_stepWord_56 : decode cX3_stepWord 56 = .ok (.iconst 1, 1) := by decide +kernel
theorem dX3_stepWord_57 : decode cX3_stepWord 57 = .ok (.iadd, 1) := by decide +kernel
theorem dX3_stepWord_58 : decode cX3_stepWord 58 = .ok (.i2l, 1) := by decide +kernel
theorem dX3_stepWord_59 : decode cX3_stepWord 59 = .ok (.ladd, 1) := by decide +kernel
theorem dX3_stepWord_60 : decode cX3_stepWord 60 = .ok (.putfield 104, 3) := by decide +kernel
theorem dX3_stepWord_63 : decode cX3_stepWord 63 = .ok (.aload_n 0, 1) := by decide +kernel
theorem dX3_stepWord_64 : decode cX3_stepWord 64 = .ok (.dup, 1) := by decide +kernel
theorem dX3_stepWord_65 : decode cX3_stepWord 65 = .ok (.getfield 55, 3) := by decide +kernel
theorem dX3_stepWord_68 : decode cX3_stepWord 68 = .ok (.iconst 1, 1) := by decide +kernel
theorem dX3_stepWord_69 : decode cX3_stepWord 69 = .ok (.iadd, 1) := by decide +kernel
theorem dX3_stepWord_70 : decode cX3_stepWord 70 = .ok (.putfield 55, 3) := by decide +kernel
theorem dX3_stepWord_73 : decode cX3_stepWord 73 = .ok (.goto (-68), 3) := by decide +kernel
theorem dX3_stepWord_76 : decode cX3_stepWord 76 = .ok (.aload_n 0, 1) := by decide +kernel
theorem dX3_stepWord_77 : decode cX3_stepWord 77 = .ok (.aload_n 0, 1) := by decide +kernel
theorem dX3_stepWord_78 : decode cX3_stepWord 78 = .ok (.getfield 55, 3) := by decide +kernel
theorem dX3_stepWord_81 : decode cX3_stepWord 81 = .ok (.aload_n 0, 1) := by decide +kernel
theorem dX3_stepWord_82 : decode cX3_stepWord 82 = .ok (.getfield 89, 3) := by decide +kernel
theorem dX3_stepWord_85 : decode cX3_stepWord 85 = .ok (.isub, 1) := by decide +kernel
theorem dX3_stepWord_86 : decode cX3_stepWord 86 = .ok (.bipush 8, 2) := by decide +kernel
theorem dX3_stepWord_88 : decode cX3_stepWord 88 = .ok (.if_icmp .gt 7, 3) := by decide +kernel
theorem dX3_stepWord_91 : decode cX3_stepWord 91 = .ok (.iconst 1, 1) := by decide +kernel
theorem dX3_stepWord_92 : decode cX3_stepWord 92 = .ok (.goto 4, 3) := by decide +kernel
theorem dX3_stepWord_95 : decode cX3_stepWord 95 = .ok (.iconst 4, 1) := by decide +kernel
theorem dX3_stepWord_96 : decode cX3_stepWord 96 = .ok (.putfield 74, 3) := by decide +kernel
theorem dX3_stepWord_99 : decode cX3_stepWord 99 = .ok (.return_, 1) := by decide +kernel
theorem dX3_stepNumber_0 : decode cX3_stepNumber 0 = .ok (.aload_n 0, 1) := by decide +kernel
theorem dX3_stepNumber_1 : decode cX3_stepNumber 1 = .ok (.iconst 0, 1) := by decide +kernel
theorem dX3_stepNumber_2 : decode cX3_stepNumber 2 = .ok (.putfield 110, 3) := by decide +kernel
theorem dX3_stepNumber_5 : decode cX3_stepNumber 5 = .ok (.aload_n 0, 1) := by decide +kernel
theorem dX3_stepNumber_6 : decode cX3_stepNumber 6 = .ok (.getfield 55, 3) := by decide +kernel
theorem dX3_stepNumber_9 : decode cX3_stepNumber 9 = .ok (.aload_n 0, 1) := by decide +kernel
theorem dX3_stepNumber_10 : decode cX3_stepNumber 10 = .ok (.getfield 52, 3) := by decide +kernel
theorem dX3_stepNumber_13 : decode cX3_stepNumber 13 = .ok (.if_icmp .ge 59, 3) := by decide +kernel
theorem dX3_stepNumber_16 : decode cX3_stepNumber 16 = .ok (.aload_n 0, 1) := by decide +kernel
theorem dX3_stepNumber_17 : decode cX3_stepNumber 17 = .ok (.getfield 25, 3) := by decide +kernel
theorem dX3_stepNumber_20 : decode cX3_stepNumber 20 = .ok (.aload_n 0, 1) := by decide +kernel
theorem dX3_stepNumber_21 : decode cX3_stepNumber 21 = .ok (.getfield 55, 3) := by decide +kernel
theorem dX3_stepNumber_24 : decode cX3_stepNumber 24 = .ok (.invokestatic 81, 3) := by decide +kernel
theorem dX3_stepNumber_27 : decode cX3_stepNumber 27 = .ok (.invokestatic 98, 3) := by decide +kernel
theorem dX3_stepNumber_30 : decode cX3_stepNumber 30 = .ok (.ifCond .eq 42, 3) := by decide +kernel
theorem dX3_stepNumber_33 : decode cX3_stepNumber 33 = .ok (.aload_n 0, 1) := by decide +kernel
theorem dX3_stepNumber_34 : decode cX3_stepNumber 34 = .ok (.aload_n 0, 1) := by decide +kernel
theorem dX3_stepNumber_35 : decode cX3_stepNumber 35 = .ok (.getfield 110, 3) := by decide +kernel
theorem dX3_stepNumber_38 : decode cX3_stepNumber 38 = .ok (.bipush 10, 2) := by decide +kernel
theorem dX3_stepNumber_40 : decode cX3_stepNumber 40 = .ok (.imul, 1) := by decide +kernel
theorem dX3_stepNumber_41 : decode cX3_stepNumber 41 = .ok (.aload_n 0, 1) := by decide +kernel
theorem dX3_stepNumber_42 : decode cX3_stepNumber 42 = .ok (.getfield 25, 3) := by decide +kernel
theorem dX3_stepNumber_45 : decode cX3_stepNumber 45 = .ok (.aload_n 0, 1) := by decide +kernel
theorem dX3_stepNumber_46 : decode cX3_stepNumber 46 = .ok (.getfield 55, 3) := by decide +kernel
theorem dX3_stepNumber_49 : decode cX3_stepNumber 49 = .ok (.invokestatic 81, 3) := by decide +kernel
theorem dX3_stepNumber_52 : decode cX3_stepNumber 52 = .ok (.bipush 48, 2) := by decide +kernel
theorem dX3_stepNumber_54 : decode cX3_stepNumber 54 = .ok (.isub, 1) := by decide +kernel
theorem dX3_stepNumber_55 : decode cX3_stepNumber 55 = .ok (.iadd, 1) := by decide +kernel
theorem dX3_stepNumber_56 : decode cX3_stepNumber 56 = .ok (.putfield 110, 3) := by decide +kernel
theorem dX3_stepNumber_59 : decode cX3_stepNumber 59 = .ok (.aload_n 0, 1) := by decide +kernel
theorem dX3_stepNumber_60 : decode cX3_stepNumber 60 = .ok (.dup, 1) := by decide +kernel
theorem dX3_stepNumber_61 : decode cX3_stepNumber 61 = .ok (.getfield 55, 3) := by decide +kernel
theorem dX3_stepNumber_64 : decode cX3_stepNumber 64 = .ok (.iconst 1, 1) := by decide +kernel
theorem dX3_stepNumber_65 : decode cX3_stepNumber 65 = .ok (.iadd, 1) := by decide +kernel
theorem dX3_stepNumber_66 : decode cX3_stepNumber 66 = .ok (.putfield 55, 3) := by decide +kernel
theorem dX3_stepNumber_69 : decode cX3_stepNumber 69 = .ok (.goto (-64), 3) := by decide +kernel
theorem dX3_stepNumber_72 : decode cX3_stepNumber 72 = .ok (.aload_n 0, 1) := by decide +kernel
theorem dX3_stepNumber_73 : decode cX3_stepNumber 73 = .ok (.aload_n 0, 1) := by decide +kernel
theorem dX3_stepNumber_74 : decode cX3_stepNumber 74 = .ok (.getfield 55, 3) := by decide +kernel
theorem dX3_stepNumber_77 : decode cX3_stepNumber 77 = .ok (.aload_n 0, 1) := by decide +kernel
theorem dX3_stepNumber_78 : decode cX3_stepNumber 78 = .ok (.getfield 89, 3) := by decide +kernel
theorem dX3_stepNumber_81 : decode cX3_stepNumber 81 = .ok (.isub, 1) := by decide +kernel
theorem dX3_stepNumber_82 : decode cX3_stepNumber 82 = .ok (.iconst 3, 1) := by decide +kernel
theorem dX3_stepNumber_83 : decode cX3_stepNumber 83 = .ok (.if_icmp .gt 7, 3) := by decide +kernel
theorem dX3_stepNumber_86 : decode cX3_stepNumber 86 = .ok (.iconst 2, 1) := by decide +kernel
theorem dX3_stepNumber_87 : decode cX3_stepNumber 87 = .ok (.goto 4, 3) := by decide +kernel
theorem dX3_stepNumber_90 : decode cX3_stepNumber 90 = .ok (.iconst 4, 1) := by decide +kernel
theorem dX3_stepNumber_91 : decode cX3_stepNumber 91 = .ok (.putfield 74, 3) := by decide +kernel
theorem dX3_stepNumber_94 : decode cX3_stepNumber 94 = .ok (.return_, 1) := by decide +kernel
theorem dX3_isBlank_0 : decode cX3_isBlank 0 = .ok (.iload_n 0, 1) := by decide +kernel
theorem dX3_isBlank_1 : decode cX3_isBlank 1 = .ok (.bipush 10, 2) := by decide +kernel
theorem dX3_isBlank_3 : decode cX3_isBlank 3 = .ok (.if_icmp .eq 9, 3) := by decide +kernel
theorem dX3_isBlank_6 : decode cX3_isBlank 6 = .ok (.iload_n 0, 1) := by decide +kernel
theorem dX3_isBlank_7 : decode cX3_isBlank 7 = .ok (.bipush 32, 2) := by decide +kernel
theorem dX3_isBlank_9 : decode cX3_isBlank 9 = .ok (.if_icmp .ne 7, 3) := by decide +kernel
theorem dX3_isBlank_12 : decode cX3_isBlank 12 = .ok (.iconst 1, 1) := by decide +kernel
theorem dX3_isBlank_13 : decode cX3_isBlank 13 = .ok (.goto 4, 3) := by decide +kernel
theorem dX3_isBlank_16 : decode cX3_isBlank 16 = .ok (.iconst 0, 1) := by decide +kernel
theorem dX3_isBlank_17 : decode cX3_isBlank 17 = .ok (.ireturn, 1) := by decide +kernel
theorem dX3_isLetter_0 : decode cX3_isLetter 0 = .ok (.iload_n 0, 1) := by decide +kernel
theorem dX3_isLetter_1 : decode cX3_isLetter 1 = .ok (.bipush 97, 2) := by decide +kernel
theorem dX3_isLetter_3 : decode cX3_isLetter 3 = .ok (.if_icmp .lt 13, 3) := by decide +kernel
theorem dX3_isLetter_6 : decode cX3_isLetter 6 = .ok (.iload_n 0, 1) := by decide +kernel
theorem dX3_isLetter_7 : decode cX3_isLetter 7 = .ok (.bipush 122, 2) := by decide +kernel
theorem dX3_isLetter_9 : decode cX3_isLetter 9 = .ok (.if_icmp .gt 7, 3) := by decide +kernel
theorem dX3_isLetter_12 : decode cX3_isLetter 12 = .ok (.iconst 1, 1) := by decide +kernel
theorem dX3_isLetter_13 : decode cX3_isLetter 13 = .ok (.goto 4, 3) := by decide +kernel
theorem dX3_isLetter_16 : decode cX3_isLetter 16 = .ok (.iconst 0, 1) := by decide +kernel
theorem dX3_isLetter_17 : decode cX3_isLetter 17 = .ok (.ireturn, 1) := by decide +kernel
theorem dX3_isDigit_0 : decode cX3_isDigit 0 = .ok (.iload_n 0, 1) := by decide +kernel
theorem dX3_isDigit_1 : decode cX3_isDigit 1 = .ok (.bipush 48, 2) := by decide +kernel
theorem dX3_isDigit_3 : decode cX3_isDigit 3 = .ok (.if_icmp .lt 13, 3) := by decide +kernel
theorem dX3_isDigit_6 : decode cX3_isDigit 6 = .ok (.iload_n 0, 1) := by decide +kernel
theorem dX3_isDigit_7 : decode cX3_isDigit 7 = .ok (.bipush 57, 2) := by decide +kernel
theorem dX3_isDigit_9 : decode cX3_isDigit 9 = .ok (.if_icmp .gt 7, 3) := by decide +kernel
theorem dX3_isDigit_12 : decode cX3_isDigit 12 = .ok (.iconst 1, 1) := by decide +kernel
theorem dX3_isDigit_13 : decode cX3_isDigit 13 = .ok (.goto 4, 3) := by decide +kernel
theorem dX3_isDigit_16 : decode cX3_isDigit 16 = .ok (.iconst 0, 1) := by decide +kernel
theorem dX3_isDigit_17 : decode cX3_isDigit 17 = .ok (.ireturn, 1) := by decide +kernel
theorem dX3_says_0 : decode cX3_says 0 = .ok (.aload_n 0, 1) := by decide +kernel
theorem dX3_says_1 : decode cX3_says 1 = .ok (.getfield 74, 3) := by decide +kernel
theorem dX3_says_4 : decode cX3_says 4 = .ok (.iconst 1, 1) := by decide +kernel
theorem dX3_says_5 : decode cX3_says 5 = .ok (.if_icmp .ne 19, 3) := by decide +kernel
theorem dX3_says_8 : decode cX3_says 8 = .ok (.aload_n 0, 1) := by decide +kernel
theorem dX3_says_9 : decode cX3_says 9 = .ok (.getfield 55, 3) := by decide +kernel
theorem dX3_says_12 : decode cX3_says 12 = .ok (.aload_n 0, 1) := by decide +kernel
theorem dX3_says_13 : decode cX3_says 13 = .ok (.getfield 89, 3) := by decide +kernel
theorem dX3_says_16 : decode cX3_says 16 = .ok (.isub, 1) := by decide +kernel
theorem dX3_says_17 : decode cX3_says 17 = .ok (.aload_n 1, 1) := by decide +kernel
theorem dX3_says_18 : decode cX3_says 18 = .ok (.invokevirtual 113, 3) := by decide +kernel
theorem dX3_says_21 : decode cX3_says 21 = .ok (.if_icmp .eq 5, 3) := by decide +kernel
theorem dX3_says_24 : decode cX3_says 24 = .ok (.iconst 0, 1) := by decide +kernel
theorem dX3_says_25 : decode cX3_says 25 = .ok (.ireturn, 1) := by decide +kernel
theorem dX3_says_26 : decode cX3_says 26 = .ok (.iconst 0, 1) := by decide +kernel
theorem dX3_says_27 : decode cX3_says 27 = .ok (.istore_n 2, 1) := by decide +kernel
theorem dX3_says_28 : decode cX3_says 28 = .ok (.iload_n 2, 1) := by decide +kernel
theorem dX3_says_29 : decode cX3_says 29 = .ok (.aload_n 1, 1) := by decide +kernel
theorem dX3_says_30 : decode cX3_says 30 = .ok (.invokevirtual 113, 3) := by decide +kernel
theorem dX3_says_33 : decode cX3_says 33 = .ok (.if_icmp .ge 32, 3) := by decide +kernel
theorem dX3_says_36 : decode cX3_says 36 = .ok (.aload_n 0, 1) := by decide +kernel
theorem dX3_says_37 : decode cX3_says 37 = .ok (.getfield 25, 3) := by decide +kernel
theorem dX3_says_40 : decode cX3_says 40 = .ok (.aload_n 0, 1) := by decide +kernel
theorem dX3_says_41 : decode cX3_says 41 = .ok (.getfield 89, 3) := by decide +kernel
theorem dX3_says_44 : decode cX3_says 44 = .ok (.iload_n 2, 1) := by decide +kernel
theorem dX3_says_45 : decode cX3_says 45 = .ok (.iadd, 1) := by decide +kernel
theorem dX3_says_46 : decode cX3_says 46 = .ok (.invokestatic 81, 3) := by decide +kernel
theorem dX3_says_49 : decode cX3_says 49 = .ok (.aload_n 1, 1) := by decide +kernel
theorem dX3_says_50 : decode cX3_says 50 = .ok (.iload_n 2, 1) := by decide +kernel
theorem dX3_says_51 : decode cX3_says 51 = .ok (.invokevirtual 118, 3) := by decide +kernel
theorem dX3_says_54 : decode cX3_says 54 = .ok (.if_icmp .eq 5, 3) := by decide +kernel
theorem dX3_says_57 : decode cX3_says 57 = .ok (.iconst 0, 1) := by decide +kernel
theorem dX3_says_58 : decode cX3_says 58 = .ok (.ireturn, 1) := by decide +kernel
theorem dX3_says_59 : decode cX3_says 59 = .ok (.iinc 2 1, 3) := by decide +kernel
theorem dX3_says_62 : decode cX3_says 62 = .ok (.goto (-34), 3) := by decide +kernel
theorem dX3_says_65 : decode cX3_says 65 = .ok (.iconst 1, 1) := by decide +kernel
theorem dX3_says_66 : decode cX3_says 66 = .ok (.ireturn, 1) := by decide +kernel
theorem dX3_isName_0 : decode cX3_isName 0 = .ok (.aload_n 0, 1) := by decide +kernel
theorem dX3_isName_1 : decode cX3_isName 1 = .ok (.getfield 74, 3) := by decide +kernel
theorem dX3_isName_4 : decode cX3_isName 4 = .ok (.iconst 1, 1) := by decide +kernel
theorem dX3_isName_5 : decode cX3_isName 5 = .ok (.if_icmp .ne 79, 3) := by decide +kernel
theorem dX3_isName_8 : decode cX3_isName 8 = .ok (.aload_n 0, 1) := by decide +kernel
theorem dX3_isName_9 : decode cX3_isName 9 = .ok (.ldc 122, 2) := by decide +kernel
theorem dX3_isName_11 : decode cX3_isName 11 = .ok (.invokevirtual 124, 3) := by decide +kernel
theorem dX3_isName_14 : decode cX3_isName 14 = .ok (.ifCond .ne 70, 3) := by decide +kernel
theorem dX3_isName_17 : decode cX3_isName 17 = .ok (.aload_n 0, 1) := by decide +kernel
theorem dX3_isName_18 : decode cX3_isName 18 = .ok (.ldc 128, 2) := by decide +kernel
theorem dX3_isName_20 : decode cX3_isName 20 = .ok (.invokevirtual 124, 3) := by decide +kernel
theorem dX3_isName_23 : decode cX3_isName 23 = .ok (.ifCond .ne 61, 3) := by decide +kernel
theorem dX3_isName_26 : decode cX3_isName 26 = .ok (.aload_n 0, 1) := by decide +kernel
theorem dX3_isName_27 : decode cX3_isName 27 = .ok (.ldc 130, 2) := by decide +kernel
theorem dX3_isName_29 : decode cX3_isName 29 = .ok (.invokevirtual 124, 3) := by decide +kernel
theorem dX3_isName_32 : decode cX3_isName 32 = .ok (.ifCond .ne 52, 3) := by decide +kernel
theorem dX3_isName_35 : decode cX3_isName 35 = .ok (.aload_n 0, 1) := by decide +kernel
theorem dX3_isName_36 : decode cX3_isName 36 = .ok (.ldc 132, 2) := by decide +kernel
theorem dX3_isName_38 : decode cX3_isName 38 = .ok (.invokevirtual 124, 3) := by decide +kernel
theorem dX3_isName_41 : decode cX3_isName 41 = .ok (.ifCond .ne 43, 3) := by decide +kernel
theorem dX3_isName_44 : decode cX3_isName 44 = .ok (.aload_n 0, 1) := by decide +kernel
theorem dX3_isName_45 : decode cX3_isName 45 = .ok (.ldc 134, 2) := by decide +kernel
theorem dX3_isName_47 : decode cX3_isName 47 = .ok (.invokevirtual 124, 3) := by decide +kernel
theorem dX3_isName_50 : decode cX3_isName 50 = .ok (.ifCond .ne 34, 3) := by decide +kernel
theorem dX3_isName_53 : decode cX3_isName 53 = .ok (.aload_n 0, 1) := by decide +kernel
theorem dX3_isName_54 : decode cX3_isName 54 = .ok (.ldc 136, 2) := by decide +kernel
theorem dX3_isName_56 : decode cX3_isName 56 = .ok (.invokevirtual 124, 3) := by decide +kernel
theorem dX3_isName_59 : decode cX3_isName 59 = .ok (.ifCond .ne 25, 3) := by decide +kernel
theorem dX3_isName_62 : decode cX3_isName 62 = .ok (.aload_n 0, 1) := by decide +kernel
theorem dX3_isName_63 : decode cX3_isName 63 = .ok (.ldc 138, 2) := by decide +kernel
theorem dX3_isName_65 : decode cX3_isName 65 = .ok (.invokevirtual 124, 3) := by decide +kernel
theorem dX3_isName_68 : decode cX3_isName 68 = .ok (.ifCond .ne 16, 3) := by decide +kernel
theorem dX3_isName_71 : decode cX3_isName 71 = .ok (.aload_n 0, 1) := by decide +kernel
theorem dX3_isName_72 : decode cX3_isName 72 = .ok (.ldc 140, 2) := by decide +kernel
theorem dX3_isName_74 : decode cX3_isName 74 = .ok (.invokevirtual 124, 3) := by decide +kernel
theorem dX3_isName_77 : decode cX3_isName 77 = .ok (.ifCond .ne 7, 3) := by decide +kernel
theorem dX3_isName_80 : decode cX3_isName 80 = .ok (.iconst 1, 1) := by decide +kernel
theorem dX3_isName_81 : decode cX3_isName 81 = .ok (.goto 4, 3) := by decide +kernel
theorem dX3_isName_84 : decode cX3_isName 84 = .ok (.iconst 0, 1) := by decide +kernel
theorem dX3_isName_85 : decode cX3_isName 85 = .ok (.ireturn, 1) := by decide +kernel
theorem dX3_fail_0 : decode cX3_fail 0 = .ok (.aload_n 0, 1) := by decide +kernel
theorem dX3_fail_1 : decode cX3_fail 1 = .ok (.aload_n 0, 1) := by decide +kernel
theorem dX3_fail_2 : decode cX3_fail 2 = .ok (.getfield 74, 3) := by decide +kernel
theorem dX3_fail_5 : decode cX3_fail 5 = .ok (.iconst 4, 1) := by decide +kernel
theorem dX3_fail_6 : decode cX3_fail 6 = .ok (.if_icmp .ne 7, 3) := by decide +kernel
theorem dX3_fail_9 : decode cX3_fail 9 = .ok (.iconst 1, 1) := by decide +kernel
theorem dX3_fail_10 : decode cX3_fail 10 = .ok (.goto 4, 3) := by decide +kernel
theorem dX3_fail_13 : decode cX3_fail 13 = .ok (.iload_n 1, 1) := by decide +kernel
theorem dX3_fail_14 : decode cX3_fail 14 = .ok (.putfield 18, 3) := by decide +kernel
theorem dX3_fail_17 : decode cX3_fail 17 = .ok (.aload_n 0, 1) := by decide +kernel
theorem dX3_fail_18 : decode cX3_fail 18 = .ok (.aload_n 0, 1) := by decide +kernel
theorem dX3_fail_19 : decode cX3_fail 19 = .ok (.getfield 89, 3) := by decide +kernel
theorem dX3_fail_22 : decode cX3_fail 22 = .ok (.putfield 22, 3) := by decide +kernel
theorem dX3_fail_25 : decode cX3_fail 25 = .ok (.iconst 0, 1) := by decide +kernel
theorem dX3_fail_26 : decode cX3_fail 26 = .ok (.ireturn, 1) := by decide +kernel
theorem dX3_readLine_0 : decode cX3_readLine 0 = .ok (.aload_n 0, 1) := by decide +kernel
theorem dX3_readLine_1 : decode cX3_readLine 1 = .ok (.ldc 122, 2) := by decide +kernel
theorem dX3_readLine_3 : decode cX3_readLine 3 = .ok (.invokevirtual 124, 3) := by decide +kernel
theorem dX3_readLine_6 : decode cX3_readLine 6 = .ok (.ifCond .eq 27, 3) := by decide +kernel
theorem dX3_readLine_9 : decode cX3_readLine 9 = .ok (.aload_n 0, 1) := by decide +kernel
theorem dX3_readLine_10 : decode cX3_readLine 10 = .ok (.getfield 12, 3) := by decide +kernel
theorem dX3_readLine_13 : decode cX3_readLine 13 = .ok (.getfield 142, 3) := by decide +kernel
theorem dX3_readLine_16 : decode cX3_readLine 16 = .ok (.iconst 5, 1) := by decide +kernel
theorem dX3_readLine_17 : decode cX3_readLine 17 = .ok (.if_icmp .ge 10, 3) := by decide +kernel
theorem dX3_readLine_20 : decode cX3_readLine 20 = .ok (.aload_n 0, 1) := by decide +kernel
theorem dX3_readLine_21 : decode cX3_readLine 21 = .ok (.invokevirtual 145, 3) := by decide +kernel
theorem dX3_readLine_24 : decode cX3_readLine 24 = .ok (.goto 8, 3) := by decide +kernel
theorem dX3_readLine_27 : decode cX3_readLine 27 = .ok (.aload_n 0, 1) := by decide +kernel
theorem dX3_readLine_28 : decode cX3_readLine 28 = .ok (.iconst 2, 1) := by decide +kernel
theorem dX3_readLine_29 : decode cX3_readLine 29 = .ok (.invokevirtual 148, 3) := by decide +kernel
theorem dX3_readLine_32 : decode cX3_readLine 32 = .ok (.ireturn, 1) := by decide +kernel
theorem dX3_readLine_33 : decode cX3_readLine 33 = .ok (.aload_n 0, 1) := by decide +kernel
theorem dX3_readLine_34 : decode cX3_readLine 34 = .ok (.ldc 128, 2) := by decide +kernel
theorem dX3_readLine_36 : decode cX3_readLine 36 = .ok (.invokevirtual 124, 3) := by decide +kernel
theorem dX3_readLine_39 : decode cX3_readLine 39 = .ok (.ifCond .eq 28, 3) := by decide +kernel
theorem dX3_readLine_42 : decode cX3_readLine 42 = .ok (.aload_n 0, 1) := by decide +kernel
theorem dX3_readLine_43 : decode cX3_readLine 43 = .ok (.getfield 12, 3) := by decide +kernel
theorem dX3_readLine_46 : decode cX3_readLine 46 = .ok (.getfield 151, 3) := by decide +kernel
theorem dX3_readLine_49 : decode cX3_readLine 49 = .ok (.bipush 10, 2) := by decide +kernel
theorem dX3_readLine_51 : decode cX3_readLine 51 = .ok (.if_icmp .ge 10, 3) := by decide +kernel
theorem dX3_readLine_54 : decode cX3_readLine 54 = .ok (.aload_n 0, 1) := by decide +kernel
theorem dX3_readLine_55 : decode cX3_readLine 55 = .ok (.invokevirtual 154, 3) := by decide +kernel
theorem dX3_readLine_58 : decode cX3_readLine 58 = .ok (.goto 8, 3) := by decide +kernel
theorem dX3_readLine_61 : decode cX3_readLine 61 = .ok (.aload_n 0, 1) := by decide +kernel
theorem dX3_readLine_62 : decode cX3_readLine 62 = .ok (.iconst 2, 1) := by decide +kernel
theorem dX3_readLine_63 : decode cX3_readLine 63 = .ok (.invokevirtual 148, 3) := by decide +kernel
theorem dX3_readLine_66 : decode cX3_readLine 66 = .ok (.ireturn, 1) := by decide +kernel
theorem dX3_readLine_67 : decode cX3_readLine 67 = .ok (.aload_n 0, 1) := by decide +kernel
theorem dX3_readLine_68 : decode cX3_readLine 68 = .ok (.ldc 132, 2) := by decide +kernel
theorem dX3_readLine_70 : decode cX3_readLine 70 = .ok (.invokevirtual 124, 3) := by decide +kernel
theorem dX3_readLine_73 : decode cX3_readLine 73 = .ok (.ifCond .eq 27, 3) := by decide +kernel
theorem dX3_readLine_76 : decode cX3_readLine 76 = .ok (.aload_n 0, 1) := by decide +kernel
theorem dX3_readLine_77 : decode cX3_readLine 77 = .ok (.getfield 12, 3) := by decide +kernel
theorem dX3_readLine_80 : decode cX3_readLine 80 = .ok (.getfield 157, 3) := by decide +kernel
theorem dX3_readLine_83 : decode cX3_readLine 83 = .ok (.iconst 4, 1) := by decide +kernel
theorem dX3_readLine_84 : decode cX3_readLine 84 = .ok (.if_icmp .ge 10, 3) := by decide +kernel
theorem dX3_readLine_87 : decode cX3_readLine 87 = .ok (.aload_n 0, 1) := by decide +kernel
theorem dX3_readLine_88 : decode cX3_readLine 88 = .ok (.invokevirtual 160, 3) := by decide +kernel
theorem dX3_readLine_91 : decode cX3_readLine 91 = .ok (.goto 8, 3) := by decide +kernel
theorem dX3_readLine_94 : decode cX3_readLine 94 = .ok (.aload_n 0, 1) := by decide +kernel
theorem dX3_readLine_95 : decode cX3_readLine 95 = .ok (.iconst 2, 1) := by decide +kernel
theorem dX3_readLine_96 : decode cX3_readLine 96 = .ok (.invokevirtual 148, 3) := by decide +kernel
theorem dX3_readLine_99 : decode cX3_readLine 99 = .ok (.ireturn, 1) := by decide +kernel
theorem dX3_readLine_100 : decode cX3_readLine 100 = .ok (.aload_n 0, 1) := by decide +kernel
theorem dX3_readLine_101 : decode cX3_readLine 101 = .ok (.ldc 134, 2) := by decide +kernel
theorem dX3_readLine_103 : decode cX3_readLine 103 = .ok (.invokevirtual 124, 3) := by decide +kernel
theorem dX3_readLine_106 : decode cX3_readLine 106 = .ok (.ifCond .eq 8, 3) := by decide +kernel
theorem dX3_readLine_109 : decode cX3_readLine 109 = .ok (.aload_n 0, 1) := by decide +kernel
theorem dX3_readLine_110 : decode cX3_readLine 110 = .ok (.invokevirtual 163, 3) := by decide +kernel
theorem dX3_readLine_113 : decode cX3_readLine 113 = .ok (.ireturn, 1) := by decide +kernel
theorem dX3_readLine_114 : decode cX3_readLine 114 = .ok (.aload_n 0, 1) := by decide +kernel
theorem dX3_readLine_115 : decode cX3_readLine 115 = .ok (.ldc 136, 2) := by decide +kernel
theorem dX3_readLine_117 : decode cX3_readLine 117 = .ok (.invokevirtual 124, 3) := by decide +kernel
theorem dX3_readLine_120 : decode cX3_readLine 120 = .ok (.ifCond .eq 23, 3) := by decide +kernel
theorem dX3_readLine_123 : decode cX3_readLine 123 = .ok (.aload_n 0, 1) := by decide +kernel
theorem dX3_readLine_124 : decode cX3_readLine 124 = .ok (.getfield 58, 3) := by decide +kernel
theorem dX3_readLine_127 : decode cX3_readLine 127 = .ok (.ifCond .eq 11, 3) := by decide +kernel
theorem dX3_readLine_130 : decode cX3_readLine 130 = .ok (.aload_n 0, 1) := by decide +kernel
theorem dX3_readLine_131 : decode cX3_readLine 131 = .ok (.iconst 2, 1) := by decide +kernel
theorem dX3_readLine_132 : decode cX3_readLine 132 = .ok (.invokevirtual 148, 3) := by decide +kernel
theorem dX3_readLine_135 : decode cX3_readLine 135 = .ok (.goto 7, 3) := by decide +kernel
theorem dX3_readLine_138 : decode cX3_readLine 138 = .ok (.aload_n 0, 1) := by decide +kernel
theorem dX3_readLine_139 : decode cX3_readLine 139 = .ok (.invokevirtual 166, 3) := by decide +kernel
theorem dX3_readLine_142 : decode cX3_readLine 142 = .ok (.ireturn, 1) := by decide +kernel
theorem dX3_readLine_143 : decode cX3_readLine 143 = .ok (.aload_n 0, 1) := by decide +kernel
theorem dX3_readLine_144 : decode cX3_readLine 144 = .ok (.ldc 138, 2) := by decide +kernel
theorem dX3_readLine_146 : decode cX3_readLine 146 = .ok (.invokevirtual 124, 3) := by decide +kernel
theorem dX3_readLine_149 : decode cX3_readLine 149 = .ok (.ifCond .eq 23, 3) := by decide +kernel
theorem dX3_readLine_152 : decode cX3_readLine 152 = .ok (.aload_n 0, 1) := by decide +kernel
theorem dX3_readLine_153 : decode cX3_readLine 153 = .ok (.getfield 62, 3) := by decide +kernel
theorem dX3_readLine_156 : decode cX3_readLine 156 = .ok (.ifCond .eq 11, 3) := by decide +kernel
theorem dX3_readLine_159 : decode cX3_readLine 159 = .ok (.aload_n 0, 1) := by decide +kernel
theorem dX3_readLine_160 : decode cX3_readLine 160 = .ok (.iconst 2, 1) := by decide +kernel
theorem dX3_readLine_161 : decode cX3_readLine 161 = .ok (.invokevirtual 148, 3) := by decide +kernel
theorem dX3_readLine_164 : decode cX3_readLine 164 = .ok (.goto 7, 3) := by decide +kernel
theorem dX3_readLine_167 : decode cX3_readLine 167 = .ok (.aload_n 0, 1) := by decide +kernel
theorem dX3_readLine_168 : decode cX3_readLine 168 = .ok (.invokevirtual 169, 3) := by decide +kernel
theorem dX3_readLine_171 : decode cX3_readLine 171 = .ok (.ireturn, 1) := by decide +kernel
theorem dX3_readLine_172 : decode cX3_readLine 172 = .ok (.aload_n 0, 1) := by decide +kernel
theorem dX3_readLine_173 : decode cX3_readLine 173 = .ok (.ldc 140, 2) := by decide +kernel
theorem dX3_readLine_175 : decode cX3_readLine 175 = .ok (.invokevirtual 124, 3) := by decide +kernel
theorem dX3_readLine_178 : decode cX3_readLine 178 = .ok (.ifCond .eq 23, 3) := by decide +kernel
theorem dX3_readLine_181 : decode cX3_readLine 181 = .ok (.aload_n 0, 1) := by decide +kernel
theorem dX3_readLine_182 : decode cX3_readLine 182 = .ok (.getfield 65, 3) := by decide +kernel
theorem dX3_readLine_185 : decode cX3_readLine 185 = .ok (.ifCond .eq 11, 3) := by decide +kernel
theorem dX3_readLine_188 : decode cX3_readLine 188 = .ok (.aload_n 0, 1) := by decide +kernel
theorem dX3_readLine_189 : decode cX3_readLine 189 = .ok (.iconst 2, 1) := by decide +kernel
theorem dX3_readLine_190 : decode cX3_readLine 190 = .ok (.invokevirtual 148, 3) := by decide +kernel
theorem dX3_readLine_193 : decode cX3_readLine 193 = .ok (.goto 7, 3) := by decide +kernel
theorem dX3_readLine_196 : decode cX3_readLine 196 = .ok (.aload_n 0, 1) := by decide +kernel
theorem dX3_readLine_197 : decode cX3_readLine 197 = .ok (.invokevirtual 172, 3) := by decide +kernel
theorem dX3_readLine_200 : decode cX3_readLine 200 = .ok (.ireturn, 1) := by decide +kernel
theorem dX3_readLine_201 : decode cX3_readLine 201 = .ok (.aload_n 0, 1) := by decide +kernel
theorem dX3_readLine_202 : decode cX3_readLine 202 = .ok (.iconst 2, 1) := by decide +kernel
theorem dX3_readLine_203 : decode cX3_readLine 203 = .ok (.invokevirtual 148, 3) := by decide +kernel
theorem dX3_readLine_206 : decode cX3_readLine 206 = .ok (.ireturn, 1) := by decide +kernel
theorem dX3_readUnit_0 : decode cX3_readUnit 0 = .ok (.aload_n 0, 1) := by decide +kernel
theorem dX3_readUnit_1 : decode cX3_readUnit 1 = .ok (.invokevirtual 71, 3) := by decide +kernel
theorem dX3_readUnit_4 : decode cX3_readUnit 4 = .ok (.aload_n 0, 1) := by decide +kernel
theorem dX3_readUnit_5 : decode cX3_readUnit 5 = .ok (.invokevirtual 175, 3) := by decide +kernel
theorem dX3_readUnit_8 : decode cX3_readUnit 8 = .ok (.ifCond .ne 5, 3) := by decide +kernel
theorem dX3_readUnit_11 : decode cX3_readUnit 11 = .ok (.iconst 0, 1) := by decide +kernel
theorem dX3_readUnit_12 : decode cX3_readUnit 12 = .ok (.ireturn, 1) := by decide +kernel
theorem dX3_readUnit_13 : decode cX3_readUnit 13 = .ok (.aload_n 0, 1) := by decide +kernel
theorem dX3_readUnit_14 : decode cX3_readUnit 14 = .ok (.bipush 20, 2) := by decide +kernel
theorem dX3_readUnit_16 : decode cX3_readUnit 16 = .ok (.invokevirtual 178, 3) := by decide +kernel
theorem dX3_readUnit_19 : decode cX3_readUnit 19 = .ok (.ifCond .eq 10, 3) := by decide +kernel
theorem dX3_readUnit_22 : decode cX3_readUnit 22 = .ok (.aload_n 0, 1) := by decide +kernel
theorem dX3_readUnit_23 : decode cX3_readUnit 23 = .ok (.invokevirtual 181, 3) := by decide +kernel
theorem dX3_readUnit_26 : decode cX3_readUnit 26 = .ok (.ifCond .ne 5, 3) := by decide +kernel
theorem dX3_readUnit_29 : decode cX3_readUnit 29 = .ok (.iconst 0, 1) := by decide +kernel
theorem dX3_readUnit_30 : decode cX3_readUnit 30 = .ok (.ireturn, 1) := by decide +kernel
theorem dX3_readUnit_31 : decode cX3_readUnit 31 = .ok (.aload_n 0, 1) := by decide +kernel
theorem dX3_readUnit_32 : decode cX3_readUnit 32 = .ok (.getfield 29, 3) := by decide +kernel
theorem dX3_readUnit_35 : decode cX3_readUnit 35 = .ok (.aload_n 0, 1) := by decide +kernel
theorem dX3_readUnit_36 : decode cX3_readUnit 36 = .ok (.getfield 12, 3) := by decide +kernel
theorem dX3_readUnit_39 : decode cX3_readUnit 39 = .ok (.getfield 142, 3) := by decide +kernel
theorem dX3_readUnit_42 : decode cX3_readUnit 42 = .ok (.aload_n 0, 1) := by decide +kernel
theorem dX3_readUnit_43 : decode cX3_readUnit 43 = .ok (.getfield 184, 3) := by decide +kernel
theorem dX3_readUnit_46 : decode cX3_readUnit 46 = .ok (.invokestatic 187, 3) := by decide +kernel
theorem dX3_readUnit_49 : decode cX3_readUnit 49 = .ok (.aload_n 0, 1) := by decide +kernel
theorem dX3_readUnit_50 : decode cX3_readUnit 50 = .ok (.getfield 12, 3) := by decide +kernel
theorem dX3_readUnit_53 : decode cX3_readUnit 53 = .ok (.aload_n 0, 1) := by decide +kernel
theorem dX3_readUnit_54 : decode cX3_readUnit 54 = .ok (.getfield 110, 3) := by decide +kernel
theorem dX3_readUnit_57 : decode cX3_readUnit 57 = .ok (.invokevirtual 191, 3) := by decide +kernel
theorem dX3_readUnit_60 : decode cX3_readUnit 60 = .ok (.iconst 1, 1) := by decide +kernel
theorem dX3_readUnit_61 : decode cX3_readUnit 61 = .ok (.ireturn, 1) := by decide +kernel
theorem dX3_readHunter_0 : decode cX3_readHunter 0 = .ok (.aload_n 0, 1) := by decide +kernel
theorem dX3_readHunter_1 : decode cX3_readHunter 1 = .ok (.invokevirtual 71, 3) := by decide +kernel
theorem dX3_readHunter_4 : decode cX3_readHunter 4 = .ok (.aload_n 0, 1) := by decide +kernel
theorem dX3_readHunter_5 : decode cX3_readHunter 5 = .ok (.invokevirtual 175, 3) := by decide +kernel
theorem dX3_readHunter_8 : decode cX3_readHunter 8 = .ok (.ifCond .ne 5, 3) := by decide +kernel
theorem dX3_readHunter_11 : decode cX3_readHunter 11 = .ok (.iconst 0, 1) := by decide +kernel
theorem dX3_readHunter_12 : decode cX3_readHunter 12 = .ok (.ireturn, 1) := by decide +kernel
theorem dX3_readHunter_13 : decode cX3_readHunter 13 = .ok (.aload_n 0, 1) := by decide +kernel
theorem dX3_readHunter_14 : decode cX3_readHunter 14 = .ok (.bipush 20, 2) := by decide +kernel
theorem dX3_readHunter_16 : decode cX3_readHunter 16 = .ok (.invokevirtual 178, 3) := by decide +kernel
theorem dX3_readHunter_19 : decode cX3_readHunter 19 = .ok (.ifCond .ne 5, 3) := by decide +kernel
theorem dX3_readHunter_22 : decode cX3_readHunter 22 = .ok (.iconst 0, 1) := by decide +kernel
theorem dX3_readHunter_23 : decode cX3_readHunter 23 = .ok (.ireturn, 1) := by decide +kernel
theorem dX3_readHunter_24 : decode cX3_readHunter 24 = .ok (.aload_n 0, 1) := by decide +kernel
theorem dX3_readHunter_25 : decode cX3_readHunter 25 = .ok (.ldc 130, 2) := by decide +kernel
theorem dX3_readHunter_27 : decode cX3_readHunter 27 = .ok (.invokevirtual 124, 3) := by decide +kernel
theorem dX3_readHunter_30 : decode cX3_readHunter 30 = .ok (.istore_n 1, 1) := by decide +kernel
theorem dX3_readHunter_31 : decode cX3_readHunter 31 = .ok (.iload_n 1, 1) := by decide +kernel
theorem dX3_readHunter_32 : decode cX3_readHunter 32 = .ok (.ifCond .eq 7, 3) := by decide +kernel
theorem dX3_readHunter_35 : decode cX3_readHunter 35 = .ok (.aload_n 0, 1) := by decide +kernel
theorem dX3_readHunter_36 : decode cX3_readHunter 36 = .ok (.invokevirtual 71, 3) := by decide +kernel
theorem dX3_readHunter_39 : decode cX3_readHunter 39 = .ok (.aload_n 0, 1) := by decide +kernel
theorem dX3_readHunter_40 : decode cX3_readHunter 40 = .ok (.invokevirtual 181, 3) := by decide +kernel
theorem dX3_readHunter_43 : decode cX3_readHunter 43 = .ok (.ifCond .ne 5, 3) := by decide +kernel
theorem dX3_readHunter_46 : decode cX3_readHunter 46 = .ok (.iconst 0, 1) := by decide +kernel
theorem dX3_readHunter_47 : decode cX3_readHunter 47 = .ok (.ireturn, 1) := by decide +kernel
theorem dX3_readHunter_48 : decode cX3_readHunter 48 = .ok (.aload_n 0, 1) := by decide +kernel
theorem dX3_readHunter_49 : decode cX3_readHunter 49 = .ok (.getfield 33, 3) := by decide +kernel
theorem dX3_readHunter_52 : decode cX3_readHunter 52 = .ok (.aload_n 0, 1) := by decide +kernel
theorem dX3_readHunter_53 : decode cX3_readHunter 53 = .ok (.getfield 12, 3) := by decide +kernel
theorem dX3_readHunter_56 : decode cX3_readHunter 56 = .ok (.getfield 151, 3) := by decide +kernel
theorem dX3_readHunter_59 : decode cX3_readHunter 59 = .ok (.aload_n 0, 1) := by decide +kernel
theorem dX3_readHunter_60 : decode cX3_readHunter 60 = .ok (.getfield 184, 3) := by decide +kernel
theorem dX3_readHunter_63 : decode cX3_readHunter 63 = .ok (.invokestatic 187, 3) := by decide +kernel
theorem dX3_readHunter_66 : decode cX3_readHunter 66 = .ok (.aload_n 0, 1) := by decide +kernel
theorem dX3_readHunter_67 : decode cX3_readHunter 67 = .ok (.getfield 12, 3) := by decide +kernel
theorem dX3_readHunter_70 : decode cX3_readHunter 70 = .ok (.aload_n 0, 1) := by decide +kernel
theorem dX3_readHunter_71 : decode cX3_readHunter 71 = .ok (.getfield 110, 3) := by decide +kernel
theorem dX3_readHunter_74 : decode cX3_readHunter 74 = .ok (.iload_n 1, 1) := by decide +kernel
theorem dX3_readHunter_75 : decode cX3_readHunter 75 = .ok (.invokevirtual 195, 3) := by decide +kernel
theorem dX3_readHunter_78 : decode cX3_readHunter 78 = .ok (.iconst 1, 1) := by decide +kernel
theorem dX3_readHunter_79 : decode cX3_readHunter 79 = .ok (.ireturn, 1) := by decide +kernel
theorem dX3_readParty_0 : decode cX3_readParty 0 = .ok (.aload_n 0, 1) := by decide +kernel
theorem dX3_readParty_1 : decode cX3_readParty 1 = .ok (.invokevirtual 71, 3) := by decide +kernel
theorem dX3_readParty_4 : decode cX3_readParty 4 = .ok (.aload_n 0, 1) := by decide +kernel
theorem dX3_readParty_5 : decode cX3_readParty 5 = .ok (.invokevirtual 175, 3) := by decide +kernel
theorem dX3_readParty_8 : decode cX3_readParty 8 = .ok (.ifCond .ne 5, 3) := by decide +kernel
theorem dX3_readParty_11 : decode cX3_readParty 11 = .ok (.iconst 0, 1) := by decide +kernel
theorem dX3_readParty_12 : decode cX3_readParty 12 = .ok (.ireturn, 1) := by decide +kernel
theorem dX3_readParty_13 : decode cX3_readParty 13 = .ok (.iconst 0, 1) := by decide +kernel
theorem dX3_readParty_14 : decode cX3_readParty 14 = .ok (.istore_n 1, 1) := by decide +kernel
theorem dX3_readParty_15 : decode cX3_readParty 15 = .ok (.iconst 0, 1) := by decide +kernel
theorem dX3_readParty_16 : decode cX3_readParty 16 = .ok (.istore_n 2, 1) := by decide +kernel
theorem dX3_readParty_17 : decode cX3_readParty 17 = .ok (.iload_n 2, 1) := by decide +kernel
theorem dX3_readParty_18 : decode cX3_readParty 18 = .ok (.iconst 4, 1) := by decide +kernel
theorem dX3_readParty_19 : decode cX3_readParty 19 = .ok (.if_icmp .ge 87, 3) := by decide +kernel
theorem dX3_readParty_22 : decode cX3_readParty 22 = .ok (.iload_n 2, 1) := by decide +kernel
theorem dX3_readParty_23 : decode cX3_readParty 23 = .ok (.iconst 2, 1) := by decide +kernel
theorem dX3_readParty_24 : decode cX3_readParty 24 = .ok (.if_icmp .lt 11, 3) := by decide +kernel
theorem dX3_readParty_27 : decode cX3_readParty 27 = .ok (.aload_n 0, 1) := by decide +kernel
theorem dX3_readParty_28 : decode cX3_readParty 28 = .ok (.getfield 74, 3) := by decide +kernel
theorem dX3_readParty_31 : decode cX3_readParty 31 = .ok (.iconst 3, 1) := by decide +kernel
theorem dX3_readParty_32 : decode cX3_readParty 32 = .ok (.if_icmp .eq 74, 3) := by decide +kernel
theorem dX3_readParty_35 : decode cX3_readParty 35 = .ok (.aload_n 0, 1) := by decide +kernel
theorem dX3_readParty_36 : decode cX3_readParty 36 = .ok (.invokevirtual 199, 3) := by decide +kernel
theorem dX3_readParty_39 : decode cX3_readParty 39 = .ok (.ifCond .ne 9, 3) := by decide +kernel
theorem dX3_readParty_42 : decode cX3_readParty 42 = .ok (.aload_n 0, 1) := by decide +kernel
theorem dX3_readParty_43 : decode cX3_readParty 43 = .ok (.iconst 2, 1) := by decide +kernel
theorem dX3_readParty_44 : decode cX3_readParty 44 = .ok (.invokevirtual 148, 3) := by decide +kernel
theorem dX3_readParty_47 : decode cX3_readParty 47 = .ok (.ireturn, 1) := by decide +kernel
theorem dX3_readParty_48 : decode cX3_readParty 48 = .ok (.aload_n 0, 1) := by decide +kernel
theorem dX3_readParty_49 : decode cX3_readParty 49 = .ok (.getfield 33, 3) := by decide +kernel
theorem dX3_readParty_52 : decode cX3_readParty 52 = .ok (.aload_n 0, 1) := by decide +kernel
theorem dX3_readParty_53 : decode cX3_readParty 53 = .ok (.getfield 12, 3) := by decide +kernel
theorem dX3_readParty_56 : decode cX3_readParty 56 = .ok (.getfield 151, 3) := by decide +kernel
theorem dX3_readParty_59 : decode cX3_readParty 59 = .ok (.aload_n 0, 1) := by decide +kernel
theorem dX3_readParty_60 : decode cX3_readParty 60 = .ok (.getfield 104, 3) := by decide +kernel
theorem dX3_readParty_63 : decode cX3_readParty 63 = .ok (.invokestatic 202, 3) := by decide +kernel
theorem dX3_readParty_66 : decode cX3_readParty 66 = .ok (.istore_n 3, 1) := by decide +kernel
theorem dX3_readParty_67 : decode cX3_readParty 67 = .ok (.aload_n 0, 1) := by decide +kernel
theorem dX3_readParty_68 : decode cX3_readParty 68 = .ok (.iload_n 3, 1) := by decide +kernel
theorem dX3_readParty_69 : decode cX3_readParty 69 = .ok (.invokevirtual 206, 3) := by decide +kernel
theorem dX3_readParty_72 : decode cX3_readParty 72 = .ok (.ifCond .eq 12, 3) := by decide +kernel
theorem dX3_readParty_75 : decode cX3_readParty 75 = .ok (.iload_n 1, 1) := by decide +kernel
theorem dX3_readParty_76 : decode cX3_readParty 76 = .ok (.iload_n 3, 1) := by decide +kernel
theorem dX3_readParty_77 : decode cX3_readParty 77 = .ok (.ishr, 1) := by decide +kernel
theorem dX3_readParty_78 : decode cX3_readParty 78 = .ok (.iconst 1, 1) := by decide +kernel
theorem dX3_readParty_79 : decode cX3_readParty 79 = .ok (.iand, 1) := by decide +kernel
theorem dX3_readParty_80 : decode cX3_readParty 80 = .ok (.iconst 1, 1) := by decide +kernel
theorem dX3_readParty_81 : decode cX3_readParty 81 = .ok (.if_icmp .ne 9, 3) := by decide +kernel
theorem dX3_readParty_84 : decode cX3_readParty 84 = .ok (.aload_n 0, 1) := by decide +kernel
theorem dX3_readParty_85 : decode cX3_readParty 85 = .ok (.iconst 4, 1) := by decide +kernel
theorem dX3_readParty_86 : decode cX3_readParty 86 = .ok (.invokevirtual 148, 3) := by decide +kernel
theorem dX3_readParty_89 : decode cX3_readParty 89 = .ok (.ireturn, 1) := by decide +kernel
theorem dX3_readParty_90 : decode cX3_readParty 90 = .ok (.iload_n 1, 1) := by decide +kernel
theorem dX3_readParty_91 : decode cX3_readParty 91 = .ok (.iconst 1, 1) := by decide +kernel
theorem dX3_readParty_92 : decode cX3_readParty 92 = .ok (.iload_n 3, 1) := by decide +kernel
theorem dX3_readParty_93 : decode cX3_readParty 93 = .ok (.ishl, 1) := by decide +kernel
theorem dX3_readParty_94 : decode cX3_readParty 94 = .ok (.ior, 1) := by decide +kernel
theorem dX3_readParty_95 : decode cX3_readParty 95 = .ok (.istore_n 1, 1) := by decide +kernel
theorem dX3_readParty_96 : decode cX3_readParty 96 = .ok (.aload_n 0, 1) := by decide +kernel
theorem dX3_readParty_97 : decode cX3_readParty 97 = .ok (.invokevirtual 71, 3) := by decide +kernel
theorem dX3_readParty_100 : decode cX3_readParty 100 = .ok (.iinc 2 1, 3) := by decide +kernel
theorem dX3_readParty_103 : decode cX3_readParty 103 = .ok (.goto (-86), 3) := by decide +kernel
theorem dX3_readParty_106 : decode cX3_readParty 106 = .ok (.aload_n 0, 1) := by decide +kernel
theorem dX3_readParty_107 : decode cX3_readParty 107 = .ok (.invokevirtual 181, 3) := by decide +kernel
theorem dX3_readParty_110 : decode cX3_readParty 110 = .ok (.ifCond .ne 5, 3) := by decide +kernel
theorem dX3_readParty_113 : decode cX3_readParty 113 = .ok (.iconst 0, 1) := by decide +kernel
theorem dX3_readParty_114 : decode cX3_readParty 114 = .ok (.ireturn, 1) := by decide +kernel
theorem dX3_readParty_115 : decode cX3_readParty 115 = .ok (.aload_n 0, 1) := by decide +kernel
theorem dX3_readParty_116 : decode cX3_readParty 116 = .ok (.getfield 36, 3) := by decide +kernel
theorem dX3_readParty_119 : decode cX3_readParty 119 = .ok (.aload_n 0, 1) := by decide +kernel
theorem dX3_readParty_120 : decode cX3_readParty 120 = .ok (.getfield 12, 3) := by decide +kernel
theorem dX3_readParty_123 : decode cX3_readParty 123 = .ok (.getfield 157, 3) := by decide +kernel
theorem dX3_readParty_126 : decode cX3_readParty 126 = .ok (.aload_n 0, 1) := by decide +kernel
theorem dX3_readParty_127 : decode cX3_readParty 127 = .ok (.getfield 184, 3) := by decide +kernel
theorem dX3_readParty_130 : decode cX3_readParty 130 = .ok (.invokestatic 187, 3) := by decide +kernel
theorem dX3_readParty_133 : decode cX3_readParty 133 = .ok (.aload_n 0, 1) := by decide +kernel
theorem dX3_readParty_134 : decode cX3_readParty 134 = .ok (.getfield 12, 3) := by decide +kernel
theorem dX3_readParty_137 : decode cX3_readParty 137 = .ok (.iload_n 1, 1) := by decide +kernel
theorem dX3_readParty_138 : decode cX3_readParty 138 = .ok (.invokevirtual 209, 3) := by decide +kernel
theorem dX3_readParty_141 : decode cX3_readParty 141 = .ok (.iconst 1, 1) := by decide +kernel
theorem dX3_readParty_142 : decode cX3_readParty 142 = .ok (.ireturn, 1) := by decide +kernel
theorem dX3_readAsks_0 : decode cX3_readAsks 0 = .ok (.aload_n 0, 1) := by decide +kernel
theorem dX3_readAsks_1 : decode cX3_readAsks 1 = .ok (.invokevirtual 71, 3) := by decide +kernel
theorem dX3_readAsks_4 : decode cX3_readAsks 4 = .ok (.aload_n 0, 1) := by decide +kernel
theorem dX3_readAsks_5 : decode cX3_readAsks 5 = .ok (.invokevirtual 199, 3) := by decide +kernel
theorem dX3_readAsks_8 : decode cX3_readAsks 8 = .ok (.ifCond .ne 9, 3) := by decide +kernel
theorem dX3_readAsks_11 : decode cX3_readAsks 11 = .ok (.aload_n 0, 1) := by decide +kernel
theorem dX3_readAsks_12 : decode cX3_readAsks 12 = .ok (.iconst 2, 1) := by decide +kernel
theorem dX3_readAsks_13 : decode cX3_readAsks 13 = .ok (.invokevirtual 148, 3) := by decide +kernel
theorem dX3_readAsks_16 : decode cX3_readAsks 16 = .ok (.ireturn, 1) := by decide +kernel
theorem dX3_readAsks_17 : decode cX3_readAsks 17 = .ok (.aload_n 0, 1) := by decide +kernel
theorem dX3_readAsks_18 : decode cX3_readAsks 18 = .ok (.invokevirtual 212, 3) := by decide +kernel
theorem dX3_readAsks_21 : decode cX3_readAsks 21 = .ok (.istore_n 1, 1) := by decide +kernel
theorem dX3_readAsks_22 : decode cX3_readAsks 22 = .ok (.iload_n 1, 1) := by decide +kernel
theorem dX3_readAsks_23 : decode cX3_readAsks 23 = .ok (.ifCond .ne 9, 3) := by decide +kernel
theorem dX3_readAsks_26 : decode cX3_readAsks 26 = .ok (.aload_n 0, 1) := by decide +kernel
theorem dX3_readAsks_27 : decode cX3_readAsks 27 = .ok (.iconst 4, 1) := by decide +kernel
theorem dX3_readAsks_28 : decode cX3_readAsks 28 = .ok (.invokevirtual 148, 3) := by decide +kernel
theorem dX3_readAsks_31 : decode cX3_readAsks 31 = .ok (.ireturn, 1) := by decide +kernel
theorem dX3_readAsks_32 : decode cX3_readAsks 32 = .ok (.aload_n 0, 1) := by decide +kernel
theorem dX3_readAsks_33 : decode cX3_readAsks 33 = .ok (.invokevirtual 71, 3) := by decide +kernel
theorem dX3_readAsks_36 : decode cX3_readAsks 36 = .ok (.aload_n 0, 1) := by decide +kernel
theorem dX3_readAsks_37 : decode cX3_readAsks 37 = .ok (.getfield 39, 3) := by decide +kernel
theorem dX3_readAsks_40 : decode cX3_readAsks 40 = .ok (.iconst (-1), 1) := by decide +kernel
theorem dX3_readAsks_41 : decode cX3_readAsks 41 = .ok (.invokestatic 215, 3) := by decide +kernel
theorem dX3_readAsks_44 : decode cX3_readAsks 44 = .ok (.iconst 0, 1) := by decide +kernel
theorem dX3_readAsks_45 : decode cX3_readAsks 45 = .ok (.istore_n 2, 1) := by decide +kernel
theorem dX3_readAsks_46 : decode cX3_readAsks 46 = .ok (.iload_n 2, 1) := by decide +kernel
theorem dX3_readAsks_47 : decode cX3_readAsks 47 = .ok (.iconst 3, 1) := by decide +kernel
theorem dX3_readAsks_48 : decode cX3_readAsks 48 = .ok (.if_icmp .ge 102, 3) := by decide +kernel
theorem dX3_readAsks_51 : decode cX3_readAsks 51 = .ok (.iload_n 2, 1) := by decide +kernel
theorem dX3_readAsks_52 : decode cX3_readAsks 52 = .ok (.iconst 1, 1) := by decide +kernel
theorem dX3_readAsks_53 : decode cX3_readAsks 53 = .ok (.if_icmp .lt 11, 3) := by decide +kernel
theorem dX3_readAsks_56 : decode cX3_readAsks 56 = .ok (.aload_n 0, 1) := by decide +kernel
theorem dX3_readAsks_57 : decode cX3_readAsks 57 = .ok (.getfield 74, 3) := by decide +kernel
theorem dX3_readAsks_60 : decode cX3_readAsks 60 = .ok (.iconst 3, 1) := by decide +kernel
theorem dX3_readAsks_61 : decode cX3_readAsks 61 = .ok (.if_icmp .eq 89, 3) := by decide +kernel
theorem dX3_readAsks_64 : decode cX3_readAsks 64 = .ok (.aload_n 0, 1) := by decide +kernel
theorem dX3_readAsks_65 : decode cX3_readAsks 65 = .ok (.invokevirtual 199, 3) := by decide +kernel
theorem dX3_readAsks_68 : decode cX3_readAsks 68 = .ok (.ifCond .ne 9, 3) := by decide +kernel
theorem dX3_readAsks_71 : decode cX3_readAsks 71 = .ok (.aload_n 0, 1) := by decide +kernel
theorem dX3_readAsks_72 : decode cX3_readAsks 72 = .ok (.iconst 2, 1) := by decide +kernel
theorem dX3_readAsks_73 : decode cX3_readAsks 73 = .ok (.invokevirtual 148, 3) := by decide +kernel
theorem dX3_readAsks_76 : decode cX3_readAsks 76 = .ok (.ireturn, 1) := by decide +kernel
theorem dX3_readAsks_77 : decode cX3_readAsks 77 = .ok (.aload_n 0, 1) := by decide +kernel
theorem dX3_readAsks_78 : decode cX3_readAsks 78 = .ok (.getfield 29, 3) := by decide +kernel
theorem dX3_readAsks_81 : decode cX3_readAsks 81 = .ok (.aload_n 0, 1) := by decide +kernel
theorem dX3_readAsks_82 : decode cX3_readAsks 82 = .ok (.getfield 12, 3) := by decide +kernel
theorem dX3_readAsks_85 : decode cX3_readAsks 85 = .ok (.getfield 142, 3) := by decide +kernel
theorem dX3_readAsks_88 : decode cX3_readAsks 88 = .ok (.aload_n 0, 1) := by decide +kernel
theorem dX3_readAsks_89 : decode cX3_readAsks 89 = .ok (.getfield 104, 3) := by decide +kernel
theorem dX3_readAsks_92 : decode cX3_readAsks 92 = .ok (.invokestatic 202, 3) := by decide +kernel
theorem dX3_readAsks_95 : decode cX3_readAsks 95 = .ok (.istore_n 3, 1) := by decide +kernel
theorem dX3_readAsks_96 : decode cX3_readAsks 96 = .ok (.iload_n 3, 1) := by decide +kernel
theorem dX3_readAsks_97 : decode cX3_readAsks 97 = .ok (.iconst (-1), 1) := by decide +kernel
theorem dX3_readAsks_98 : decode cX3_readAsks 98 = .ok (.if_icmp .eq 27, 3) := by decide +kernel
theorem dX3_readAsks_101 : decode cX3_readAsks 101 = .ok (.aload_n 0, 1) := by decide +kernel
theorem dX3_readAsks_102 : decode cX3_readAsks 102 = .ok (.getfield 39, 3) := by decide +kernel
theorem dX3_readAsks_105 : decode cX3_readAsks 105 = .ok (.iconst 0, 1) := by decide +kernel
theorem dX3_readAsks_106 : decode cX3_readAsks 106 = .ok (.invokestatic 81, 3) := by decide +kernel
theorem dX3_readAsks_109 : decode cX3_readAsks 109 = .ok (.iload_n 3, 1) := by decide +kernel
theorem dX3_readAsks_110 : decode cX3_readAsks 110 = .ok (.if_icmp .eq 15, 3) := by decide +kernel
theorem dX3_readAsks_113 : decode cX3_readAsks 113 = .ok (.aload_n 0, 1) := by decide +kernel
theorem dX3_readAsks_114 : decode cX3_readAsks 114 = .ok (.getfield 39, 3) := by decide +kernel
theorem dX3_readAsks_117 : decode cX3_readAsks 117 = .ok (.iconst 1, 1) := by decide +kernel
theorem dX3_readAsks_118 : decode cX3_readAsks 118 = .ok (.invokestatic 81, 3) := by decide +kernel
theorem dX3_readAsks_121 : decode cX3_readAsks 121 = .ok (.iload_n 3, 1) := by decide +kernel
theorem dX3_readAsks_122 : decode cX3_readAsks 122 = .ok (.if_icmp .ne 9, 3) := by decide +kernel
theorem dX3_readAsks_125 : decode cX3_readAsks 125 = .ok (.aload_n 0, 1) := by decide +kernel
theorem dX3_readAsks_126 : decode cX3_readAsks 126 = .ok (.iconst 4, 1) := by decide +kernel
theorem dX3_readAsks_127 : decode cX3_readAsks 127 = .ok (.invokevirtual 148, 3) := by decide +kernel
theorem dX3_readAsks_130 : decode cX3_readAsks 130 = .ok (.ireturn, 1) := by decide +kernel
theorem dX3_readAsks_131 : decode cX3_readAsks 131 = .ok (.aload_n 0, 1) := by decide +kernel
theorem dX3_readAsks_132 : decode cX3_readAsks 132 = .ok (.getfield 39, 3) := by decide +kernel
theorem dX3_readAsks_135 : decode cX3_readAsks 135 = .ok (.iload_n 2, 1) := by decide +kernel
theorem dX3_readAsks_136 : decode cX3_readAsks 136 = .ok (.iload_n 3, 1) := by decide +kernel
theorem dX3_readAsks_137 : decode cX3_readAsks 137 = .ok (.invokestatic 219, 3) := by decide +kernel
theorem dX3_readAsks_140 : decode cX3_readAsks 140 = .ok (.aload_n 0, 1) := by decide +kernel
theorem dX3_readAsks_141 : decode cX3_readAsks 141 = .ok (.invokevirtual 71, 3) := by decide +kernel
theorem dX3_readAsks_144 : decode cX3_readAsks 144 = .ok (.iinc 2 1, 3) := by decide +kernel
theorem dX3_readAsks_147 : decode cX3_readAsks 147 = .ok (.goto (-101), 3) := by decide +kernel
theorem dX3_readAsks_150 : decode cX3_readAsks 150 = .ok (.aload_n 0, 1) := by decide +kernel
theorem dX3_readAsks_151 : decode cX3_readAsks 151 = .ok (.invokevirtual 181, 3) := by decide +kernel
theorem dX3_readAsks_154 : decode cX3_readAsks 154 = .ok (.ifCond .ne 5, 3) := by decide +kernel
theorem dX3_readAsks_157 : decode cX3_readAsks 157 = .ok (.iconst 0, 1) := by decide +kernel
theorem dX3_readAsks_158 : decode cX3_readAsks 158 = .ok (.ireturn, 1) := by decide +kernel
theorem dX3_readAsks_159 : decode cX3_readAsks 159 = .ok (.aload_n 0, 1) := by decide +kernel
theorem dX3_readAsks_160 : decode cX3_readAsks 160 = .ok (.getfield 12, 3) := by decide +kernel
theorem dX3_readAsks_163 : decode cX3_readAsks 163 = .ok (.iload_n 1, 1) := by decide +kernel
theorem dX3_readAsks_164 : decode cX3_readAsks 164 = .ok (.aload_n 0, 1) := by decide +kernel
theorem dX3_readAsks_165 : decode cX3_readAsks 165 = .ok (.getfield 39, 3) := by decide +kernel
theorem dX3_readAsks_168 : decode cX3_readAsks 168 = .ok (.iconst 0, 1) := by decide +kernel
theorem dX3_readAsks_169 : decode cX3_readAsks 169 = .ok (.invokestatic 81, 3) := by decide +kernel
theorem dX3_readAsks_172 : decode cX3_readAsks 172 = .ok (.aload_n 0, 1) := by decide +kernel
theorem dX3_readAsks_173 : decode cX3_readAsks 173 = .ok (.getfield 39, 3) := by decide +kernel
theorem dX3_readAsks_176 : decode cX3_readAsks 176 = .ok (.iconst 1, 1) := by decide +kernel
theorem dX3_readAsks_177 : decode cX3_readAsks 177 = .ok (.invokestatic 81, 3) := by decide +kernel
theorem dX3_readAsks_180 : decode cX3_readAsks 180 = .ok (.aload_n 0, 1) := by decide +kernel
theorem dX3_readAsks_181 : decode cX3_readAsks 181 = .ok (.getfield 39, 3) := by decide +kernel
theorem dX3_readAsks_184 : decode cX3_readAsks 184 = .ok (.iconst 2, 1) := by decide +kernel
theorem dX3_readAsks_185 : decode cX3_readAsks 185 = .ok (.invokestatic 81, 3) := by decide +kernel
theorem dX3_readAsks_188 : decode cX3_readAsks 188 = .ok (.invokevirtual 223, 3) := by decide +kernel
theorem dX3_readAsks_191 : decode cX3_readAsks 191 = .ok (.iconst 1, 1) := by decide +kernel
theorem dX3_readAsks_192 : decode cX3_readAsks 192 = .ok (.ireturn, 1) := by decide +kernel
theorem dX3_readLaw_0 : decode cX3_readLaw 0 = .ok (.aload_n 0, 1) := by decide +kernel
theorem dX3_readLaw_1 : decode cX3_readLaw 1 = .ok (.invokevirtual 71, 3) := by decide +kernel
theorem dX3_readLaw_4 : decode cX3_readLaw 4 = .ok (.aload_n 0, 1) := by decide +kernel
theorem dX3_readLaw_5 : decode cX3_readLaw 5 = .ok (.ldc 227, 2) := by decide +kernel
theorem dX3_readLaw_7 : decode cX3_readLaw 7 = .ok (.invokevirtual 124, 3) := by decide +kernel
theorem dX3_readLaw_10 : decode cX3_readLaw 10 = .ok (.ifCond .eq 14, 3) := by decide +kernel
theorem dX3_readLaw_13 : decode cX3_readLaw 13 = .ok (.aload_n 0, 1) := by decide +kernel
theorem dX3_readLaw_14 : decode cX3_readLaw 14 = .ok (.getfield 12, 3) := by decide +kernel
theorem dX3_readLaw_17 : decode cX3_readLaw 17 = .ok (.iconst 1, 1) := by decide +kernel
theorem dX3_readLaw_18 : decode cX3_readLaw 18 = .ok (.putfield 229, 3) := by decide +kernel
theorem dX3_readLaw_21 : decode cX3_readLaw 21 = .ok (.goto 38, 3) := by decide +kernel
theorem dX3_readLaw_24 : decode cX3_readLaw 24 = .ok (.aload_n 0, 1) := by decide +kernel
theorem dX3_readLaw_25 : decode cX3_readLaw 25 = .ok (.ldc 232, 2) := by decide +kernel
theorem dX3_readLaw_27 : decode cX3_readLaw 27 = .ok (.invokevirtual 124, 3) := by decide +kernel
theorem dX3_readLaw_30 : decode cX3_readLaw 30 = .ok (.ifCond .eq 14, 3) := by decide +kernel
theorem dX3_readLaw_33 : decode cX3_readLaw 33 = .ok (.aload_n 0, 1) := by decide +kernel
theorem dX3_readLaw_34 : decode cX3_readLaw 34 = .ok (.getfield 12, 3) := by decide +kernel
theorem dX3_readLaw_37 : decode cX3_readLaw 37 = .ok (.iconst 2, 1) := by decide +kernel
theorem dX3_readLaw_38 : decode cX3_readLaw 38 = .ok (.putfield 229, 3) := by decide +kernel
theorem dX3_readLaw_41 : decode cX3_readLaw 41 = .ok (.goto 18, 3) := by decide +kernel
theorem dX3_readLaw_44 : decode cX3_readLaw 44 = .ok (.aload_n 0, 1) := by decide +kernel
theorem dX3_readLaw_45 : decode cX3_readLaw 45 = .ok (.ldc 234, 2) := by decide +kernel
theorem dX3_readLaw_47 : decode cX3_readLaw 47 = .ok (.invokevirtual 124, 3) := by decide +kernel
theorem dX3_readLaw_50 : decode cX3_readLaw 50 = .ok (.ifCond .ne 9, 3) := by decide +kernel
theorem dX3_readLaw_53 : decode cX3_readLaw 53 = .ok (.aload_n 0, 1) := by decide +kernel
theorem dX3_readLaw_54 : decode cX3_readLaw 54 = .ok (.iconst 2, 1) := by decide +kernel
theorem dX3_readLaw_55 : decode cX3_readLaw 55 = .ok (.invokevirtual 148, 3) := by decide +kernel
theorem dX3_readLaw_58 : decode cX3_readLaw 58 = .ok (.ireturn, 1) := by decide +kernel
theorem dX3_readLaw_59 : decode cX3_readLaw 59 = .ok (.aload_n 0, 1) := by decide +kernel
theorem dX3_readLaw_60 : decode cX3_readLaw 60 = .ok (.iconst 1, 1) := by decide +kernel
theorem dX3_readLaw_61 : decode cX3_readLaw 61 = .ok (.putfield 58, 3) := by decide +kernel
theorem dX3_readLaw_64 : decode cX3_readLaw 64 = .ok (.aload_n 0, 1) := by decide +kernel
theorem dX3_readLaw_65 : decode cX3_readLaw 65 = .ok (.invokevirtual 71, 3) := by decide +kernel
theorem dX3_readLaw_68 : decode cX3_readLaw 68 = .ok (.aload_n 0, 1) := by decide +kernel
theorem dX3_readLaw_69 : decode cX3_readLaw 69 = .ok (.invokevirtual 181, 3) := by decide +kernel
theorem dX3_readLaw_72 : decode cX3_readLaw 72 = .ok (.ireturn, 1) := by decide +kernel
theorem dX3_readPrefer_0 : decode cX3_readPrefer 0 = .ok (.aload_n 0, 1) := by decide +kernel
theorem dX3_readPrefer_1 : decode cX3_readPrefer 1 = .ok (.invokevirtual 71, 3) := by decide +kernel
theorem dX3_readPrefer_4 : decode cX3_readPrefer 4 = .ok (.aload_n 0, 1) := by decide +kernel
theorem dX3_readPrefer_5 : decode cX3_readPrefer 5 = .ok (.bipush 100, 2) := by decide +kernel
theorem dX3_readPrefer_7 : decode cX3_readPrefer 7 = .ok (.invokevirtual 178, 3) := by decide +kernel
theorem dX3_readPrefer_10 : decode cX3_readPrefer 10 = .ok (.ifCond .ne 5, 3) := by decide +kernel
theorem dX3_readPrefer_13 : decode cX3_readPrefer 13 = .ok (.iconst 0, 1) := by decide +kernel
theorem dX3_readPrefer_14 : decode cX3_readPrefer 14 = .ok (.ireturn, 1) := by decide +kernel
theorem dX3_readPrefer_15 : decode cX3_readPrefer 15 = .ok (.aload_n 0, 1) := by decide +kernel
theorem dX3_readPrefer_16 : decode cX3_readPrefer 16 = .ok (.iconst 1, 1) := by decide +kernel
theorem dX3_readPrefer_17 : decode cX3_readPrefer 17 = .ok (.putfield 62, 3) := by decide +kernel
theorem dX3_readPrefer_20 : decode cX3_readPrefer 20 = .ok (.aload_n 0, 1) := by decide +kernel
theorem dX3_readPrefer_21 : decode cX3_readPrefer 21 = .ok (.getfield 12, 3) := by decide +kernel
theorem dX3_readPrefer_24 : decode cX3_readPrefer 24 = .ok (.aload_n 0, 1) := by decide +kernel
theorem dX3_readPrefer_25 : decode cX3_readPrefer 25 = .ok (.getfield 110, 3) := by decide +kernel
theorem dX3_readPrefer_28 : decode cX3_readPrefer 28 = .ok (.putfield 236, 3) := by decide +kernel
theorem dX3_readPrefer_31 : decode cX3_readPrefer 31 = .ok (.aload_n 0, 1) := by decide +kernel
theorem dX3_readPrefer_32 : decode cX3_readPrefer 32 = .ok (.invokevirtual 181, 3) := by decide +kernel
theorem dX3_readPrefer_35 : decode cX3_readPrefer 35 = .ok (.ireturn, 1) := by decide +kernel
theorem dX3_readGuests_0 : decode cX3_readGuests 0 = .ok (.aload_n 0, 1) := by decide +kernel
theorem dX3_readGuests_1 : decode cX3_readGuests 1 = .ok (.invokevirtual 71, 3) := by decide +kernel
theorem dX3_readGuests_4 : decode cX3_readGuests 4 = .ok (.aload_n 0, 1) := by decide +kernel
theorem dX3_readGuests_5 : decode cX3_readGuests 5 = .ok (.bipush 100, 2) := by decide +kernel
theorem dX3_readGuests_7 : decode cX3_readGuests 7 = .ok (.invokevirtual 178, 3) := by decide +kernel
theorem dX3_readGuests_10 : decode cX3_readGuests 10 = .ok (.ifCond .ne 5, 3) := by decide +kernel
theorem dX3_readGuests_13 : decode cX3_readGuests 13 = .ok (.iconst 0, 1) := by decide +kernel
theorem dX3_readGuests_14 : decode cX3_readGuests 14 = .ok (.ireturn, 1) := by decide +kernel
theorem dX3_readGuests_15 : decode cX3_readGuests 15 = .ok (.aload_n 0, 1) := by decide +kernel
theorem dX3_readGuests_16 : decode cX3_readGuests 16 = .ok (.iconst 1, 1) := by decide +kernel
theorem dX3_readGuests_17 : decode cX3_readGuests 17 = .ok (.putfield 65, 3) := by decide +kernel
theorem dX3_readGuests_20 : decode cX3_readGuests 20 = .ok (.aload_n 0, 1) := by decide +kernel
theorem dX3_readGuests_21 : decode cX3_readGuests 21 = .ok (.getfield 12, 3) := by decide +kernel
theorem dX3_readGuests_24 : decode cX3_readGuests 24 = .ok (.aload_n 0, 1) := by decide +kernel
theorem dX3_readGuests_25 : decode cX3_readGuests 25 = .ok (.getfield 110, 3) := by decide +kernel
theorem dX3_readGuests_28 : decode cX3_readGuests 28 = .ok (.putfield 239, 3) := by decide +kernel
theorem dX3_readGuests_31 : decode cX3_readGuests 31 = .ok (.aload_n 0, 1) := by decide +kernel
theorem dX3_readGuests_32 : decode cX3_readGuests 32 = .ok (.invokevirtual 181, 3) := by decide +kernel
theorem dX3_readGuests_35 : decode cX3_readGuests 35 = .ok (.ireturn, 1) := by decide +kernel
theorem dX3_readNewName_0 : decode cX3_readNewName 0 = .ok (.aload_n 0, 1) := by decide +kernel
theorem dX3_readNewName_1 : decode cX3_readNewName 1 = .ok (.invokevirtual 199, 3) := by decide +kernel
theorem dX3_readNewName_4 : decode cX3_readNewName 4 = .ok (.ifCond .ne 9, 3) := by decide +kernel
theorem dX3_readNewName_7 : decode cX3_readNewName 7 = .ok (.aload_n 0, 1) := by decide +kernel
theorem dX3_readNewName_8 : decode cX3_readNewName 8 = .ok (.iconst 2, 1) := by decide +kernel
theorem dX3_readNewName_9 : decode cX3_readNewName 9 = .ok (.invokevirtual 148, 3) := by decide +kernel
theorem dX3_readNewName_12 : decode cX3_readNewName 12 = .ok (.ireturn, 1) := by decide +kernel
theorem dX3_readNewName_13 : decode cX3_readNewName 13 = .ok (.aload_n 0, 1) := by decide +kernel
theorem dX3_readNewName_14 : decode cX3_readNewName 14 = .ok (.aload_n 0, 1) := by decide +kernel
theorem dX3_readNewName_15 : decode cX3_readNewName 15 = .ok (.getfield 104, 3) := by decide +kernel
theorem dX3_readNewName_18 : decode cX3_readNewName 18 = .ok (.invokevirtual 242, 3) := by decide +kernel
theorem dX3_readNewName_21 : decode cX3_readNewName 21 = .ok (.ifCond .eq 9, 3) := by decide +kernel
theorem dX3_readNewName_24 : decode cX3_readNewName 24 = .ok (.aload_n 0, 1) := by decide +kernel
theorem dX3_readNewName_25 : decode cX3_readNewName 25 = .ok (.iconst 4, 1) := by decide +kernel
theorem dX3_readNewName_26 : decode cX3_readNewName 26 = .ok (.invokevirtual 148, 3) := by decide +kernel
theorem dX3_readNewName_29 : decode cX3_readNewName 29 = .ok (.ireturn, 1) := by decide +kernel
theorem dX3_readNewName_30 : decode cX3_readNewName 30 = .ok (.aload_n 0, 1) := by decide +kernel
theorem dX3_readNewName_31 : decode cX3_readNewName 31 = .ok (.aload_n 0, 1) := by decide +kernel
theorem dX3_readNewName_32 : decode cX3_readNewName 32 = .ok (.getfield 104, 3) := by decide +kernel
theorem dX3_readNewName_35 : decode cX3_readNewName 35 = .ok (.putfield 184, 3) := by decide +kernel
theorem dX3_readNewName_38 : decode cX3_readNewName 38 = .ok (.aload_n 0, 1) := by decide +kernel
theorem dX3_readNewName_39 : decode cX3_readNewName 39 = .ok (.invokevirtual 71, 3) := by decide +kernel
theorem dX3_readNewName_42 : decode cX3_readNewName 42 = .ok (.iconst 1, 1) := by decide +kernel
theorem dX3_readNewName_43 : decode cX3_readNewName 43 = .ok (.ireturn, 1) := by decide +kernel
theorem dX3_numberUpTo_0 : decode cX3_numberUpTo 0 = .ok (.aload_n 0, 1) := by decide +kernel
theorem dX3_numberUpTo_1 : decode cX3_numberUpTo 1 = .ok (.getfield 74, 3) := by decide +kernel
theorem dX3_numberUpTo_4 : decode cX3_numberUpTo 4 = .ok (.iconst 2, 1) := by decide +kernel
theorem dX3_numberUpTo_5 : decode cX3_numberUpTo 5 = .ok (.if_icmp .eq 9, 3) := by decide +kernel
theorem dX3_numberUpTo_8 : decode cX3_numberUpTo 8 = .ok (.aload_n 0, 1) := by decide +kernel
theorem dX3_numberUpTo_9 : decode cX3_numberUpTo 9 = .ok (.iconst 2, 1) := by decide +kernel
theorem dX3_numberUpTo_10 : decode cX3_numberUpTo 10 = .ok (.invokevirtual 148, 3) := by decide +kernel
theorem dX3_numberUpTo_13 : decode cX3_numberUpTo 13 = .ok (.ireturn, 1) := by decide +kernel
theorem dX3_numberUpTo_14 : decode cX3_numberUpTo 14 = .ok (.aload_n 0, 1) := by decide +kernel
theorem dX3_numberUpTo_15 : decode cX3_numberUpTo 15 = .ok (.getfield 110, 3) := by decide +kernel
theorem dX3_numberUpTo_18 : decode cX3_numberUpTo 18 = .ok (.iload_n 1, 1) := by decide +kernel
theorem dX3_numberUpTo_19 : decode cX3_numberUpTo 19 = .ok (.if_icmp .le 9, 3) := by decide +kernel
theorem dX3_numberUpTo_22 : decode cX3_numberUpTo 22 = .ok (.aload_n 0, 1) := by decide +kernel
theorem dX3_numberUpTo_23 : decode cX3_numberUpTo 23 = .ok (.iconst 3, 1) := by decide +kernel
theorem dX3_numberUpTo_24 : decode cX3_numberUpTo 24 = .ok (.invokevirtual 148, 3) := by decide +kernel
theorem dX3_numberUpTo_27 : decode cX3_numberUpTo 27 = .ok (.ireturn, 1) := by decide +kernel
theorem dX3_numberUpTo_28 : decode cX3_numberUpTo 28 = .ok (.aload_n 0, 1) := by decide +kernel
theorem dX3_numberUpTo_29 : decode cX3_numberUpTo 29 = .ok (.invokevirtual 71, 3) := by decide +kernel
theorem dX3_numberUpTo_32 : decode cX3_numberUpTo 32 = .ok (.iconst 1, 1) := by decide +kernel
theorem dX3_numberUpTo_33 : decode cX3_numberUpTo 33 = .ok (.ireturn, 1) := by decide +kernel
theorem dX3_endOfLine_0 : decode cX3_endOfLine 0 = .ok (.aload_n 0, 1) := by decide +kernel
theorem dX3_endOfLine_1 : decode cX3_endOfLine 1 = .ok (.getfield 74, 3) := by decide +kernel
theorem dX3_endOfLine_4 : decode cX3_endOfLine 4 = .ok (.iconst 3, 1) := by decide +kernel
theorem dX3_endOfLine_5 : decode cX3_endOfLine 5 = .ok (.if_icmp .eq 9, 3) := by decide +kernel
theorem dX3_endOfLine_8 : decode cX3_endOfLine 8 = .ok (.aload_n 0, 1) := by decide +kernel
theorem dX3_endOfLine_9 : decode cX3_endOfLine 9 = .ok (.iconst 2, 1) := by decide +kernel
theorem dX3_endOfLine_10 : decode cX3_endOfLine 10 = .ok (.invokevirtual 148, 3) := by decide +kernel
theorem dX3_endOfLine_13 : decode cX3_endOfLine 13 = .ok (.ireturn, 1) := by decide +kernel
theorem dX3_endOfLine_14 : decode cX3_endOfLine 14 = .ok (.aload_n 0, 1) := by decide +kernel
theorem dX3_endOfLine_15 : decode cX3_endOfLine 15 = .ok (.invokevirtual 71, 3) := by decide +kernel
theorem dX3_endOfLine_18 : decode cX3_endOfLine 18 = .ok (.iconst 1, 1) := by decide +kernel
theorem dX3_endOfLine_19 : decode cX3_endOfLine 19 = .ok (.ireturn, 1) := by decide +kernel
theorem dX3_find_0 : decode cX3_find 0 = .ok (.iconst 0, 1) := by decide +kernel
theorem dX3_find_1 : decode cX3_find 1 = .ok (.istore 4, 2) := by decide +kernel
theorem dX3_find_3 : decode cX3_find 3 = .ok (.iload 4, 2) := by decide +kernel
theorem dX3_find_5 : decode cX3_find 5 = .ok (.iload_n 1, 1) := by decide +kernel
theorem dX3_find_6 : decode cX3_find 6 = .ok (.if_icmp .ge 23, 3) := by decide +kernel
theorem dX3_find_9 : decode cX3_find 9 = .ok (.aload_n 0, 1) := by decide +kernel
theorem dX3_find_10 : decode cX3_find 10 = .ok (.iload 4, 2) := by decide +kernel
theorem dX3_find_12 : decode cX3_find 12 = .ok (.invokestatic 246, 3) := by decide +kernel
theorem dX3_find_15 : decode cX3_find 15 = .ok (.lload_n 2, 1) := by decide +kernel
theorem dX3_find_16 : decode cX3_find 16 = .ok (.lcmp, 1) := by decide +kernel
theorem dX3_find_17 : decode cX3_find 17 = .ok (.ifCond .ne 6, 3) := by decide +kernel
theorem dX3_find_20 : decode cX3_find 20 = .ok (.iload 4, 2) := by decide +kernel
theorem dX3_find_22 : decode cX3_find 22 = .ok (.ireturn, 1) := by decide +kernel
theorem dX3_find_23 : decode cX3_find 23 = .ok (.iinc 4 1, 3) := by decide +kernel
theorem dX3_find_26 : decode cX3_find 26 = .ok (.goto (-23), 3) := by decide +kernel
theorem dX3_find_29 : decode cX3_find 29 = .ok (.iconst (-1), 1) := by decide +kernel
theorem dX3_find_30 : decode cX3_find 30 = .ok (.ireturn, 1) := by decide +kernel
theorem dX3_isTaken_0 : decode cX3_isTaken 0 = .ok (.aload_n 0, 1) := by decide +kernel
theorem dX3_isTaken_1 : decode cX3_isTaken 1 = .ok (.getfield 29, 3) := by decide +kernel
theorem dX3_isTaken_4 : decode cX3_isTaken 4 = .ok (.aload_n 0, 1) := by decide +kernel
theorem dX3_isTaken_5 : decode cX3_isTaken 5 = .ok (.getfield 12, 3) := by decide +kernel
theorem dX3_isTaken_8 : decode cX3_isTaken 8 = .ok (.getfield 142, 3) := by decide +kernel
theorem dX3_isTaken_11 : decode cX3_isTaken 11 = .ok (.lload_n 1, 1) := by decide +kernel
theorem dX3_isTaken_12 : decode cX3_isTaken 12 = .ok (.invokestatic 202, 3) := by decide +kernel
theorem dX3_isTaken_15 : decode cX3_isTaken 15 = .ok (.iconst (-1), 1) := by decide +kernel
theorem dX3_isTaken_16 : decode cX3_isTaken 16 = .ok (.if_icmp .ne 41, 3) := by decide +kernel
theorem dX3_isTaken_19 : decode cX3_isTaken 19 = .ok (.aload_n 0, 1) := by decide +kernel
theorem dX3_isTaken_20 : decode cX3_isTaken 20 = .ok (.getfield 33, 3) := by decide +kernel
theorem dX3_isTaken_23 : decode cX3_isTaken 23 = .ok (.aload_n 0, 1) := by decide +kernel
theorem dX3_isTaken_24 : decode cX3_isTaken 24 = .ok (.getfield 12, 3) := by decide +kernel
theorem dX3_isTaken_27 : decode cX3_isTaken 27 = .ok (.getfield 151, 3) := by decide +kernel
theorem dX3_isTaken_30 : decode cX3_isTaken 30 = .ok (.lload_n 1, 1) := by decide +kernel
theorem dX3_isTaken_31 : decode cX3_isTaken 31 = .ok (.invokestatic 202, 3) := by decide +kernel
theorem dX3_isTaken_34 : decode cX3_isTaken 34 = .ok (.iconst (-1), 1) := by decide +kernel
theorem dX3_isTaken_35 : decode cX3_isTaken 35 = .ok (.if_icmp .ne 22, 3) := by decide +kernel
theorem dX3_isTaken_38 : decode cX3_isTaken 38 = .ok (.aload_n 0, 1) := by decide +kernel
theorem dX3_isTaken_39 : decode cX3_isTaken 39 = .ok (.getfield 36, 3) := by decide +kernel
theorem dX3_isTaken_42 : decode cX3_isTaken 42 = .ok (.aload_n 0, 1) := by decide +kernel
theorem dX3_isTaken_43 : decode cX3_isTaken 43 = .ok (.getfield 12, 3) := by decide +kernel
theorem dX3_isTaken_46 : decode cX3_isTaken 46 = .ok (.getfield 157, 3) := by decide +kernel
theorem dX3_isTaken_49 : decode cX3_isTaken 49 = .ok (.lload_n 1, 1) := by decide +kernel
theorem dX3_isTaken_50 : decode cX3_isTaken 50 = .ok (.invokestatic 202, 3) := by decide +kernel
theorem dX3_isTaken_53 : decode cX3_isTaken 53 = .ok (.iconst (-1), 1) := by decide +kernel
theorem dX3_isTaken_54 : decode cX3_isTaken 54 = .ok (.if_icmp .eq 7, 3) := by decide +kernel
theorem dX3_isTaken_57 : decode cX3_isTaken 57 = .ok (.iconst 1, 1) := by decide +kernel
theorem dX3_isTaken_58 : decode cX3_isTaken 58 = .ok (.goto 4, 3) := by decide +kernel
theorem dX3_isTaken_61 : decode cX3_isTaken 61 = .ok (.iconst 0, 1) := by decide +kernel
theorem dX3_isTaken_62 : decode cX3_isTaken 62 = .ok (.ireturn, 1) := by decide +kernel
theorem dX3_isFree_0 : decode cX3_isFree 0 = .ok (.iload_n 1, 1) := by decide +kernel
theorem dX3_isFree_1 : decode cX3_isFree 1 = .ok (.iconst (-1), 1) := by decide +kernel
theorem dX3_isFree_2 : decode cX3_isFree 2 = .ok (.if_icmp .eq 36, 3) := by decide +kernel
theorem dX3_isFree_5 : decode cX3_isFree 5 = .ok (.aload_n 0, 1) := by decide +kernel
theorem dX3_isFree_6 : decode cX3_isFree 6 = .ok (.getfield 12, 3) := by decide +kernel
theorem dX3_isFree_9 : decode cX3_isFree 9 = .ok (.getfield 250, 3) := by decide +kernel
theorem dX3_isFree_12 : decode cX3_isFree 12 = .ok (.iload_n 1, 1) := by decide +kernel
theorem dX3_isFree_13 : decode cX3_isFree 13 = .ok (.invokestatic 81, 3) := by decide +kernel
theorem dX3_isFree_16 : decode cX3_isFree 16 = .ok (.iconst (-1), 1) := by decide +kernel
theorem dX3_isFree_17 : decode cX3_isFree 17 = .ok (.if_icmp .ne 21, 3) := by decide +kernel
theorem dX3_isFree_20 : decode cX3_isFree 20 = .ok (.aload_n 0, 1) := by decide +kernel
theorem dX3_isFree_21 : decode cX3_isFree 21 = .ok (.getfield 12, 3) := by decide +kernel
theorem dX3_isFree_24 : decode cX3_isFree 24 = .ok (.getfield 252, 3) := by decide +kernel
theorem dX3_isFree_27 : decode cX3_isFree 27 = .ok (.iload_n 1, 1) := by decide +kernel
theorem dX3_isFree_28 : decode cX3_isFree 28 = .ok (.invokestatic 81, 3) := by decide +kernel
theorem dX3_isFree_31 : decode cX3_isFree 31 = .ok (.ifCond .ne 7, 3) := by decide +kernel
theorem dX3_isFree_34 : decode cX3_isFree 34 = .ok (.iconst 1, 1) := by decide +kernel
theorem dX3_isFree_35 : decode cX3_isFree 35 = .ok (.goto 4, 3) := by decide +kernel
theorem dX3_isFree_38 : decode cX3_isFree 38 = .ok (.iconst 0, 1) := by decide +kernel
theorem dX3_isFree_39 : decode cX3_isFree 39 = .ok (.ireturn, 1) := by decide +kernel
theorem dX3_asker_0 : decode cX3_asker 0 = .ok (.aload_n 0, 1) := by decide +kernel
theorem dX3_asker_1 : decode cX3_asker 1 = .ok (.getfield 33, 3) := by decide +kernel
theorem dX3_asker_4 : decode cX3_asker 4 = .ok (.aload_n 0, 1) := by decide +kernel
theorem dX3_asker_5 : decode cX3_asker 5 = .ok (.getfield 12, 3) := by decide +kernel
theorem dX3_asker_8 : decode cX3_asker 8 = .ok (.getfield 151, 3) := by decide +kernel
theorem dX3_asker_11 : decode cX3_asker 11 = .ok (.aload_n 0, 1) := by decide +kernel
theorem dX3_asker_12 : decode cX3_asker 12 = .ok (.getfield 104, 3) := by decide +kernel
theorem dX3_asker_15 : decode cX3_asker 15 = .ok (.invokestatic 202, 3) := by decide +kernel
theorem dX3_asker_18 : decode cX3_asker 18 = .ok (.istore_n 1, 1) := by decide +kernel
theorem dX3_asker_19 : decode cX3_asker 19 = .ok (.aload_n 0, 1) := by decide +kernel
theorem dX3_asker_20 : decode cX3_asker 20 = .ok (.iload_n 1, 1) := by decide +kernel
theorem dX3_asker_21 : decode cX3_asker 21 = .ok (.invokevirtual 206, 3) := by decide +kernel
theorem dX3_asker_24 : decode cX3_asker 24 = .ok (.ifCond .eq 7, 3) := by decide +kernel
theorem dX3_asker_27 : decode cX3_asker 27 = .ok (.iconst 1, 1) := by decide +kernel
theorem dX3_asker_28 : decode cX3_asker 28 = .ok (.iload_n 1, 1) := by decide +kernel
theorem dX3_asker_29 : decode cX3_asker 29 = .ok (.ishl, 1) := by decide +kernel
theorem dX3_asker_30 : decode cX3_asker 30 = .ok (.ireturn, 1) := by decide +kernel
theorem dX3_asker_31 : decode cX3_asker 31 = .ok (.aload_n 0, 1) := by decide +kernel
theorem dX3_asker_32 : decode cX3_asker 32 = .ok (.getfield 36, 3) := by decide +kernel
theorem dX3_asker_35 : decode cX3_asker 35 = .ok (.aload_n 0, 1) := by decide +kernel
theorem dX3_asker_36 : decode cX3_asker 36 = .ok (.getfield 12, 3) := by decide +kernel
theorem dX3_asker_39 : decode cX3_asker 39 = .ok (.getfield 157, 3) := by decide +kernel
theorem dX3_asker_42 : decode cX3_asker 42 = .ok (.aload_n 0, 1) := by decide +kernel
theorem dX3_asker_43 : decode cX3_asker 43 = .ok (.getfield 104, 3) := by decide +kernel
theorem dX3_asker_46 : decode cX3_asker 46 = .ok (.invokestatic 202, 3) := by decide +kernel
theorem dX3_asker_49 : decode cX3_asker 49 = .ok (.istore_n 2, 1) := by decide +kernel
theorem dX3_asker_50 : decode cX3_asker 50 = .ok (.iconst 0, 1) := by decide +kernel
theorem dX3_asker_51 : decode cX3_asker 51 = .ok (.istore_n 3, 1) := by decide +kernel
theorem dX3_asker_52 : decode cX3_asker 52 = .ok (.iconst 0, 1) := by decide +kernel
theorem dX3_asker_53 : decode cX3_asker 53 = .ok (.istore 4, 2) := by decide +kernel
theorem dX3_asker_55 : decode cX3_asker 55 = .ok (.iload_n 2, 1) := by decide +kernel
theorem dX3_asker_56 : decode cX3_asker 56 = .ok (.iconst (-1), 1) := by decide +kernel
theorem dX3_asker_57 : decode cX3_asker 57 = .ok (.if_icmp .eq 59, 3) := by decide +kernel
theorem dX3_asker_60 : decode cX3_asker 60 = .ok (.iload 4, 2) := by decide +kernel
theorem dX3_asker_62 : decode cX3_asker 62 = .ok (.aload_n 0, 1) := by decide +kernel
theorem dX3_asker_63 : decode cX3_asker 63 = .ok (.getfield 12, 3) := by decide +kernel
theorem dX3_asker_66 : decode cX3_asker 66 = .ok (.getfield 151, 3) := by decide +kernel
theorem dX3_asker_69 : decode cX3_asker 69 = .ok (.if_icmp .ge 47, 3) := by decide +kernel
theorem dX3_asker_72 : decode cX3_asker 72 = .ok (.aload_n 0, 1) := by decide +kernel
theorem dX3_asker_73 : decode cX3_asker 73 = .ok (.getfield 12, 3) := by decide +kernel
theorem dX3_asker_76 : decode cX3_asker 76 = .ok (.getfield 250, 3) := by decide +kernel
theorem dX3_asker_79 : decode cX3_asker 79 = .ok (.iload 4, 2) := by decide +kernel
theorem dX3_asker_81 : decode cX3_asker 81 = .ok (.invokestatic 81, 3) := by decide +kernel
theorem dX3_asker_84 : decode cX3_asker 84 = .ok (.iload_n 2, 1) := by decide +kernel
theorem dX3_asker_85 : decode cX3_asker 85 = .ok (.if_icmp .ne 25, 3) := by decide +kernel
theorem dX3_asker_88 : decode cX3_asker 88 = .ok (.aload_n 0, 1) := by decide +kernel
theorem dX3_asker_89 : decode cX3_asker 89 = .ok (.getfield 12, 3) := by decide +kernel
theorem dX3_asker_92 : decode cX3_asker 92 = .ok (.getfield 252, 3) := by decide +kernel
theorem dX3_asker_95 : decode cX3_asker 95 = .ok (.iload 4, 2) := by decide +kernel
theorem dX3_asker_97 : decode cX3_asker 97 = .ok (.invokestatic 81, 3) := by decide +kernel
theorem dX3_asker_100 : decode cX3_asker 100 = .ok (.ifCond .ne 10, 3) := by decide +kernel
theorem dX3_asker_103 : decode cX3_asker 103 = .ok (.iload_n 3, 1) := by decide +kernel
theorem dX3_asker_104 : decode cX3_asker 104 = .ok (.iconst 1, 1) := by decide +kernel
theorem dX3_asker_105 : decode cX3_asker 105 = .ok (.iload 4, 2) := by decide +kernel
theorem dX3_asker_107 : decode cX3_asker 107 = .ok (.ishl, 1) := by decide +kernel
theorem dX3_asker_108 : decode cX3_asker 108 = .ok (.ior, 1) := by decide +kernel
theorem dX3_asker_109 : decode cX3_asker 109 = .ok (.istore_n 3, 1) := by decide +kernel
theorem dX3_asker_110 : decode cX3_asker 110 = .ok (.iinc 4 1, 3) := by decide +kernel
theorem dX3_asker_113 : decode cX3_asker 113 = .ok (.goto (-58), 3) := by decide +kernel
theorem dX3_asker_116 : decode cX3_asker 116 = .ok (.iload_n 3, 1) := by decide +kernel
theorem dX3_asker_117 : decode cX3_asker 117 = .ok (.ireturn, 1) := by decide +kernel
theorem dX4_init_0 : decode cX4_init 0 = .ok (.aload_n 0, 1) := by decide +kernel
theorem dX4_init_1 : decode cX4_init 1 = .ok (.invokespecial 3, 3) := by decide +kernel
theorem dX4_init_4 : decode cX4_init 4 = .ok (.aload_n 0, 1) := by decide +kernel
theorem dX4_init_5 : decode cX4_init 5 = .ok (.iconst 5, 1) := by decide +kernel
theorem dX4_init_6 : decode cX4_init 6 = .ok (.newarray .int, 2) := by decide +kernel
theorem dX4_init_8 : decode cX4_init 8 = .ok (.putfield 9, 3) := by decide +kernel
theorem dX4_init_11 : decode cX4_init 11 = .ok (.aload_n 0, 1) := by decide +kernel
theorem dX4_init_12 : decode cX4_init 12 = .ok (.bipush 10, 2) := by decide +kernel
theorem dX4_init_14 : decode cX4_init 14 = .ok (.newarray .int, 2) := by decide +kernel
theorem dX4_init_16 : decode cX4_init 16 = .ok (.putfield 15, 3) := by decide +kernel
theorem dX4_init_19 : decode cX4_init 19 = .ok (.aload_n 0, 1) := by decide +kernel
theorem dX4_init_20 : decode cX4_init 20 = .ok (.bipush 10, 2) := by decide +kernel
theorem dX4_init_22 : decode cX4_init 22 = .ok (.newarray .int, 2) := by decide +kernel
theorem dX4_init_24 : decode cX4_init 24 = .ok (.putfield 18, 3) := by decide +kernel
theorem dX4_init_27 : decode cX4_init 27 = .ok (.aload_n 0, 1) := by decide +kernel
theorem dX4_init_28 : decode cX4_init 28 = .ok (.bipush 10, 2) := by decide +kernel
theorem dX4_init_30 : decode cX4_init 30 = .ok (.newarray .int, 2) := by decide +kernel
theorem dX4_init_32 : decode cX4_init 32 = .ok (.putfield 21, 3) := by decide +kernel
theorem dX4_init_35 : decode cX4_init 35 = .ok (.aload_n 0, 1) := by decide +kernel
theorem dX4_init_36 : decode cX4_init 36 = .ok (.bipush 10, 2) := by decide +kernel
theorem dX4_init_38 : decode cX4_init 38 = .ok (.newarray .int, 2) := by decide +kernel
theorem dX4_init_40 : decode cX4_init 40 = .ok (.putfield 24, 3) := by decide +kernel
theorem dX4_init_43 : decode cX4_init 43 = .ok (.aload_n 0, 1) := by decide +kernel
theorem dX4_init_44 : decode cX4_init 44 = .ok (.bipush 30, 2) := by decide +kernel
theorem dX4_init_46 : decode cX4_init 46 = .ok (.newarray .int, 2) := by decide +kernel
theorem dX4_init_48 : decode cX4_init 48 = .ok (.putfield 27, 3) := by decide +kernel
theorem dX4_init_51 : decode cX4_init 51 = .ok (.aload_n 0, 1) := by decide +kernel
theorem dX4_init_52 : decode cX4_init 52 = .ok (.bipush 10, 2) := by decide +kernel
theorem dX4_init_54 : decode cX4_init 54 = .ok (.newarray .int, 2) := by decide +kernel
theorem dX4_init_56 : decode cX4_init 56 = .ok (.putfield 30, 3) := by decide +kernel
theorem dX4_init_59 : decode cX4_init 59 = .ok (.return_, 1) := by decide +kernel
theorem dX4_clear_0 : decode cX4_clear 0 = .ok (.aload_n 0, 1) := by decide +kernel
theorem dX4_clear_1 : decode cX4_clear 1 = .ok (.iconst 0, 1) := by decide +kernel
theorem dX4_clear_2 : decode cX4_clear 2 = .ok (.putfield 33, 3) := by decide +kernel
theorem dX4_clear_5 : decode cX4_clear 5 = .ok (.aload_n 0, 1) := by decide +kernel
theorem dX4_clear_6 : decode cX4_clear 6 = .ok (.iconst 0, 1) := by decide +kernel
theorem dX4_clear_7 : decode cX4_clear 7 = .ok (.putfield 37, 3) := by decide +kernel
theorem dX4_clear_10 : decode cX4_clear 10 = .ok (.aload_n 0, 1) := by decide +kernel
theorem dX4_clear_11 : decode cX4_clear 11 = .ok (.iconst 0, 1) := by decide +kernel
theorem dX4_clear_12 : decode cX4_clear 12 = .ok (.putfield 40, 3) := by decide +kernel
theorem dX4_clear_15 : decode cX4_clear 15 = .ok (.aload_n 0, 1) := by decide +kernel
theorem dX4_clear_16 : decode cX4_clear 16 = .ok (.iconst 0, 1) := by decide +kernel
theorem dX4_clear_17 : decode cX4_clear 17 = .ok (.putfield 43, 3) := by decide +kernel
theorem dX4_clear_20 : decode cX4_clear 20 = .ok (.aload_n 0, 1) := by decide +kernel
theorem dX4_clear_21 : decode cX4_clear 21 = .ok (.iconst 0, 1) := by decide +kernel
theorem dX4_clear_22 : decode cX4_clear 22 = .ok (.putfield 46, 3) := by decide +kernel
theorem dX4_clear_25 : decode cX4_clear 25 = .ok (.aload_n 0, 1) := by decide +kernel
theorem dX4_clear_26 : decode cX4_clear 26 = .ok (.bipush 100, 2) := by decide +kernel
theorem dX4_clear_28 : decode cX4_clear 28 = .ok (.putfield 49, 3) := by decide +kernel
theorem dX4_clear_31 : decode cX4_clear 31 = .ok (.aload_n 0, 1) := by decide +kernel
theorem dX4_clear_32 : decode cX4_clear 32 = .ok (.iconst 0, 1) := by decide +kernel
theorem dX4_clear_33 : decode cX4_clear 33 = .ok (.putfield 52, 3) := by decide +kernel
theorem dX4_clear_36 : decode cX4_clear 36 = .ok (.aload_n 0, 1) := by decide +kernel
theorem dX4_clear_37 : decode cX4_clear 37 = .ok (.getfield 9, 3) := by decide +kernel
theorem dX4_clear_40 : decode cX4_clear 40 = .ok (.iconst 0, 1) := by decide +kernel
theorem dX4_clear_41 : decode cX4_clear 41 = .ok (.invokestatic 55, 3) := by decide +kernel
theorem dX4_clear_44 : decode cX4_clear 44 = .ok (.aload_n 0, 1) := by decide +kernel
theorem dX4_clear_45 : decode cX4_clear 45 = .ok (.getfield 15, 3) := by decide +kernel
theorem dX4_clear_48 : decode cX4_clear 48 = .ok (.iconst 0, 1) := by decide +kernel
theorem dX4_clear_49 : decode cX4_clear 49 = .ok (.invokestatic 55, 3) := by decide +kernel
theorem dX4_clear_52 : decode cX4_clear 52 = .ok (.aload_n 0, 1) := by decide +kernel
theorem dX4_clear_53 : decode cX4_clear 53 = .ok (.getfield 18, 3) := by decide +kernel
theorem dX4_clear_56 : decode cX4_clear 56 = .ok (.iconst 0, 1) := by decide +kernel
theorem dX4_clear_57 : decode cX4_clear 57 = .ok (.invokestatic 55, 3) := by decide +kernel
theorem dX4_clear_60 : decode cX4_clear 60 = .ok (.aload_n 0, 1) := by decide +kernel
theorem dX4_clear_61 : decode cX4_clear 61 = .ok (.getfield 21, 3) := by decide +kernel
theorem dX4_clear_64 : decode cX4_clear 64 = .ok (.iconst (-1), 1) := by decide +kernel
theorem dX4_clear_65 : decode cX4_clear 65 = .ok (.invokestatic 55, 3) := by decide +kernel
theorem dX4_clear_68 : decode cX4_clear 68 = .ok (.aload_n 0, 1) := by decide +kernel
theorem dX4_clear_69 : decode cX4_clear 69 = .ok (.getfield 24, 3) := by decide +kernel
theorem dX4_clear_72 : decode cX4_clear 72 = .ok (.iconst 0, 1) := by decide +kernel
theorem dX4_clear_73 : decode cX4_clear 73 = .ok (.invokestatic 55, 3) := by decide +kernel
theorem dX4_clear_76 : decode cX4_clear 76 = .ok (.aload_n 0, 1) := by decide +kernel
theorem dX4_clear_77 : decode cX4_clear 77 = .ok (.getfield 27, 3) := by decide +kernel
theorem dX4_clear_80 : decode cX4_clear 80 = .ok (.iconst (-1), 1) := by decide +kernel
theorem dX4_clear_81 : decode cX4_clear 81 = .ok (.invokestatic 55, 3) := by decide +kernel
theorem dX4_clear_84 : decode cX4_clear 84 = .ok (.aload_n 0, 1) := by decide +kernel
theorem dX4_clear_85 : decode cX4_clear 85 = .ok (.getfield 30, 3) := by decide +kernel
theorem dX4_clear_88 : decode cX4_clear 88 = .ok (.iconst (-1), 1) := by decide +kernel
theorem dX4_clear_89 : decode cX4_clear 89 = .ok (.invokestatic 55, 3) := by decide +kernel
theorem dX4_clear_92 : decode cX4_clear 92 = .ok (.return_, 1) := by decide +kernel
theorem dX4_take_0 : decode cX4_take 0 = .ok (.aload_n 0, 1) := by decide +kernel
theorem dX4_take_1 : decode cX4_take 1 = .ok (.aload_n 1, 1) := by decide +kernel
theorem dX4_take_2 : decode cX4_take 2 = .ok (.getfield 33, 3) := by decide +kernel
theorem dX4_take_5 : decode cX4_take 5 = .ok (.putfield 33, 3) := by decide +kernel
theorem dX4_take_8 : decode cX4_take 8 = .ok (.aload_n 0, 1) := by decide +kernel
theorem dX4_take_9 : decode cX4_take 9 = .ok (.aload_n 1, 1) := by decide +kernel
theorem dX4_take_10 : decode cX4_take 10 = .ok (.getfield 37, 3) := by decide +kernel
theorem dX4_take_13 : decode cX4_take 13 = .ok (.putfield 37, 3) := by decide +kernel
theorem dX4_take_16 : decode cX4_take 16 = .ok (.aload_n 0, 1) := by decide +kernel
theorem dX4_take_17 : decode cX4_take 17 = .ok (.aload_n 1, 1) := by decide +kernel
theorem dX4_take_18 : decode cX4_take 18 = .ok (.getfield 40, 3) := by decide +kernel
theorem dX4_take_21 : decode cX4_take 21 = .ok (.putfield 40, 3) := by decide +kernel
theorem dX4_take_24 : decode cX4_take 24 = .ok (.aload_n 0, 1) := by decide +kernel
theorem dX4_take_25 : decode cX4_take 25 = .ok (.aload_n 1, 1) := by decide +kernel
theorem dX4_take_26 : decode cX4_take 26 = .ok (.getfield 43, 3) := by decide +kernel
theorem dX4_take_29 : decode cX4_take 29 = .ok (.putfield 43, 3) := by decide +kernel
theorem dX4_take_32 : decode cX4_take 32 = .ok (.aload_n 0, 1) := by decide +kernel
theorem dX4_take_33 : decode cX4_take 33 = .ok (.aload_n 1, 1) := by decide +kernel
theorem dX4_take_34 : decode cX4_take 34 = .ok (.getfield 46, 3) := by decide +kernel
theorem dX4_take_37 : decode cX4_take 37 = .ok (.putfield 46, 3) := by decide +kernel
theorem dX4_take_40 : decode cX4_take 40 = .ok (.aload_n 0, 1) := by decide +kernel
theorem dX4_take_41 : decode cX4_take 41 = .ok (.aload_n 1, 1) := by decide +kernel
theorem dX4_take_42 : decode cX4_take 42 = .ok (.getfield 49, 3) := by decide +kernel
theorem dX4_take_45 : decode cX4_take 45 = .ok (.putfield 49, 3) := by decide +kernel
theorem dX4_take_48 : decode cX4_take 48 = .ok (.aload_n 0, 1) := by decide +kernel
theorem dX4_take_49 : decode cX4_take 49 = .ok (.aload_n 1, 1) := by decide +kernel
theorem dX4_take_50 : decode cX4_take 50 = .ok (.getfield 52, 3) := by decide +kernel
theorem dX4_take_53 : decode cX4_take 53 = .ok (.putfield 52, 3) := by decide +kernel
theorem dX4_take_56 : decode cX4_take 56 = .ok (.aload_n 1, 1) := by decide +kernel
theorem dX4_take_57 : decode cX4_take 57 = .ok (.getfield 9, 3) := by decide +kernel
theorem dX4_take_60 : decode cX4_take 60 = .ok (.aload_n 0, 1) := by decide +kernel
theorem dX4_take_61 : decode cX4_take 61 = .ok (.getfield 9, 3) := by decide +kernel
theorem dX4_take_64 : decode cX4_take 64 = .ok (.invokestatic 59, 3) := by decide +kernel
theorem dX4_take_67 : decode cX4_take 67 = .ok (.aload_n 1, 1) := by decide +kernel
theorem dX4_take_68 : decode cX4_take 68 = .ok (.getfield 15, 3) := by decide +kernel
theorem dX4_take_71 : decode cX4_take 71 = .ok (.aload_n 0, 1) := by decide +kernel
theorem dX4_take_72 : decode cX4_take 72 = .ok (.getfield 15, 3) := by decide +kernel
theorem dX4_take_75 : decode cX4_take 75 = .ok (.invokestatic 59, 3) := by decide +kernel
theorem dX4_take_78 : decode cX4_take 78 = .ok (.aload_n 1, 1) := by decide +kernel
theorem dX4_take_79 : decode cX4_take 79 = .ok (.getfield 18, 3) := by decide +kernel
theorem dX4_take_82 : decode cX4_take 82 = .ok (.aload_n 0, 1) := by decide +kernel
theorem dX4_take_83 : decode cX4_take 83 = .ok (.getfield 18, 3) := by decide +kernel
theorem dX4_take_86 : decode cX4_take 86 = .ok (.invokestatic 59, 3) := by decide +kernel
theorem dX4_take_89 : decode cX4_take 89 = .ok (.aload_n 1, 1) := by decide +kernel
theorem dX4_take_90 : decode cX4_take 90 = .ok (.getfield 21, 3) := by decide +kernel
theorem dX4_take_93 : decode cX4_take 93 = .ok (.aload_n 0, 1) := by decide +kernel
theorem dX4_take_94 : decode cX4_take 94 = .ok (.getfield 21, 3) := by decide +kernel
theorem dX4_take_97 : decode cX4_take 97 = .ok (.invokestatic 59, 3) := by decide +kernel
theorem dX4_take_100 : decode cX4_take 100 = .ok (.aload_n 1, 1) := by decide +kernel
theorem dX4_take_101 : decode cX4_take 101 = .ok (.getfield 24, 3) := by decide +kernel
theorem dX4_take_104 : decode cX4_take 104 = .ok (.aload_n 0, 1) := by decide +kernel
theorem dX4_take_105 : decode cX4_take 105 = .ok (.getfield 24, 3) := by decide +kernel
theorem dX4_take_108 : decode cX4_take 108 = .ok (.invokestatic 59, 3) := by decide +kernel
theorem dX4_take_111 : decode cX4_take 111 = .ok (.aload_n 1, 1) := by decide +kernel
theorem dX4_take_112 : decode cX4_take 112 = .ok (.getfield 27, 3) := by decide +kernel
theorem dX4_take_115 : decode cX4_take 115 = .ok (.aload_n 0, 1) := by decide +kernel
theorem dX4_take_116 : decode cX4_take 116 = .ok (.getfield 27, 3) := by decide +kernel
theorem dX4_take_119 : decode cX4_take 119 = .ok (.invokestatic 59, 3) := by decide +kernel
theorem dX4_take_122 : decode cX4_take 122 = .ok (.aload_n 1, 1) := by decide +kernel
theorem dX4_take_123 : decode cX4_take 123 = .ok (.getfield 30, 3) := by decide +kernel
theorem dX4_take_126 : decode cX4_take 126 = .ok (.aload_n 0, 1) := by decide +kernel
theorem dX4_take_127 : decode cX4_take 127 = .ok (.getfield 30, 3) := by decide +kernel
theorem dX4_take_130 : decode cX4_take 130 = .ok (.invokestatic 59, 3) := by decide +kernel
theorem dX4_take_133 : decode cX4_take 133 = .ok (.return_, 1) := by decide +kernel
theorem dX4_addUnit_0 : decode cX4_addUnit 0 = .ok (.aload_n 0, 1) := by decide +kernel
theorem dX4_addUnit_1 : decode cX4_addUnit 1 = .ok (.getfield 9, 3) := by decide +kernel
theorem dX4_addUnit_4 : decode cX4_addUnit 4 = .ok (.aload_n 0, 1) := by decide +kernel
theorem dX4_addUnit_5 : decode cX4_addUnit 5 = .ok (.getfield 33, 3) := by decide +kernel
theorem dX4_addUnit_8 : decode cX4_addUnit 8 = .ok (.iload_n 1, 1) := by decide +kernel
theorem dX4_addUnit_9 : decode cX4_addUnit 9 = .ok (.invokestatic 63, 3) := by decide +kernel
theorem dX4_addUnit_12 : decode cX4_addUnit 12 = .ok (.aload_n 0, 1) := by decide +kernel
theorem dX4_addUnit_13 : decode cX4_addUnit 13 = .ok (.dup, 1) := by decide +kernel
theorem dX4_addUnit_14 : decode cX4_addUnit 14 = .ok (.getfield 33, 3) := by decide +kernel
theorem dX4_addUnit_17 : decode cX4_addUnit 17 = .ok (.iconst 1, 1) := by decide +kernel
theorem dX4_addUnit_18 : decode cX4_addUnit 18 = .ok (.iadd, 1) := by decide +kernel
theorem dX4_addUnit_19 : decode cX4_addUnit 19 = .ok (.putfield 33, 3) := by decide +kernel
theorem dX4_addUnit_22 : decode cX4_addUnit 22 = .ok (.return_, 1) := by decide +kernel
theorem dX4_addHunter_0 : decode cX4_addHunter 0 = .ok (.aload_n 0, 1) := by decide +kernel
theorem dX4_addHunter_1 : decode cX4_addHunter 1 = .ok (.getfield 15, 3) := by decide +kernel
theorem dX4_addHunter_4 : decode cX4_addHunter 4 = .ok (.aload_n 0, 1) := by decide +kernel
theorem dX4_addHunter_5 : decode cX4_addHunter 5 = .ok (.getfield 37, 3) := by decide +kernel
theorem dX4_addHunter_8 : decode cX4_addHunter 8 = .ok (.iload_n 1, 1) := by decide +kernel
theorem dX4_addHunter_9 : decode cX4_addHunter 9 = .ok (.invokestatic 63, 3) := by decide +kernel
theorem dX4_addHunter_12 : decode cX4_addHunter 12 = .ok (.aload_n 0, 1) := by decide +kernel
theorem dX4_addHunter_13 : decode cX4_addHunter 13 = .ok (.getfield 18, 3) := by decide +kernel
theorem dX4_addHunter_16 : decode cX4_addHunter 16 = .ok (.aload_n 0, 1) := by decide +kernel
theorem dX4_addHunter_17 : decode cX4_addHunter 17 = .ok (.getfield 37, 3) := by decide +kernel
theorem dX4_addHunter_20 : decode cX4_addHunter 20 = .ok (.iload_n 2, 1) := by decide +kernel
theorem dX4_addHunter_21 : decode cX4_addHunter 21 = .ok (.ifCond .eq 7, 3) := by decide +kernel
theorem dX4_addHunter_24 : decode cX4_addHunter 24 = .ok (.iconst 1, 1) := by decide +kernel
theorem dX4_addHunter_25 : decode cX4_addHunter 25 = .ok (.goto 4, 3) := by decide +kernel
theorem dX4_addHunter_28 : decode cX4_addHunter 28 = .ok (.iconst 0, 1) := by decide +kernel
theorem dX4_addHunter_29 : decode cX4_addHunter 29 = .ok (.invokestatic 63, 3) := by decide +kernel
theorem dX4_addHunter_32 : decode cX4_addHunter 32 = .ok (.aload_n 0, 1) := by decide +kernel
theorem dX4_addHunter_33 : decode cX4_addHunter 33 = .ok (.dup, 1) := by decide +kernel
theorem dX4_addHunter_34 : decode cX4_addHunter 34 = .ok (.getfield 37, 3) := by decide +kernel
theorem dX4_addHunter_37 : decode cX4_addHunter 37 = .ok (.iconst 1, 1) := by decide +kernel
theorem dX4_addHunter_38 : decode cX4_addHunter 38 = .ok (.iadd, 1) := by decide +kernel
theorem dX4_addHunter_39 : decode cX4_addHunter 39 = .ok (.putfield 37, 3) := by decide +kernel
theorem dX4_addHunter_42 : decode cX4_addHunter 42 = .ok (.return_, 1) := by decide +kernel
theorem dX4_addParty_0 : decode cX4_addParty 0 = .ok (.iconst 0, 1) := by decide +kernel
theorem dX4_addParty_1 : decode cX4_addParty 1 = .ok (.istore_n 2, 1) := by decide +kernel
theorem dX4_addParty_2 : decode cX4_addParty 2 = .ok (.iload_n 2, 1) := by decide +kernel
theorem dX4_addParty_3 : decode cX4_addParty 3 = .ok (.aload_n 0, 1) := by decide +kernel
theorem dX4_addParty_4 : decode cX4_addParty 4 = .ok (.getfield 37, 3) := by decide +kernel
theorem dX4_addParty_7 : decode cX4_addParty 7 = .ok (.if_icmp .ge 30, 3) := by decide +kernel
theorem dX4_addParty_10 : decode cX4_addParty 10 = .ok (.iload_n 1, 1) := by decide +kernel
theorem dX4_addParty_11 : decode cX4_addParty 11 = .ok (.iload_n 2, 1) := by decide +kernel
theorem dX4_addParty_12 : decode cX4_addParty 12 = .ok (.ishr, 1) := by decide +kernel
theorem dX4_addParty_13 : decode cX4_addParty 13 = .ok (.iconst 1, 1) := by decide +kernel
theorem dX4_addParty_14 : decode cX4_addParty 14 = .ok (.iand, 1) := by decide +kernel
theorem dX4_addParty_15 : decode cX4_addParty 15 = .ok (.iconst 1, 1) := by decide +kernel
theorem dX4_addParty_16 : decode cX4_addParty 16 = .ok (.if_icmp .ne 15, 3) := by decide +kernel
theorem dX4_addParty_19 : decode cX4_addParty 19 = .ok (.aload_n 0, 1) := by decide +kernel
theorem dX4_addParty_20 : decode cX4_addParty 20 = .ok (.getfield 21, 3) := by decide +kernel
theorem dX4_addParty_23 : decode cX4_addParty 23 = .ok (.iload_n 2, 1) := by decide +kernel
theorem dX4_addParty_24 : decode cX4_addParty 24 = .ok (.aload_n 0, 1) := by decide +kernel
theorem dX4_addParty_25 : decode cX4_addParty 25 = .ok (.getfield 40, 3) := by decide +kernel
theorem dX4_addParty_28 : decode cX4_addParty 28 = .ok (.invokestatic 63, 3) := by decide +kernel
theorem dX4_addParty_31 : decode cX4_addParty 31 = .ok (.iinc 2 1, 3) := by decide +kernel
theorem dX4_addParty_34 : decode cX4_addParty 34 = .ok (.goto (-32), 3) := by decide +kernel
theorem dX4_addParty_37 : decode cX4_addParty 37 = .ok (.aload_n 0, 1) := by decide +kernel
theorem dX4_addParty_38 : decode cX4_addParty 38 = .ok (.dup, 1) := by decide +kernel
theorem dX4_addParty_39 : decode cX4_addParty 39 = .ok (.getfield 40, 3) := by decide +kernel
theorem dX4_addParty_42 : decode cX4_addParty 42 = .ok (.iconst 1, 1) := by decide +kernel
theorem dX4_addParty_43 : decode cX4_addParty 43 = .ok (.iadd, 1) := by decide +kernel
theorem dX4_addParty_44 : decode cX4_addParty 44 = .ok (.putfield 40, 3) := by decide +kernel
theorem dX4_addParty_47 : decode cX4_addParty 47 = .ok (.return_, 1) := by decide +kernel
theorem dX4_join_0 : decode cX4_join 0 = .ok (.iload_n 1, 1) := by decide +kernel
theorem dX4_join_1 : decode cX4_join 1 = .ok (.iconst 3, 1) := by decide +kernel
theorem dX4_join_2 : decode cX4_join 2 = .ok (.imul, 1) := by decide +kernel
theorem dX4_join_3 : decode cX4_join 3 = .ok (.istore_n 3, 1) := by decide +kernel
theorem dX4_join_4 : decode cX4_join 4 = .ok (.aload_n 0, 1) := by decide +kernel
theorem dX4_join_5 : decode cX4_join 5 = .ok (.iconst 1, 1) := by decide +kernel
theorem dX4_join_6 : decode cX4_join 6 = .ok (.iload_n 2, 1) := by decide +kernel
theorem dX4_join_7 : decode cX4_join 7 = .ok (.ishl, 1) := by decide +kernel
theorem dX4_join_8 : decode cX4_join 8 = .ok (.aload_n 0, 1) := by decide +kernel
theorem dX4_join_9 : decode cX4_join 9 = .ok (.getfield 27, 3) := by decide +kernel
theorem dX4_join_12 : decode cX4_join 12 = .ok (.iload_n 3, 1) := by decide +kernel
theorem dX4_join_13 : decode cX4_join 13 = .ok (.invokestatic 67, 3) := by decide +kernel
theorem dX4_join_16 : decode cX4_join 16 = .ok (.aload_n 0, 1) := by decide +kernel
theorem dX4_join_17 : decode cX4_join 17 = .ok (.getfield 27, 3) := by decide +kernel
theorem dX4_join_20 : decode cX4_join 20 = .ok (.iload_n 3, 1) := by decide +kernel
theorem dX4_join_21 : decode cX4_join 21 = .ok (.iconst 1, 1) := by decide +kernel
theorem dX4_join_22 : decode cX4_join 22 = .ok (.iadd, 1) := by decide +kernel
theorem dX4_join_23 : decode cX4_join 23 = .ok (.invokestatic 67, 3) := by decide +kernel
theorem dX4_join_26 : decode cX4_join 26 = .ok (.aload_n 0, 1) := by decide +kernel
theorem dX4_join_27 : decode cX4_join 27 = .ok (.getfield 27, 3) := by decide +kernel
theorem dX4_join_30 : decode cX4_join 30 = .ok (.iload_n 3, 1) := by decide +kernel
theorem dX4_join_31 : decode cX4_join 31 = .ok (.iconst 2, 1) := by decide +kernel
theorem dX4_join_32 : decode cX4_join 32 = .ok (.iadd, 1) := by decide +kernel
theorem dX4_join_33 : decode cX4_join 33 = .ok (.invokestatic 67, 3) := by decide +kernel
theorem dX4_join_36 : decode cX4_join 36 = .ok (.invokevirtual 71, 3) := by decide +kernel
theorem dX4_join_39 : decode cX4_join 39 = .ok (.aload_n 0, 1) := by decide +kernel
theorem dX4_join_40 : decode cX4_join 40 = .ok (.iconst 1, 1) := by decide +kernel
theorem dX4_join_41 : decode cX4_join 41 = .ok (.iload_n 1, 1) := by decide +kernel
theorem dX4_join_42 : decode cX4_join 42 = .ok (.ishl, 1) := by decide +kernel
theorem dX4_join_43 : decode cX4_join 43 = .ok (.iconst 1, 1) := by decide +kernel
theorem dX4_join_44 : decode cX4_join 44 = .ok (.iload_n 2, 1) := by decide +kernel
theorem dX4_join_45 : decode cX4_join 45 = .ok (.ishl, 1) := by decide +kernel
theorem dX4_join_46 : decode cX4_join 46 = .ok (.ior, 1) := by decide +kernel
theorem dX4_join_47 : decode cX4_join 47 = .ok (.invokevirtual 75, 3) := by decide +kernel
theorem dX4_join_50 : decode cX4_join 50 = .ok (.return_, 1) := by decide +kernel
theorem dX4_dissolve_0 : decode cX4_dissolve 0 = .ok (.iconst 0, 1) := by decide +kernel
theorem dX4_dissolve_1 : decode cX4_dissolve 1 = .ok (.istore_n 2, 1) := by decide +kernel
theorem dX4_dissolve_2 : decode cX4_dissolve 2 = .ok (.iload_n 2, 1) := by decide +kernel
theorem dX4_dissolve_3 : decode cX4_dissolve 3 = .ok (.aload_n 0, 1) := by decide +kernel
theorem dX4_dissolve_4 : decode cX4_dissolve 4 = .ok (.getfield 37, 3) := by decide +kernel
theorem dX4_dissolve_7 : decode cX4_dissolve 7 = .ok (.if_icmp .ge 51, 3) := by decide +kernel
theorem dX4_dissolve_10 : decode cX4_dissolve 10 = .ok (.aload_n 0, 1) := by decide +kernel
theorem dX4_dissolve_11 : decode cX4_dissolve 11 = .ok (.getfield 21, 3) := by decide +kernel
theorem dX4_dissolve_14 : decode cX4_dissolve 14 = .ok (.iload_n 2, 1) := by decide +kernel
theorem dX4_dissolve_15 : decode cX4_dissolve 15 = .ok (.invokestatic 67, 3) := by decide +kernel
theorem dX4_dissolve_18 : decode cX4_dissolve 18 = .ok (.istore_n 3, 1) := by decide +kernel
theorem dX4_dissolve_19 : decode cX4_dissolve 19 = .ok (.iload_n 3, 1) := by decide +kernel
theorem dX4_dissolve_20 : decode cX4_dissolve 20 = .ok (.iload_n 1, 1) := by decide +kernel
theorem dX4_dissolve_21 : decode cX4_dissolve 21 = .ok (.if_icmp .ne 15, 3) := by decide +kernel
theorem dX4_dissolve_24 : decode cX4_dissolve 24 = .ok (.aload_n 0, 1) := by decide +kernel
theorem dX4_dissolve_25 : decode cX4_dissolve 25 = .ok (.getfield 21, 3) := by decide +kernel
theorem dX4_dissolve_28 : decode cX4_dissolve 28 = .ok (.iload_n 2, 1) := by decide +kernel
theorem dX4_dissolve_29 : decode cX4_dissolve 29 = .ok (.iconst (-1), 1) := by decide +kernel
theorem dX4_dissolve_30 : decode cX4_dissolve 30 = .ok (.invokestatic 63, 3) := by decide +kernel
theorem dX4_dissolve_33 : decode cX4_dissolve 33 = .ok (.goto 19, 3) := by decide +kernel
theorem dX4_dissolve_36 : decode cX4_dissolve 36 = .ok (.iload_n 3, 1) := by decide +kernel
theorem dX4_dissolve_37 : decode cX4_dissolve 37 = .ok (.iload_n 1, 1) := by decide +kernel
theorem dX4_dissolve_38 : decode cX4_dissolve 38 = .ok (.if_icmp .le 14, 3) := by decide +kernel
theorem dX4_dissolve_41 : decode cX4_dissolve 41 = .ok (.aload_n 0, 1) := by decide +kernel
theorem dX4_dissolve_42 : decode cX4_dissolve 42 = .ok (.getfield 21, 3) := by decide +kernel
theorem dX4_dissolve_45 : decode cX4_dissolve 45 = .ok (.iload_n 2, 1) := by decide +kernel
theorem dX4_dissolve_46 : decode cX4_dissolve 46 = .ok (.iload_n 3, 1) := by decide +kernel
theorem dX4_dissolve_47 : decode cX4_dissolve 47 = .ok (.iconst 1, 1) := by decide +kernel
theorem dX4_dissolve_48 : decode cX4_dissolve 48 = .ok (.isub, 1) := by decide +kernel
theorem dX4_dissolve_49 : decode cX4_dissolve 49 = .ok (.invokestatic 63, 3) := by decide +kernel
theorem dX4_dissolve_52 : decode cX4_dissolve 52 = .ok (.iinc 2 1, 3) := by decide +kernel
theorem dX4_dissolve_55 : decode cX4_dissolve 55 = .ok (.goto (-53), 3) := by decide +kernel
theorem dX4_dissolve_58 : decode cX4_dissolve 58 = .ok (.aload_n 0, 1) := by decide +kernel
theorem dX4_dissolve_59 : decode cX4_dissolve 59 = .ok (.dup, 1) := by decide +kernel
theorem dX4_dissolve_60 : decode cX4_dissolve 60 = .ok (.getfield 40, 3) := by decide +kernel
theorem dX4_dissolve_63 : decode cX4_dissolve 63 = .ok (.iconst 1, 1) := by decide +kernel
theorem dX4_dissolve_64 : decode cX4_dissolve 64 = .ok (.isub, 1) := by decide +kernel
theorem dX4_dissolve_65 : decode cX4_dissolve 65 = .ok (.putfield 40, 3) := by decide +kernel
theorem dX4_dissolve_68 : decode cX4_dissolve 68 = .ok (.return_, 1) := by decide +kernel
theorem dX4_wishFor_0 : decode cX4_wishFor 0 = .ok (.iload_n 2, 1) := by decide +kernel
theorem dX4_wishFor_1 : decode cX4_wishFor 1 = .ok (.iconst (-1), 1) := by decide +kernel
theorem dX4_wishFor_2 : decode cX4_wishFor 2 = .ok (.if_icmp .ne 7, 3) := by decide +kernel
theorem dX4_wishFor_5 : decode cX4_wishFor 5 = .ok (.iconst 0, 1) := by decide +kernel
theorem dX4_wishFor_6 : decode cX4_wishFor 6 = .ok (.goto 4, 3) := by decide +kernel
theorem dX4_wishFor_9 : decode cX4_wishFor 9 = .ok (.iconst 1, 1) := by decide +kernel
theorem dX4_wishFor_10 : decode cX4_wishFor 10 = .ok (.iload_n 3, 1) := by decide +kernel
theorem dX4_wishFor_11 : decode cX4_wishFor 11 = .ok (.iconst (-1), 1) := by decide +kernel
theorem dX4_wishFor_12 : decode cX4_wishFor 12 = .ok (.if_icmp .ne 7, 3) := by decide +kernel
theorem dX4_wishFor_15 : decode cX4_wishFor 15 = .ok (.iconst 0, 1) := by decide +kernel
theorem dX4_wishFor_16 : decode cX4_wishFor 16 = .ok (.goto 4, 3) := by decide +kernel
theorem dX4_wishFor_19 : decode cX4_wishFor 19 = .ok (.iconst 1, 1) := by decide +kernel
theorem dX4_wishFor_20 : decode cX4_wishFor 20 = .ok (.iadd, 1) := by decide +kernel
theorem dX4_wishFor_21 : decode cX4_wishFor 21 = .ok (.iload 4, 2) := by decide +kernel
theorem dX4_wishFor_23 : decode cX4_wishFor 23 = .ok (.iconst (-1), 1) := by decide +kernel
theorem dX4_wishFor_24 : decode cX4_wishFor 24 = .ok (.if_icmp .ne 7, 3) := by decide +kernel
theorem dX4_wishFor_27 : decode cX4_wishFor 27 = .ok (.iconst 0, 1) := by decide +kernel
theorem dX4_wishFor_28 : decode cX4_wishFor 28 = .ok (.goto 4, 3) := by decide +kernel
theorem dX4_wishFor_31 : decode cX4_wishFor 31 = .ok (.iconst 1, 1) := by decide +kernel
theorem dX4_wishFor_32 : decode cX4_wishFor 32 = .ok (.iadd, 1) := by decide +kernel
theorem dX4_wishFor_33 : decode cX4_wishFor 33 = .ok (.istore 5, 2) := by decide +kernel
theorem dX4_wishFor_35 : decode cX4_wishFor 35 = .ok (.iconst 0, 1) := by decide +kernel
theorem dX4_wishFor_36 : decode cX4_wishFor 36 = .ok (.istore 6, 2) := by decide +kernel
theorem dX4_wishFor_38 : decode cX4_wishFor 38 = .ok (.iload 6, 2) := by decide +kernel
theorem dX4_wishFor_40 : decode cX4_wishFor 40 = .ok (.aload_n 0, 1) := by decide +kernel
theorem dX4_wishFor_41 : decode cX4_wishFor 41 = .ok (.getfield 37, 3) := by decide +kernel
theorem dX4_wishFor_44 : decode cX4_wishFor 44 = .ok (.if_icmp .ge 71, 3) := by decide +kernel
theorem dX4_wishFor_47 : decode cX4_wishFor 47 = .ok (.iload_n 1, 1) := by decide +kernel
theorem dX4_wishFor_48 : decode cX4_wishFor 48 = .ok (.iload 6, 2) := by decide +kernel
theorem dX4_wishFor_50 : decode cX4_wishFor 50 = .ok (.ishr, 1) := by decide +kernel
theorem dX4_wishFor_51 : decode cX4_wishFor 51 = .ok (.iconst 1, 1) := by decide +kernel
theorem dX4_wishFor_52 : decode cX4_wishFor 52 = .ok (.iand, 1) := by decide +kernel
theorem dX4_wishFor_53 : decode cX4_wishFor 53 = .ok (.iconst 1, 1) := by decide +kernel
theorem dX4_wishFor_54 : decode cX4_wishFor 54 = .ok (.if_icmp .ne 55, 3) := by decide +kernel
theorem dX4_wishFor_57 : decode cX4_wishFor 57 = .ok (.aload_n 0, 1) := by decide +kernel
theorem dX4_wishFor_58 : decode cX4_wishFor 58 = .ok (.getfield 24, 3) := by decide +kernel
theorem dX4_wishFor_61 : decode cX4_wishFor 61 = .ok (.iload 6, 2) := by decide +kernel
theorem dX4_wishFor_63 : decode cX4_wishFor 63 = .ok (.iload 5, 2) := by decide +kernel
theorem dX4_wishFor_65 : decode cX4_wishFor 65 = .ok (.invokestatic 63, 3) := by decide +kernel
theorem dX4_wishFor_68 : decode cX4_wishFor 68 = .ok (.aload_n 0, 1) := by decide +kernel
theorem dX4_wishFor_69 : decode cX4_wishFor 69 = .ok (.getfield 27, 3) := by decide +kernel
theorem dX4_wishFor_72 : decode cX4_wishFor 72 = .ok (.iload 6, 2) := by decide +kernel
theorem dX4_wishFor_74 : decode cX4_wishFor 74 = .ok (.iconst 3, 1) := by decide +kernel
theorem dX4_wishFor_75 : decode cX4_wishFor 75 = .ok (.imul, 1) := by decide +kernel
theorem dX4_wishFor_76 : decode cX4_wishFor 76 = .ok (.iload_n 2, 1) := by decide +kernel
theorem dX4_wishFor_77 : decode cX4_wishFor 77 = .ok (.invokestatic 63, 3) := by decide +kernel
theorem dX4_wishFor_80 : decode cX4_wishFor 80 = .ok (.aload_n 0, 1) := by decide +kernel
theorem dX4_wishFor_81 : decode cX4_wishFor 81 = .ok (.getfield 27, 3) := by decide +kernel
theorem dX4_wishFor_84 : decode cX4_wishFor 84 = .ok (.iload 6, 2) := by decide +kernel
theorem dX4_wishFor_86 : decode cX4_wishFor 86 = .ok (.iconst 3, 1) := by decide +kernel
theorem dX4_wishFor_87 : decode cX4_wishFor 87 = .ok (.imul, 1) := by decide +kernel
theorem dX4_wishFor_88 : decode cX4_wishFor 88 = .ok (.iconst 1, 1) := by decide +kernel
theorem dX4_wishFor_89 : decode cX4_wishFor 89 = .ok (.iadd, 1) := by decide +kernel
theorem dX4_wishFor_90 : decode cX4_wishFor 90 = .ok (.iload_n 3, 1) := by decide +kernel
theorem dX4_wishFor_91 : decode cX4_wishFor 91 = .ok (.invokestatic 63, 3) := by decide +kernel
theorem dX4_wishFor_94 : decode cX4_wishFor 94 = .ok (.aload_n 0, 1) := by decide +kernel
theorem dX4_wishFor_95 : decode cX4_wishFor 95 = .ok (.getfield 27, 3) := by decide +kernel
theorem dX4_wishFor_98 : decode cX4_wishFor 98 = .ok (.iload 6, 2) := by decide +kernel
theorem dX4_wishFor_100 : decode cX4_wishFor 100 = .ok (.iconst 3, 1) := by decide +kernel
theorem dX4_wishFor_101 : decode cX4_wishFor 101 = .ok (.imul, 1) := by decide +kernel
theorem dX4_wishFor_102 : decode cX4_wishFor 102 = .ok (.iconst 2, 1) := by decide +kernel
theorem dX4_wishFor_103 : decode cX4_wishFor 103 = .ok (.iadd, 1) := by decide +kernel
theorem dX4_wishFor_104 : decode cX4_wishFor 104 = .ok (.iload 4, 2) := by decide +kernel
theorem dX4_wishFor_106 : decode cX4_wishFor 106 = .ok (.invokestatic 63, 3) := by decide +kernel
theorem dX4_wishFor_109 : decode cX4_wishFor 109 = .ok (.iinc 6 1, 3) := by decide +kernel
theorem dX4_wishFor_112 : decode cX4_wishFor 112 = .ok (.goto (-74), 3) := by decide +kernel
theorem dX4_wishFor_115 : decode cX4_wishFor 115 = .ok (.return_, 1) := by decide +kernel
theorem dX4_live_0 : decode cX4_live 0 = .ok (.iconst 0, 1) := by decide +kernel
theorem dX4_live_1 : decode cX4_live 1 = .ok (.istore_n 3, 1) := by decide +kernel
theorem dX4_live_2 : decode cX4_live 2 = .ok (.iload_n 3, 1) := by decide +kernel
theorem dX4_live_3 : decode cX4_live 3 = .ok (.aload_n 0, 1) := by decide +kernel
theorem dX4_live_4 : decode cX4_live 4 = .ok (.getfield 37, 3) := by decide +kernel
theorem dX4_live_7 : decode cX4_live 7 = .ok (.if_icmp .ge 59, 3) := by decide +kernel
theorem dX4_live_10 : decode cX4_live 10 = .ok (.aload_n 1, 1) := by decide +kernel
theorem dX4_live_11 : decode cX4_live 11 = .ok (.getfield 79, 3) := by decide +kernel
theorem dX4_live_14 : decode cX4_live 14 = .ok (.iload_n 3, 1) := by decide +kernel
theorem dX4_live_15 : decode cX4_live 15 = .ok (.invokestatic 67, 3) := by decide +kernel
theorem dX4_live_18 : decode cX4_live 18 = .ok (.istore 4, 2) := by decide +kernel
theorem dX4_live_20 : decode cX4_live 20 = .ok (.aload_n 0, 1) := by decide +kernel
theorem dX4_live_21 : decode cX4_live 21 = .ok (.getfield 15, 3) := by decide +kernel
theorem dX4_live_24 : decode cX4_live 24 = .ok (.iload_n 3, 1) := by decide +kernel
theorem dX4_live_25 : decode cX4_live 25 = .ok (.aload_n 2, 1) := by decide +kernel
theorem dX4_live_26 : decode cX4_live 26 = .ok (.aload_n 1, 1) := by decide +kernel
theorem dX4_live_27 : decode cX4_live 27 = .ok (.iload 4, 2) := by decide +kernel
theorem dX4_live_29 : decode cX4_live 29 = .ok (.aload_n 0, 1) := by decide +kernel
theorem dX4_live_30 : decode cX4_live 30 = .ok (.getfield 15, 3) := by decide +kernel
theorem dX4_live_33 : decode cX4_live 33 = .ok (.iload_n 3, 1) := by decide +kernel
theorem dX4_live_34 : decode cX4_live 34 = .ok (.invokestatic 67, 3) := by decide +kernel
theorem dX4_live_37 : decode cX4_live 37 = .ok (.invokevirtual 84, 3) := by decide +kernel
theorem dX4_live_40 : decode cX4_live 40 = .ok (.invokestatic 63, 3) := by decide +kernel
theorem dX4_live_43 : decode cX4_live 43 = .ok (.aload_n 0, 1) := by decide +kernel
theorem dX4_live_44 : decode cX4_live 44 = .ok (.getfield 30, 3) := by decide +kernel
theorem dX4_live_47 : decode cX4_live 47 = .ok (.iload_n 3, 1) := by decide +kernel
theorem dX4_live_48 : decode cX4_live 48 = .ok (.aload_n 2, 1) := by decide +kernel
theorem dX4_live_49 : decode cX4_live 49 = .ok (.getfield 90, 3) := by decide +kernel
theorem dX4_live_52 : decode cX4_live 52 = .ok (.iload 4, 2) := by decide +kernel
theorem dX4_live_54 : decode cX4_live 54 = .ok (.invokestatic 67, 3) := by decide +kernel
theorem dX4_live_57 : decode cX4_live 57 = .ok (.invokestatic 63, 3) := by decide +kernel
theorem dX4_live_60 : decode cX4_live 60 = .ok (.iinc 3 1, 3) := by decide +kernel
theorem dX4_live_63 : decode cX4_live 63 = .ok (.goto (-61), 3) := by decide +kernel
theorem dX4_live_66 : decode cX4_live 66 = .ok (.return_, 1) := by decide +kernel
theorem dX5_init_0 : decode cX5_init 0 = .ok (.aload_n 0, 1) := by decide +kernel
theorem dX5_init_1 : decode cX5_init 1 = .ok (.invokespecial 3, 3) := by decide +kernel
theorem dX5_init_4 : decode cX5_init 4 = .ok (.aload_n 0, 1) := by decide +kernel
theorem dX5_init_5 : decode cX5_init 5 = .ok (.bipush 10, 2) := by decide +kernel
theorem dX5_init_7 : decode cX5_init 7 = .ok (.newarray .int, 2) := by decide +kernel
theorem dX5_init_9 : decode cX5_init 9 = .ok (.putfield 9, 3) := by decide +kernel
theorem dX5_init_12 : decode cX5_init 12 = .ok (.aload_n 0, 1) := by decide +kernel
theorem dX5_init_13 : decode cX5_init 13 = .ok (.bipush 10, 2) := by decide +kernel
theorem dX5_init_15 : decode cX5_init 15 = .ok (.newarray .int, 2) := by decide +kernel
theorem dX5_init_17 : decode cX5_init 17 = .ok (.putfield 15, 3) := by decide +kernel
theorem dX5_init_20 : decode cX5_init 20 = .ok (.aload_n 0, 1) := by decide +kernel
theorem dX5_init_21 : decode cX5_init 21 = .ok (.bipush 10, 2) := by decide +kernel
theorem dX5_init_23 : decode cX5_init 23 = .ok (.newarray .int, 2) := by decide +kernel
theorem dX5_init_25 : decode cX5_init 25 = .ok (.putfield 18, 3) := by decide +kernel
theorem dX5_init_28 : decode cX5_init 28 = .ok (.aload_n 0, 1) := by decide +kernel
theorem dX5_init_29 : decode cX5_init 29 = .ok (.iconst 5, 1) := by decide +kernel
theorem dX5_init_30 : decode cX5_init 30 = .ok (.newarray .int, 2) := by decide +kernel
theorem dX5_init_32 : decode cX5_init 32 = .ok (.putfield 21, 3) := by decide +kernel
theorem dX5_init_35 : decode cX5_init 35 = .ok (.aload_n 0, 1) := by decide +kernel
theorem dX5_init_36 : decode cX5_init 36 = .ok (.iconst 5, 1) := by decide +kernel
theorem dX5_init_37 : decode cX5_init 37 = .ok (.newarray .int, 2) := by decide +kernel
theorem dX5_init_39 : decode cX5_init 39 = .ok (.putfield 24, 3) := by decide +kernel
theorem dX5_init_42 : decode cX5_init 42 = .ok (.aload_n 0, 1) := by decide +kernel
theorem dX5_init_43 : decode cX5_init 43 = .ok (.iconst 5, 1) := by decide +kernel
theorem dX5_init_44 : decode cX5_init 44 = .ok (.newarray .int, 2) := by decide +kernel
theorem dX5_init_46 : decode cX5_init 46 = .ok (.putfield 27, 3) := by decide +kernel
theorem dX5_init_49 : decode cX5_init 49 = .ok (.aload_n 0, 1) := by decide +kernel
theorem dX5_init_50 : decode cX5_init 50 = .ok (.bipush 10, 2) := by decide +kernel
theorem dX5_init_52 : decode cX5_init 52 = .ok (.newarray .int, 2) := by decide +kernel
theorem dX5_init_54 : decode cX5_init 54 = .ok (.putfield 30, 3) := by decide +kernel
theorem dX5_init_57 : decode cX5_init 57 = .ok (.return_, 1) := by decide +kernel
theorem dX5_bySeed_0 : decode cX5_bySeed 0 = .ok (.aload_n 0, 1) := by decide +kernel
theorem dX5_bySeed_1 : decode cX5_bySeed 1 = .ok (.aload_n 1, 1) := by decide +kernel
theorem dX5_bySeed_2 : decode cX5_bySeed 2 = .ok (.iload_n 2, 1) := by decide +kernel
theorem dX5_bySeed_3 : decode cX5_bySeed 3 = .ok (.invokevirtual 33, 3) := by decide +kernel
theorem dX5_bySeed_6 : decode cX5_bySeed 6 = .ok (.aload_n 0, 1) := by decide +kernel
theorem dX5_bySeed_7 : decode cX5_bySeed 7 = .ok (.aload_n 1, 1) := by decide +kernel
theorem dX5_bySeed_8 : decode cX5_bySeed 8 = .ok (.invokevirtual 37, 3) := by decide +kernel
theorem dX5_bySeed_11 : decode cX5_bySeed 11 = .ok (.return_, 1) := by decide +kernel
theorem dX5_lineUp_0 : decode cX5_lineUp 0 = .ok (.iload_n 2, 1) := by decide +kernel
theorem dX5_lineUp_1 : decode cX5_lineUp 1 = .ok (.i2l, 1) := by decide +kernel
theorem dX5_lineUp_2 : decode cX5_lineUp 2 = .ok (.lstore_n 3, 1) := by decide +kernel
theorem dX5_lineUp_3 : decode cX5_lineUp 3 = .ok (.aload_n 1, 1) := by decide +kernel
theorem dX5_lineUp_4 : decode cX5_lineUp 4 = .ok (.getfield 41, 3) := by decide +kernel
theorem dX5_lineUp_7 : decode cX5_lineUp 7 = .ok (.istore 5, 2) := by decide +kernel
theorem dX5_lineUp_9 : decode cX5_lineUp 9 = .ok (.iconst 1, 1) := by decide +kernel
theorem dX5_lineUp_10 : decode cX5_lineUp 10 = .ok (.aload_n 1, 1) := by decide +kernel
theorem dX5_lineUp_11 : decode cX5_lineUp 11 = .ok (.getfield 47, 3) := by decide +kernel
theorem dX5_lineUp_14 : decode cX5_lineUp 14 = .ok (.ishl, 1) := by decide +kernel
theorem dX5_lineUp_15 : decode cX5_lineUp 15 = .ok (.iconst 1, 1) := by decide +kernel
theorem dX5_lineUp_16 : decode cX5_lineUp 16 = .ok (.isub, 1) := by decide +kernel
theorem dX5_lineUp_17 : decode cX5_lineUp 17 = .ok (.istore 6, 2) := by decide +kernel
theorem dX5_lineUp_19 : decode cX5_lineUp 19 = .ok (.iconst 0, 1) := by decide +kernel
theorem dX5_lineUp_20 : decode cX5_lineUp 20 = .ok (.istore 7, 2) := by decide +kernel
theorem dX5_lineUp_22 : decode cX5_lineUp 22 = .ok (.iload 7, 2) := by decide +kernel
theorem dX5_lineUp_24 : decode cX5_lineUp 24 = .ok (.aload_n 1, 1) := by decide +kernel
theorem dX5_lineUp_25 : decode cX5_lineUp 25 = .ok (.getfield 47, 3) := by decide +kernel
theorem dX5_lineUp_28 : decode cX5_lineUp 28 = .ok (.if_icmp .ge 82, 3) := by decide +kernel
theorem dX5_lineUp_31 : decode cX5_lineUp 31 = .ok (.iload 5, 2) := by decide +kernel
theorem dX5_lineUp_33 : decode cX5_lineUp 33 = .ok (.ifCond .le 77, 3) := by decide +kernel
theorem dX5_lineUp_36 : decode cX5_lineUp 36 = .ok (.ldc2_w 50, 3) := by decide +kernel
theorem dX5_lineUp_39 : decode cX5_lineUp 39 = .ok (.lload_n 3, 1) := by decide +kernel
theorem dX5_lineUp_40 : decode cX5_lineUp 40 = .ok (.lmul, 1) := by decide +kernel
theorem dX5_lineUp_41 : decode cX5_lineUp 41 = .ok (.ldc2_w 52, 3) := by decide +kernel
theorem dX5_lineUp_44 : decode cX5_lineUp 44 = .ok (.ladd, 1) := by decide +kernel
theorem dX5_lineUp_45 : decode cX5_lineUp 45 = .ok (.ldc2_w 54, 3) := by decide +kernel
theorem dX5_lineUp_48 : decode cX5_lineUp 48 = .ok (.lrem, 1) := by decide +kernel
theorem dX5_lineUp_49 : decode cX5_lineUp 49 = .ok (.lstore_n 3, 1) := by decide +kernel
theorem dX5_lineUp_50 : decode cX5_lineUp 50 = .ok (.aload_n 1, 1) := by decide +kernel
theorem dX5_lineUp_51 : decode cX5_lineUp 51 = .ok (.iload 6, 2) := by decide +kernel
theorem dX5_lineUp_53 : decode cX5_lineUp 53 = .ok (.lload_n 3, 1) := by decide +kernel
theorem dX5_lineUp_54 : decode cX5_lineUp 54 = .ok (.ldc2_w 56, 3) := by decide +kernel
theorem dX5_lineUp_57 : decode cX5_lineUp 57 = .ok (.ldiv, 1) := by decide +kernel
theorem dX5_lineUp_58 : decode cX5_lineUp 58 = .ok (.iload 5, 2) := by decide +kernel
theorem dX5_lineUp_60 : decode cX5_lineUp 60 = .ok (.i2l, 1) := by decide +kernel
theorem dX5_lineUp_61 : decode cX5_lineUp 61 = .ok (.lrem, 1) := by decide +kernel
theorem dX5_lineUp_62 : decode cX5_lineUp 62 = .ok (.l2i, 1) := by decide +kernel
theorem dX5_lineUp_63 : decode cX5_lineUp 63 = .ok (.invokestatic 58, 3) := by decide +kernel
theorem dX5_lineUp_66 : decode cX5_lineUp 66 = .ok (.istore 8, 2) := by decide +kernel
theorem dX5_lineUp_68 : decode cX5_lineUp 68 = .ok (.aload_n 0, 1) := by decide +kernel
theorem dX5_lineUp_69 : decode cX5_lineUp 69 = .ok (.getfield 9, 3) := by decide +kernel
theorem dX5_lineUp_72 : decode cX5_lineUp 72 = .ok (.iload 7, 2) := by decide +kernel
theorem dX5_lineUp_74 : decode cX5_lineUp 74 = .ok (.iload 8, 2) := by decide +kernel
theorem dX5_lineUp_76 : decode cX5_lineUp 76 = .ok (.invokestatic 62, 3) := by decide +kernel
theorem dX5_lineUp_79 : decode cX5_lineUp 79 = .ok (.iload 6, 2) := by decide +kernel
theorem dX5_lineUp_81 : decode cX5_lineUp 81 = .ok (.iconst 1, 1) := by decide +kernel
theorem dX5_lineUp_82 : decode cX5_lineUp 82 = .ok (.iload 8, 2) := by decide +kernel
theorem dX5_lineUp_84 : decode cX5_lineUp 84 = .ok (.ishl, 1) := by decide +kernel
theorem dX5_lineUp_85 : decode cX5_lineUp 85 = .ok (.iconst (-1), 1) := by decide +kernel
theorem dX5_lineUp_86 : decode cX5_lineUp 86 = .ok (.ixor, 1) := by decide +kernel
theorem dX5_lineUp_87 : decode cX5_lineUp 87 = .ok (.iand, 1) := by decide +kernel
theorem dX5_lineUp_88 : decode cX5_lineUp 88 = .ok (.istore 6, 2) := by decide +kernel
theorem dX5_lineUp_90 : decode cX5_lineUp 90 = .ok (.iload 5, 2) := by decide +kernel
theorem dX5_lineUp_92 : decode cX5_lineUp 92 = .ok (.aload_n 1, 1) := by decide +kernel
theorem dX5_lineUp_93 : decode cX5_lineUp 93 = .ok (.getfield 66, 3) := by decide +kernel
theorem dX5_lineUp_96 : decode cX5_lineUp 96 = .ok (.iload 8, 2) := by decide +kernel
theorem dX5_lineUp_98 : decode cX5_lineUp 98 = .ok (.invokestatic 69, 3) := by decide +kernel
theorem dX5_lineUp_101 : decode cX5_lineUp 101 = .ok (.isub, 1) := by decide +kernel
theorem dX5_lineUp_102 : decode cX5_lineUp 102 = .ok (.istore 5, 2) := by decide +kernel
theorem dX5_lineUp_104 : decode cX5_lineUp 104 = .ok (.iinc 7 1, 3) := by decide +kernel
theorem dX5_lineUp_107 : decode cX5_lineUp 107 = .ok (.goto (-85), 3) := by decide +kernel
theorem dX5_lineUp_110 : decode cX5_lineUp 110 = .ok (.return_, 1) := by decide +kernel
theorem dX5_holderOf_0 : decode cX5_holderOf 0 = .ok (.iconst 0, 1) := by decide +kernel
theorem dX5_holderOf_1 : decode cX5_holderOf 1 = .ok (.istore_n 3, 1) := by decide +kernel
theorem dX5_holderOf_2 : decode cX5_holderOf 2 = .ok (.iconst 0, 1) := by decide +kernel
theorem dX5_holderOf_3 : decode cX5_holderOf 3 = .ok (.istore 4, 2) := by decide +kernel
theorem dX5_holderOf_5 : decode cX5_holderOf 5 = .ok (.iload 4, 2) := by decide +kernel
theorem dX5_holderOf_7 : decode cX5_holderOf 7 = .ok (.aload_n 0, 1) := by decide +kernel
theorem dX5_holderOf_8 : decode cX5_holderOf 8 = .ok (.getfield 47, 3) := by decide +kernel
theorem dX5_holderOf_11 : decode cX5_holderOf 11 = .ok (.if_icmp .ge 39, 3) := by decide +kernel
theorem dX5_holderOf_14 : decode cX5_holderOf 14 = .ok (.iload_n 1, 1) := by decide +kernel
theorem dX5_holderOf_15 : decode cX5_holderOf 15 = .ok (.iload 4, 2) := by decide +kernel
theorem dX5_holderOf_17 : decode cX5_holderOf 17 = .ok (.ishr, 1) := by decide +kernel
theorem dX5_holderOf_18 : decode cX5_holderOf 18 = .ok (.iconst 1, 1) := by decide +kernel
theorem dX5_holderOf_19 : decode cX5_holderOf 19 = .ok (.iand, 1) := by decide +kernel
theorem dX5_holderOf_20 : decode cX5_holderOf 20 = .ok (.iconst 1, 1) := by decide +kernel
theorem dX5_holderOf_21 : decode cX5_holderOf 21 = .ok (.if_icmp .ne 23, 3) := by decide +kernel
theorem dX5_holderOf_24 : decode cX5_holderOf 24 = .ok (.iload_n 3, 1) := by decide +kernel
theorem dX5_holderOf_25 : decode cX5_holderOf 25 = .ok (.aload_n 0, 1) := by decide +kernel
theorem dX5_holderOf_26 : decode cX5_holderOf 26 = .ok (.getfield 66, 3) := by decide +kernel
theorem dX5_holderOf_29 : decode cX5_holderOf 29 = .ok (.iload 4, 2) := by decide +kernel
theorem dX5_holderOf_31 : decode cX5_holderOf 31 = .ok (.invokestatic 69, 3) := by decide +kernel
theorem dX5_holderOf_34 : decode cX5_holderOf 34 = .ok (.iadd, 1) := by decide +kernel
theorem dX5_holderOf_35 : decode cX5_holderOf 35 = .ok (.istore_n 3, 1) := by decide +kernel
theorem dX5_holderOf_36 : decode cX5_holderOf 36 = .ok (.iload_n 3, 1) := by decide +kernel
theorem dX5_holderOf_37 : decode cX5_holderOf 37 = .ok (.iload_n 2, 1) := by decide +kernel
theorem dX5_holderOf_38 : decode cX5_holderOf 38 = .ok (.if_icmp .le 6, 3) := by decide +kernel
theorem dX5_holderOf_41 : decode cX5_holderOf 41 = .ok (.iload 4, 2) := by decide +kernel
theorem dX5_holderOf_43 : decode cX5_holderOf 43 = .ok (.ireturn, 1) := by decide +kernel
theorem dX5_holderOf_44 : decode cX5_holderOf 44 = .ok (.iinc 4 1, 3) := by decide +kernel
theorem dX5_holderOf_47 : decode cX5_holderOf 47 = .ok (.goto (-42), 3) := by decide +kernel
theorem dX5_holderOf_50 : decode cX5_holderOf 50 = .ok (.iconst 0, 1) := by decide +kernel
theorem dX5_holderOf_51 : decode cX5_holderOf 51 = .ok (.ireturn, 1) := by decide +kernel
theorem dX5_settle_0 : decode cX5_settle 0 = .ok (.iconst 0, 1) := by decide +kernel
theorem dX5_settle_1 : decode cX5_settle 1 = .ok (.istore_n 2, 1) := by decide +kernel
theorem dX5_settle_2 : decode cX5_settle 2 = .ok (.iload_n 2, 1) := by decide +kernel
theorem dX5_settle_3 : decode cX5_settle 3 = .ok (.aload_n 1, 1) := by decide +kernel
theorem dX5_settle_4 : decode cX5_settle 4 = .ok (.getfield 47, 3) := by decide +kernel
theorem dX5_settle_7 : decode cX5_settle 7 = .ok (.if_icmp .ge 27, 3) := by decide +kernel
theorem dX5_settle_10 : decode cX5_settle 10 = .ok (.aload_n 0, 1) := by decide +kernel
theorem dX5_settle_11 : decode cX5_settle 11 = .ok (.getfield 15, 3) := by decide +kernel
theorem dX5_settle_14 : decode cX5_settle 14 = .ok (.iload_n 2, 1) := by decide +kernel
theorem dX5_settle_15 : decode cX5_settle 15 = .ok (.iconst (-1), 1) := by decide +kernel
theorem dX5_settle_16 : decode cX5_settle 16 = .ok (.invokestatic 62, 3) := by decide +kernel
theorem dX5_settle_19 : decode cX5_settle 19 = .ok (.aload_n 0, 1) := by decide +kernel
theorem dX5_settle_20 : decode cX5_settle 20 = .ok (.getfield 18, 3) := by decide +kernel
theorem dX5_settle_23 : decode cX5_settle 23 = .ok (.iload_n 2, 1) := by decide +kernel
theorem dX5_settle_24 : decode cX5_settle 24 = .ok (.iconst 0, 1) := by decide +kernel
theorem dX5_settle_25 : decode cX5_settle 25 = .ok (.invokestatic 62, 3) := by decide +kernel
theorem dX5_settle_28 : decode cX5_settle 28 = .ok (.iinc 2 1, 3) := by decide +kernel
theorem dX5_settle_31 : decode cX5_settle 31 = .ok (.goto (-29), 3) := by decide +kernel
theorem dX5_settle_34 : decode cX5_settle 34 = .ok (.iconst 0, 1) := by decide +kernel
theorem dX5_settle_35 : decode cX5_settle 35 = .ok (.istore_n 2, 1) := by decide +kernel
theorem dX5_settle_36 : decode cX5_settle 36 = .ok (.iload_n 2, 1) := by decide +kernel
theorem dX5_settle_37 : decode cX5_settle 37 = .ok (.aload_n 1, 1) := by decide +kernel
theorem dX5_settle_38 : decode cX5_settle 38 = .ok (.getfield 73, 3) := by decide +kernel
theorem dX5_settle_41 : decode cX5_settle 41 = .ok (.if_icmp .ge 57, 3) := by decide +kernel
theorem dX5_settle_44 : decode cX5_settle 44 = .ok (.aload_n 0, 1) := by decide +kernel
theorem dX5_settle_45 : decode cX5_settle 45 = .ok (.getfield 21, 3) := by decide +kernel
theorem dX5_settle_48 : decode cX5_settle 48 = .ok (.iload_n 2, 1) := by decide +kernel
theorem dX5_settle_49 : decode cX5_settle 49 = .ok (.aload_n 1, 1) := by decide +kernel
theorem dX5_settle_50 : decode cX5_settle 50 = .ok (.getfield 76, 3) := by decide +kernel
theorem dX5_settle_53 : decode cX5_settle 53 = .ok (.iload_n 2, 1) := by decide +kernel
theorem dX5_settle_54 : decode cX5_settle 54 = .ok (.invokestatic 69, 3) := by decide +kernel
theorem dX5_settle_57 : decode cX5_settle 57 = .ok (.invokestatic 62, 3) := by decide +kernel
theorem dX5_settle_60 : decode cX5_settle 60 = .ok (.aload_n 0, 1) := by decide +kernel
theorem dX5_settle_61 : decode cX5_settle 61 = .ok (.getfield 27, 3) := by decide +kernel
theorem dX5_settle_64 : decode cX5_settle 64 = .ok (.iload_n 2, 1) := by decide +kernel
theorem dX5_settle_65 : decode cX5_settle 65 = .ok (.aload_n 1, 1) := by decide +kernel
theorem dX5_settle_66 : decode cX5_settle 66 = .ok (.getfield 79, 3) := by decide +kernel
theorem dX5_settle_69 : decode cX5_settle 69 = .ok (.iload_n 2, 1) := by decide +kernel
theorem dX5_settle_70 : decode cX5_settle 70 = .ok (.invokestatic 69, 3) := by decide +kernel
theorem dX5_settle_73 : decode cX5_settle 73 = .ok (.invokestatic 62, 3) := by decide +kernel
theorem dX5_settle_76 : decode cX5_settle 76 = .ok (.aload_n 0, 1) := by decide +kernel
theorem dX5_settle_77 : decode cX5_settle 77 = .ok (.getfield 24, 3) := by decide +kernel
theorem dX5_settle_80 : decode cX5_settle 80 = .ok (.iload_n 2, 1) := by decide +kernel
theorem dX5_settle_81 : decode cX5_settle 81 = .ok (.aload_n 1, 1) := by decide +kernel
theorem dX5_settle_82 : decode cX5_settle 82 = .ok (.getfield 82, 3) := by decide +kernel
theorem dX5_settle_85 : decode cX5_settle 85 = .ok (.iload_n 2, 1) := by decide +kernel
theorem dX5_settle_86 : decode cX5_settle 86 = .ok (.invokestatic 69, 3) := by decide +kernel
theorem dX5_settle_89 : decode cX5_settle 89 = .ok (.invokestatic 62, 3) := by decide +kernel
theorem dX5_settle_92 : decode cX5_settle 92 = .ok (.iinc 2 1, 3) := by decide +kernel
theorem dX5_settle_95 : decode cX5_settle 95 = .ok (.goto (-59), 3) := by decide +kernel
theorem dX5_settle_98 : decode cX5_settle 98 = .ok (.aload_n 1, 1) := by decide +kernel
theorem dX5_settle_99 : decode cX5_settle 99 = .ok (.getfield 85, 3) := by decide +kernel
theorem dX5_settle_102 : decode cX5_settle 102 = .ok (.ifCond .eq 8, 3) := by decide +kernel
theorem dX5_settle_105 : decode cX5_settle 105 = .ok (.aload_n 0, 1) := by decide +kernel
theorem dX5_settle_106 : decode cX5_settle 106 = .ok (.aload_n 1, 1) := by decide +kernel
theorem dX5_settle_107 : decode cX5_settle 107 = .ok (.invokevirtual 89, 3) := by decide +kernel
theorem dX5_settle_110 : decode cX5_settle 110 = .ok (.aload_n 0, 1) := by decide +kernel
theorem dX5_settle_111 : decode cX5_settle 111 = .ok (.aload_n 1, 1) := by decide +kernel
theorem dX5_settle_112 : decode cX5_settle 112 = .ok (.invokevirtual 92, 3) := by decide +kernel
theorem dX5_settle_115 : decode cX5_settle 115 = .ok (.return_, 1) := by decide +kernel
theorem dX5_firstRound_0 : decode cX5_firstRound 0 = .ok (.aload_n 0, 1) := by decide +kernel
theorem dX5_firstRound_1 : decode cX5_firstRound 1 = .ok (.aload_n 1, 1) := by decide +kernel
theorem dX5_firstRound_2 : decode cX5_firstRound 2 = .ok (.invokevirtual 95, 3) := by decide +kernel
theorem dX5_firstRound_5 : decode cX5_firstRound 5 = .ok (.iconst 0, 1) := by decide +kernel
theorem dX5_firstRound_6 : decode cX5_firstRound 6 = .ok (.istore_n 2, 1) := by decide +kernel
theorem dX5_firstRound_7 : decode cX5_firstRound 7 = .ok (.iload_n 2, 1) := by decide +kernel
theorem dX5_firstRound_8 : decode cX5_firstRound 8 = .ok (.aload_n 1, 1) := by decide +kernel
theorem dX5_firstRound_9 : decode cX5_firstRound 9 = .ok (.getfield 47, 3) := by decide +kernel
theorem dX5_firstRound_12 : decode cX5_firstRound 12 = .ok (.if_icmp .ge 85, 3) := by decide +kernel
theorem dX5_firstRound_15 : decode cX5_firstRound 15 = .ok (.aload_n 0, 1) := by decide +kernel
theorem dX5_firstRound_16 : decode cX5_firstRound 16 = .ok (.getfield 30, 3) := by decide +kernel
theorem dX5_firstRound_19 : decode cX5_firstRound 19 = .ok (.iload_n 2, 1) := by decide +kernel
theorem dX5_firstRound_20 : decode cX5_firstRound 20 = .ok (.invokestatic 69, 3) := by decide +kernel
theorem dX5_firstRound_23 : decode cX5_firstRound 23 = .ok (.istore_n 3, 1) := by decide +kernel
theorem dX5_firstRound_24 : decode cX5_firstRound 24 = .ok (.aload_n 1, 1) := by decide +kernel
theorem dX5_firstRound_25 : decode cX5_firstRound 25 = .ok (.iload_n 3, 1) := by decide +kernel
theorem dX5_firstRound_26 : decode cX5_firstRound 26 = .ok (.iconst 0, 1) := by decide +kernel
theorem dX5_firstRound_27 : decode cX5_firstRound 27 = .ok (.invokevirtual 98, 3) := by decide +kernel
theorem dX5_firstRound_30 : decode cX5_firstRound 30 = .ok (.istore 4, 2) := by decide +kernel
theorem dX5_firstRound_32 : decode cX5_firstRound 32 = .ok (.iload 4, 2) := by decide +kernel
theorem dX5_firstRound_34 : decode cX5_firstRound 34 = .ok (.iconst (-1), 1) := by decide +kernel
theorem dX5_firstRound_35 : decode cX5_firstRound 35 = .ok (.if_icmp .eq 56, 3) := by decide +kernel
theorem dX5_firstRound_38 : decode cX5_firstRound 38 = .ok (.aload_n 1, 1) := by decide +kernel
theorem dX5_firstRound_39 : decode cX5_firstRound 39 = .ok (.iload_n 3, 1) := by decide +kernel
theorem dX5_firstRound_40 : decode cX5_firstRound 40 = .ok (.aload_n 0, 1) := by decide +kernel
theorem dX5_firstRound_41 : decode cX5_firstRound 41 = .ok (.getfield 27, 3) := by decide +kernel
theorem dX5_firstRound_44 : decode cX5_firstRound 44 = .ok (.iload 4, 2) := by decide +kernel
theorem dX5_firstRound_46 : decode cX5_firstRound 46 = .ok (.invokestatic 69, 3) := by decide +kernel
theorem dX5_firstRound_49 : decode cX5_firstRound 49 = .ok (.aload_n 0, 1) := by decide +kernel
theorem dX5_firstRound_50 : decode cX5_firstRound 50 = .ok (.getfield 24, 3) := by decide +kernel
theorem dX5_firstRound_53 : decode cX5_firstRound 53 = .ok (.iload 4, 2) := by decide +kernel
theorem dX5_firstRound_55 : decode cX5_firstRound 55 = .ok (.invokestatic 69, 3) := by decide +kernel
theorem dX5_firstRound_58 : decode cX5_firstRound 58 = .ok (.invokevirtual 102, 3) := by decide +kernel
theorem dX5_firstRound_61 : decode cX5_firstRound 61 = .ok (.ifCond .eq 30, 3) := by decide +kernel
theorem dX5_firstRound_64 : decode cX5_firstRound 64 = .ok (.aload_n 0, 1) := by decide +kernel
theorem dX5_firstRound_65 : decode cX5_firstRound 65 = .ok (.getfield 27, 3) := by decide +kernel
theorem dX5_firstRound_68 : decode cX5_firstRound 68 = .ok (.iload 4, 2) := by decide +kernel
theorem dX5_firstRound_70 : decode cX5_firstRound 70 = .ok (.aload_n 1, 1) := by decide +kernel
theorem dX5_firstRound_71 : decode cX5_firstRound 71 = .ok (.getfield 106, 3) := by decide +kernel
theorem dX5_firstRound_74 : decode cX5_firstRound 74 = .ok (.iload_n 3, 1) := by decide +kernel
theorem dX5_firstRound_75 : decode cX5_firstRound 75 = .ok (.invokestatic 69, 3) := by decide +kernel
theorem dX5_firstRound_78 : decode cX5_firstRound 78 = .ok (.ineg, 1) := by decide +kernel
theorem dX5_firstRound_79 : decode cX5_firstRound 79 = .ok (.invokestatic 109, 3) := by decide +kernel
theorem dX5_firstRound_82 : decode cX5_firstRound 82 = .ok (.aload_n 0, 1) := by decide +kernel
theorem dX5_firstRound_83 : decode cX5_firstRound 83 = .ok (.aload_n 1, 1) := by decide +kernel
theorem dX5_firstRound_84 : decode cX5_firstRound 84 = .ok (.iload_n 3, 1) := by decide +kernel
theorem dX5_firstRound_85 : decode cX5_firstRound 85 = .ok (.iload 4, 2) := by decide +kernel
theorem dX5_firstRound_87 : decode cX5_firstRound 87 = .ok (.iconst 1, 1) := by decide +kernel
theorem dX5_firstRound_88 : decode cX5_firstRound 88 = .ok (.invokevirtual 112, 3) := by decide +kernel
theorem dX5_firstRound_91 : decode cX5_firstRound 91 = .ok (.iinc 2 1, 3) := by decide +kernel
theorem dX5_firstRound_94 : decode cX5_firstRound 94 = .ok (.goto (-87), 3) := by decide +kernel
theorem dX5_firstRound_97 : decode cX5_firstRound 97 = .ok (.return_, 1) := by decide +kernel
theorem dX5_rank_0 : decode cX5_rank 0 = .ok (.iconst 0, 1) := by decide +kernel
theorem dX5_rank_1 : decode cX5_rank 1 = .ok (.istore_n 2, 1) := by decide +kernel
theorem dX5_rank_2 : decode cX5_rank 2 = .ok (.iload_n 2, 1) := by decide +kernel
theorem dX5_rank_3 : decode cX5_rank 3 = .ok (.aload_n 1, 1) := by decide +kernel
theorem dX5_rank_4 : decode cX5_rank 4 = .ok (.getfield 47, 3) := by decide +kernel
theorem dX5_rank_7 : decode cX5_rank 7 = .ok (.if_icmp .ge 95, 3) := by decide +kernel
theorem dX5_rank_10 : decode cX5_rank 10 = .ok (.aload_n 0, 1) := by decide +kernel
theorem dX5_rank_11 : decode cX5_rank 11 = .ok (.getfield 9, 3) := by decide +kernel
theorem dX5_rank_14 : decode cX5_rank 14 = .ok (.iload_n 2, 1) := by decide +kernel
theorem dX5_rank_15 : decode cX5_rank 15 = .ok (.invokestatic 69, 3) := by decide +kernel
theorem dX5_rank_18 : decode cX5_rank 18 = .ok (.istore_n 3, 1) := by decide +kernel
theorem dX5_rank_19 : decode cX5_rank 19 = .ok (.aload_n 1, 1) := by decide +kernel
theorem dX5_rank_20 : decode cX5_rank 20 = .ok (.getfield 116, 3) := by decide +kernel
theorem dX5_rank_23 : decode cX5_rank 23 = .ok (.iload_n 3, 1) := by decide +kernel
theorem dX5_rank_24 : decode cX5_rank 24 = .ok (.invokestatic 69, 3) := by decide +kernel
theorem dX5_rank_27 : decode cX5_rank 27 = .ok (.istore 4, 2) := by decide +kernel
theorem dX5_rank_29 : decode cX5_rank 29 = .ok (.iload_n 2, 1) := by decide +kernel
theorem dX5_rank_30 : decode cX5_rank 30 = .ok (.istore 5, 2) := by decide +kernel
theorem dX5_rank_32 : decode cX5_rank 32 = .ok (.iload 5, 2) := by decide +kernel
theorem dX5_rank_34 : decode cX5_rank 34 = .ok (.ifCond .le 52, 3) := by decide +kernel
theorem dX5_rank_37 : decode cX5_rank 37 = .ok (.aload_n 1, 1) := by decide +kernel
theorem dX5_rank_38 : decode cX5_rank 38 = .ok (.getfield 116, 3) := by decide +kernel
theorem dX5_rank_41 : decode cX5_rank 41 = .ok (.aload_n 0, 1) := by decide +kernel
theorem dX5_rank_42 : decode cX5_rank 42 = .ok (.getfield 30, 3) := by decide +kernel
theorem dX5_rank_45 : decode cX5_rank 45 = .ok (.iload 5, 2) := by decide +kernel
theorem dX5_rank_47 : decode cX5_rank 47 = .ok (.iconst 1, 1) := by decide +kernel
theorem dX5_rank_48 : decode cX5_rank 48 = .ok (.isub, 1) := by decide +kernel
theorem dX5_rank_49 : decode cX5_rank 49 = .ok (.invokestatic 69, 3) := by decide +kernel
theorem dX5_rank_52 : decode cX5_rank 52 = .ok (.invokestatic 69, 3) := by decide +kernel
theorem dX5_rank_55 : decode cX5_rank 55 = .ok (.iload 4, 2) := by decide +kernel
theorem dX5_rank_57 : decode cX5_rank 57 = .ok (.if_icmp .ge 29, 3) := by decide +kernel
theorem dX5_rank_60 : decode cX5_rank 60 = .ok (.aload_n 0, 1) := by decide +kernel
theorem dX5_rank_61 : decode cX5_rank 61 = .ok (.getfield 30, 3) := by decide +kernel
theorem dX5_rank_64 : decode cX5_rank 64 = .ok (.iload 5, 2) := by decide +kernel
theorem dX5_rank_66 : decode cX5_rank 66 = .ok (.aload_n 0, 1) := by decide +kernel
theorem dX5_rank_67 : decode cX5_rank 67 = .ok (.getfield 30, 3) := by decide +kernel
theorem dX5_rank_70 : decode cX5_rank 70 = .ok (.iload 5, 2) := by decide +kernel
theorem dX5_rank_72 : decode cX5_rank 72 = .ok (.iconst 1, 1) := by decide +kernel
theorem dX5_rank_73 : decode cX5_rank 73 = .ok (.isub, 1) := by decide +kernel
theorem dX5_rank_74 : decode cX5_rank 74 = .ok (.invokestatic 69, 3) := by decide +kernel
theorem dX5_rank_77 : decode cX5_rank 77 = .ok (.invokestatic 62, 3) := by decide +kernel
theorem dX5_rank_80 : decode cX5_rank 80 = .ok (.iinc 5 (-1), 3) := by decide +kernel
theorem dX5_rank_83 : decode cX5_rank 83 = .ok (.goto (-51), 3) := by decide +kernel
theorem dX5_rank_86 : decode cX5_rank 86 = .ok (.aload_n 0, 1) := by decide +kernel
theorem dX5_rank_87 : decode cX5_rank 87 = .ok (.getfield 30, 3) := by decide +kernel
theorem dX5_rank_90 : decode cX5_rank 90 = .ok (.iload 5, 2) := by decide +kernel
theorem dX5_rank_92 : decode cX5_rank 92 = .ok (.iload_n 3, 1) := by decide +kernel
theorem dX5_rank_93 : decode cX5_rank 93 = .ok (.invokestatic 62, 3) := by decide +kernel
theorem dX5_rank_96 : decode cX5_rank 96 = .ok (.iinc 2 1, 3) := by decide +kernel
theorem dX5_rank_99 : decode cX5_rank 99 = .ok (.goto (-97), 3) := by decide +kernel
theorem dX5_rank_102 : decode cX5_rank 102 = .ok (.return_, 1) := by decide +kernel
theorem dX5_secondRound_0 : decode cX5_secondRound 0 = .ok (.iconst 0, 1) := by decide +kernel
theorem dX5_secondRound_1 : decode cX5_secondRound 1 = .ok (.istore_n 2, 1) := by decide +kernel
theorem dX5_secondRound_2 : decode cX5_secondRound 2 = .ok (.iload_n 2, 1) := by decide +kernel
theorem dX5_secondRound_3 : decode cX5_secondRound 3 = .ok (.aload_n 1, 1) := by decide +kernel
theorem dX5_secondRound_4 : decode cX5_secondRound 4 = .ok (.getfield 47, 3) := by decide +kernel
theorem dX5_secondRound_7 : decode cX5_secondRound 7 = .ok (.if_icmp .ge 107, 3) := by decide +kernel
theorem dX5_secondRound_10 : decode cX5_secondRound 10 = .ok (.aload_n 0, 1) := by decide +kernel
theorem dX5_secondRound_11 : decode cX5_secondRound 11 = .ok (.getfield 9, 3) := by decide +kernel
theorem dX5_secondRound_14 : decode cX5_secondRound 14 = .ok (.iload_n 2, 1) := by decide +kernel
theorem dX5_secondRound_15 : decode cX5_secondRound 15 = .ok (.invokestatic 69, 3) := by decide +kernel
theorem dX5_secondRound_18 : decode cX5_secondRound 18 = .ok (.istore_n 3, 1) := by decide +kernel
theorem dX5_secondRound_19 : decode cX5_secondRound 19 = .ok (.aload_n 0, 1) := by decide +kernel
theorem dX5_secondRound_20 : decode cX5_secondRound 20 = .ok (.getfield 15, 3) := by decide +kernel
theorem dX5_secondRound_23 : decode cX5_secondRound 23 = .ok (.iload_n 3, 1) := by decide +kernel
theorem dX5_secondRound_24 : decode cX5_secondRound 24 = .ok (.invokestatic 69, 3) := by decide +kernel
theorem dX5_secondRound_27 : decode cX5_secondRound 27 = .ok (.iconst (-1), 1) := by decide +kernel
theorem dX5_secondRound_28 : decode cX5_secondRound 28 = .ok (.if_icmp .ne 14, 3) := by decide +kernel
theorem dX5_secondRound_31 : decode cX5_secondRound 31 = .ok (.aload_n 1, 1) := by decide +kernel
theorem dX5_secondRound_32 : decode cX5_secondRound 32 = .ok (.getfield 119, 3) := by decide +kernel
theorem dX5_secondRound_35 : decode cX5_secondRound 35 = .ok (.iload_n 3, 1) := by decide +kernel
theorem dX5_secondRound_36 : decode cX5_secondRound 36 = .ok (.invokestatic 69, 3) := by decide +kernel
theorem dX5_secondRound_39 : decode cX5_secondRound 39 = .ok (.goto 4, 3) := by decide +kernel
theorem dX5_secondRound_42 : decode cX5_secondRound 42 = .ok (.iconst 0, 1) := by decide +kernel
theorem dX5_secondRound_43 : decode cX5_secondRound 43 = .ok (.istore 4, 2) := by decide +kernel
theorem dX5_secondRound_45 : decode cX5_secondRound 45 = .ok (.iconst 0, 1) := by decide +kernel
