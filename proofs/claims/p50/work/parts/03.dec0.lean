theorem sdX0_init_0 : dz_Seg cX0_init [(0, .aload_n 0, 1), (1, .invokespecial 3, 3), (4, .aload_n 0, 1), (5, .sipush 128, 3), (8, .newarray .long, 2), (10, .putfield 9, 3), (13, .aload_n 0, 1), (14, .sipush 128, 3)] := dz_sg _ 0 (by decide +kernel)
theorem dX0_init_0 : decode cX0_init 0 = .ok (.aload_n 0, 1) := sdX0_init_0.1
theorem dX0_init_1 : decode cX0_init 1 = .ok (.invokespecial 3, 3) := sdX0_init_0.2.1
theorem dX0_init_4 : decode cX0_init 4 = .ok (.aload_n 0, 1) := sdX0_init_0.2.2.1
theorem dX0_init_5 : decode cX0_init 5 = .ok (.sipush 128, 3) := sdX0_init_0.2.2.2.1
theorem dX0_init_8 : decode cX0_init 8 = .ok (.newarray .long, 2) := sdX0_init_0.2.2.2.2.1
theorem dX0_init_10 : decode cX0_init 10 = .ok (.putfield 9, 3) := sdX0_init_0.2.2.2.2.2.1
theorem dX0_init_13 : decode cX0_init 13 = .ok (.aload_n 0, 1) := sdX0_init_0.2.2.2.2.2.2.1
theorem dX0_init_14 : decode cX0_init 14 = .ok (.sipush 128, 3) := sdX0_init_0.2.2.2.2.2.2.2.1
theorem sdX0_init_17 : dz_Seg cX0_init [(17, .newarray .int, 2), (19, .putfield 15, 3), (22, .aload_n 0, 1), (23, .bipush 35, 2), (25, .newarray .long, 2), (27, .putfield 19, 3), (30, .aload_n 0, 1), (31, .bipush 7, 2)] := dz_sg _ 17 (by decide +kernel)
theorem dX0_init_17 : decode cX0_init 17 = .ok (.newarray .int, 2) := sdX0_init_17.1
theorem dX0_init_19 : decode cX0_init 19 = .ok (.putfield 15, 3) := sdX0_init_17.2.1
theorem dX0_init_22 : decode cX0_init 22 = .ok (.aload_n 0, 1) := sdX0_init_17.2.2.1
theorem dX0_init_23 : decode cX0_init 23 = .ok (.bipush 35, 2) := sdX0_init_17.2.2.2.1
theorem dX0_init_25 : decode cX0_init 25 = .ok (.newarray .long, 2) := sdX0_init_17.2.2.2.2.1
theorem dX0_init_27 : decode cX0_init 27 = .ok (.putfield 19, 3) := sdX0_init_17.2.2.2.2.2.1
theorem dX0_init_30 : decode cX0_init 30 = .ok (.aload_n 0, 1) := sdX0_init_17.2.2.2.2.2.2.1
theorem dX0_init_31 : decode cX0_init 31 = .ok (.bipush 7, 2) := sdX0_init_17.2.2.2.2.2.2.2.1
theorem sdX0_init_33 : dz_Seg cX0_init [(33, .newarray .long, 2), (35, .putfield 22, 3), (38, .aload_n 0, 1), (39, .new 25, 3), (42, .dup, 1), (43, .invokespecial 27, 3), (46, .putfield 28, 3), (49, .return_, 1)] := dz_sg _ 33 (by decide +kernel)
theorem dX0_init_33 : decode cX0_init 33 = .ok (.newarray .long, 2) := sdX0_init_33.1
theorem dX0_init_35 : decode cX0_init 35 = .ok (.putfield 22, 3) := sdX0_init_33.2.1
theorem dX0_init_38 : decode cX0_init 38 = .ok (.aload_n 0, 1) := sdX0_init_33.2.2.1
theorem dX0_init_39 : decode cX0_init 39 = .ok (.new 25, 3) := sdX0_init_33.2.2.2.1
theorem dX0_init_42 : decode cX0_init 42 = .ok (.dup, 1) := sdX0_init_33.2.2.2.2.1
theorem dX0_init_43 : decode cX0_init 43 = .ok (.invokespecial 27, 3) := sdX0_init_33.2.2.2.2.2.1
theorem dX0_init_46 : decode cX0_init 46 = .ok (.putfield 28, 3) := sdX0_init_33.2.2.2.2.2.2.1
theorem dX0_init_49 : decode cX0_init 49 = .ok (.return_, 1) := sdX0_init_33.2.2.2.2.2.2.2.1
theorem sdX0_reckon_0 : dz_Seg cX0_reckon [(0, .aload_n 0, 1), (1, .getfield 9, 3), (4, .lconst 0, 1), (5, .invokestatic 32, 3), (8, .aload_n 0, 1), (9, .getfield 15, 3), (12, .iconst 0, 1), (13, .invokestatic 36, 3)] := dz_sg _ 0 (by decide +kernel)
theorem dX0_reckon_0 : decode cX0_reckon 0 = .ok (.aload_n 0, 1) := sdX0_reckon_0.1
theorem dX0_reckon_1 : decode cX0_reckon 1 = .ok (.getfield 9, 3) := sdX0_reckon_0.2.1
theorem dX0_reckon_4 : decode cX0_reckon 4 = .ok (.lconst 0, 1) := sdX0_reckon_0.2.2.1
theorem dX0_reckon_5 : decode cX0_reckon 5 = .ok (.invokestatic 32, 3) := sdX0_reckon_0.2.2.2.1
theorem dX0_reckon_8 : decode cX0_reckon 8 = .ok (.aload_n 0, 1) := sdX0_reckon_0.2.2.2.2.1
theorem dX0_reckon_9 : decode cX0_reckon 9 = .ok (.getfield 15, 3) := sdX0_reckon_0.2.2.2.2.2.1
theorem dX0_reckon_12 : decode cX0_reckon 12 = .ok (.iconst 0, 1) := sdX0_reckon_0.2.2.2.2.2.2.1
theorem dX0_reckon_13 : decode cX0_reckon 13 = .ok (.invokestatic 36, 3) := sdX0_reckon_0.2.2.2.2.2.2.2.1
theorem sdX0_reckon_16 : dz_Seg cX0_reckon [(16, .aload_n 0, 1), (17, .getfield 19, 3), (20, .lconst 0, 1), (21, .invokestatic 32, 3), (24, .aload_n 0, 1), (25, .getfield 22, 3), (28, .lconst 0, 1), (29, .invokestatic 32, 3)] := dz_sg _ 16 (by decide +kernel)
theorem dX0_reckon_16 : decode cX0_reckon 16 = .ok (.aload_n 0, 1) := sdX0_reckon_16.1
theorem dX0_reckon_17 : decode cX0_reckon 17 = .ok (.getfield 19, 3) := sdX0_reckon_16.2.1
theorem dX0_reckon_20 : decode cX0_reckon 20 = .ok (.lconst 0, 1) := sdX0_reckon_16.2.2.1
theorem dX0_reckon_21 : decode cX0_reckon 21 = .ok (.invokestatic 32, 3) := sdX0_reckon_16.2.2.2.1
theorem dX0_reckon_24 : decode cX0_reckon 24 = .ok (.aload_n 0, 1) := sdX0_reckon_16.2.2.2.2.1
theorem dX0_reckon_25 : decode cX0_reckon 25 = .ok (.getfield 22, 3) := sdX0_reckon_16.2.2.2.2.2.1
theorem dX0_reckon_28 : decode cX0_reckon 28 = .ok (.lconst 0, 1) := sdX0_reckon_16.2.2.2.2.2.2.1
theorem dX0_reckon_29 : decode cX0_reckon 29 = .ok (.invokestatic 32, 3) := sdX0_reckon_16.2.2.2.2.2.2.2.1
theorem sdX0_reckon_32 : dz_Seg cX0_reckon [(32, .aload_n 1, 1), (33, .getfield 40, 3), (36, .bipush 7, 2), (38, .if_icmp .gt 24, 3), (41, .aload_n 0, 1), (42, .aload_n 1, 1), (43, .iconst 0, 1), (44, .iconst 1, 1)] := dz_sg _ 32 (by decide +kernel)
theorem dX0_reckon_32 : decode cX0_reckon 32 = .ok (.aload_n 1, 1) := sdX0_reckon_32.1
theorem dX0_reckon_33 : decode cX0_reckon 33 = .ok (.getfield 40, 3) := sdX0_reckon_32.2.1
theorem dX0_reckon_36 : decode cX0_reckon 36 = .ok (.bipush 7, 2) := sdX0_reckon_32.2.2.1
theorem dX0_reckon_38 : decode cX0_reckon 38 = .ok (.if_icmp .gt 24, 3) := sdX0_reckon_32.2.2.2.1
theorem dX0_reckon_41 : decode cX0_reckon 41 = .ok (.aload_n 0, 1) := sdX0_reckon_32.2.2.2.2.1
theorem dX0_reckon_42 : decode cX0_reckon 42 = .ok (.aload_n 1, 1) := sdX0_reckon_32.2.2.2.2.2.1
theorem dX0_reckon_43 : decode cX0_reckon 43 = .ok (.iconst 0, 1) := sdX0_reckon_32.2.2.2.2.2.2.1
theorem dX0_reckon_44 : decode cX0_reckon 44 = .ok (.iconst 1, 1) := sdX0_reckon_32.2.2.2.2.2.2.2.1
theorem sdX0_reckon_45 : dz_Seg cX0_reckon [(45, .aload_n 1, 1), (46, .getfield 40, 3), (49, .ishl, 1), (50, .iconst 1, 1), (51, .isub, 1), (52, .aload_n 1, 1), (53, .getfield 46, 3), (56, .ldc2_w 49, 3)] := dz_sg _ 45 (by decide +kernel)
theorem dX0_reckon_45 : decode cX0_reckon 45 = .ok (.aload_n 1, 1) := sdX0_reckon_45.1
theorem dX0_reckon_46 : decode cX0_reckon 46 = .ok (.getfield 40, 3) := sdX0_reckon_45.2.1
theorem dX0_reckon_49 : decode cX0_reckon 49 = .ok (.ishl, 1) := sdX0_reckon_45.2.2.1
theorem dX0_reckon_50 : decode cX0_reckon 50 = .ok (.iconst 1, 1) := sdX0_reckon_45.2.2.2.1
theorem dX0_reckon_51 : decode cX0_reckon 51 = .ok (.isub, 1) := sdX0_reckon_45.2.2.2.2.1
theorem dX0_reckon_52 : decode cX0_reckon 52 = .ok (.aload_n 1, 1) := sdX0_reckon_45.2.2.2.2.2.1
theorem dX0_reckon_53 : decode cX0_reckon 53 = .ok (.getfield 46, 3) := sdX0_reckon_45.2.2.2.2.2.2.1
theorem dX0_reckon_56 : decode cX0_reckon 56 = .ok (.ldc2_w 49, 3) := sdX0_reckon_45.2.2.2.2.2.2.2.1
theorem sdX0_reckon_59 : dz_Seg cX0_reckon [(59, .invokestatic 51, 3), (62, .return_, 1)] := dz_sg _ 59 (by decide +kernel)
theorem dX0_reckon_59 : decode cX0_reckon 59 = .ok (.invokestatic 51, 3) := sdX0_reckon_59.1
theorem dX0_reckon_62 : decode cX0_reckon 62 = .ok (.return_, 1) := sdX0_reckon_59.2.1
theorem sdX0_walk_0 : dz_Seg cX0_walk [(0, .iload_n 3, 1), (1, .ifCond .ne 19, 3), (4, .aload_n 0, 1), (5, .getfield 28, 3), (8, .aload_n 1, 1), (9, .invokevirtual 55, 3), (12, .aload_n 0, 1), (13, .aload_n 1, 1)] := dz_sg _ 0 (by decide +kernel)
theorem dX0_walk_0 : decode cX0_walk 0 = .ok (.iload_n 3, 1) := sdX0_walk_0.1
theorem dX0_walk_1 : decode cX0_walk 1 = .ok (.ifCond .ne 19, 3) := sdX0_walk_0.2.1
theorem dX0_walk_4 : decode cX0_walk 4 = .ok (.aload_n 0, 1) := sdX0_walk_0.2.2.1
theorem dX0_walk_5 : decode cX0_walk 5 = .ok (.getfield 28, 3) := sdX0_walk_0.2.2.2.1
theorem dX0_walk_8 : decode cX0_walk 8 = .ok (.aload_n 1, 1) := sdX0_walk_0.2.2.2.2.1
theorem dX0_walk_9 : decode cX0_walk 9 = .ok (.invokevirtual 55, 3) := sdX0_walk_0.2.2.2.2.2.1
theorem dX0_walk_12 : decode cX0_walk 12 = .ok (.aload_n 0, 1) := sdX0_walk_0.2.2.2.2.2.2.1
theorem dX0_walk_13 : decode cX0_walk 13 = .ok (.aload_n 1, 1) := sdX0_walk_0.2.2.2.2.2.2.2.1
theorem sdX0_walk_14 : dz_Seg cX0_walk [(14, .lload 5, 2), (16, .invokevirtual 59, 3), (19, .return_, 1), (20, .iload_n 2, 1), (21, .bipush 7, 2), (23, .if_icmp .ge 8, 3), (26, .iload 4, 2), (28, .ifCond .gt 4, 3)] := dz_sg _ 14 (by decide +kernel)
theorem dX0_walk_14 : decode cX0_walk 14 = .ok (.lload 5, 2) := sdX0_walk_14.1
theorem dX0_walk_16 : decode cX0_walk 16 = .ok (.invokevirtual 59, 3) := sdX0_walk_14.2.1
theorem dX0_walk_19 : decode cX0_walk 19 = .ok (.return_, 1) := sdX0_walk_14.2.2.1
theorem dX0_walk_20 : decode cX0_walk 20 = .ok (.iload_n 2, 1) := sdX0_walk_14.2.2.2.1
theorem dX0_walk_21 : decode cX0_walk 21 = .ok (.bipush 7, 2) := sdX0_walk_14.2.2.2.2.1
theorem dX0_walk_23 : decode cX0_walk 23 = .ok (.if_icmp .ge 8, 3) := sdX0_walk_14.2.2.2.2.2.1
theorem dX0_walk_26 : decode cX0_walk 26 = .ok (.iload 4, 2) := sdX0_walk_14.2.2.2.2.2.2.1
theorem dX0_walk_28 : decode cX0_walk 28 = .ok (.ifCond .gt 4, 3) := sdX0_walk_14.2.2.2.2.2.2.2.1
theorem sdX0_walk_31 : dz_Seg cX0_walk [(31, .return_, 1), (32, .iconst 0, 1), (33, .istore 7, 2), (35, .iload 7, 2), (37, .aload_n 1, 1), (38, .getfield 40, 3), (41, .if_icmp .ge 74, 3), (44, .iload_n 3, 1)] := dz_sg _ 31 (by decide +kernel)
theorem dX0_walk_31 : decode cX0_walk 31 = .ok (.return_, 1) := sdX0_walk_31.1
theorem dX0_walk_32 : decode cX0_walk 32 = .ok (.iconst 0, 1) := sdX0_walk_31.2.1
theorem dX0_walk_33 : decode cX0_walk 33 = .ok (.istore 7, 2) := sdX0_walk_31.2.2.1
theorem dX0_walk_35 : decode cX0_walk 35 = .ok (.iload 7, 2) := sdX0_walk_31.2.2.2.1
theorem dX0_walk_37 : decode cX0_walk 37 = .ok (.aload_n 1, 1) := sdX0_walk_31.2.2.2.2.1
theorem dX0_walk_38 : decode cX0_walk 38 = .ok (.getfield 40, 3) := sdX0_walk_31.2.2.2.2.2.1
theorem dX0_walk_41 : decode cX0_walk 41 = .ok (.if_icmp .ge 74, 3) := sdX0_walk_31.2.2.2.2.2.2.1
theorem dX0_walk_44 : decode cX0_walk 44 = .ok (.iload_n 3, 1) := sdX0_walk_31.2.2.2.2.2.2.2.1
theorem sdX0_walk_45 : dz_Seg cX0_walk [(45, .iload 7, 2), (47, .ishr, 1), (48, .iconst 1, 1), (49, .iand, 1), (50, .iconst 1, 1), (51, .if_icmp .ne 58, 3), (54, .aload_n 1, 1), (55, .getfield 63, 3)] := dz_sg _ 45 (by decide +kernel)
theorem dX0_walk_45 : decode cX0_walk 45 = .ok (.iload 7, 2) := sdX0_walk_45.1
theorem dX0_walk_47 : decode cX0_walk 47 = .ok (.ishr, 1) := sdX0_walk_45.2.1
theorem dX0_walk_48 : decode cX0_walk 48 = .ok (.iconst 1, 1) := sdX0_walk_45.2.2.1
theorem dX0_walk_49 : decode cX0_walk 49 = .ok (.iand, 1) := sdX0_walk_45.2.2.2.1
theorem dX0_walk_50 : decode cX0_walk 50 = .ok (.iconst 1, 1) := sdX0_walk_45.2.2.2.2.1
theorem dX0_walk_51 : decode cX0_walk 51 = .ok (.if_icmp .ne 58, 3) := sdX0_walk_45.2.2.2.2.2.1
theorem dX0_walk_54 : decode cX0_walk 54 = .ok (.aload_n 1, 1) := sdX0_walk_45.2.2.2.2.2.2.1
theorem dX0_walk_55 : decode cX0_walk 55 = .ok (.getfield 63, 3) := sdX0_walk_45.2.2.2.2.2.2.2.1
theorem sdX0_walk_58 : dz_Seg cX0_walk [(58, .iload 7, 2), (60, .invokestatic 66, 3), (63, .istore 8, 2), (65, .aload_n 0, 1), (66, .getfield 28, 3), (69, .getfield 70, 3), (72, .iload_n 2, 1), (73, .iload 7, 2)] := dz_sg _ 58 (by decide +kernel)
theorem dX0_walk_58 : decode cX0_walk 58 = .ok (.iload 7, 2) := sdX0_walk_58.1
theorem dX0_walk_60 : decode cX0_walk 60 = .ok (.invokestatic 66, 3) := sdX0_walk_58.2.1
theorem dX0_walk_63 : decode cX0_walk 63 = .ok (.istore 8, 2) := sdX0_walk_58.2.2.1
theorem dX0_walk_65 : decode cX0_walk 65 = .ok (.aload_n 0, 1) := sdX0_walk_58.2.2.2.1
theorem dX0_walk_66 : decode cX0_walk 66 = .ok (.getfield 28, 3) := sdX0_walk_58.2.2.2.2.1
theorem dX0_walk_69 : decode cX0_walk 69 = .ok (.getfield 70, 3) := sdX0_walk_58.2.2.2.2.2.1
theorem dX0_walk_72 : decode cX0_walk 72 = .ok (.iload_n 2, 1) := sdX0_walk_58.2.2.2.2.2.2.1
theorem dX0_walk_73 : decode cX0_walk 73 = .ok (.iload 7, 2) := sdX0_walk_58.2.2.2.2.2.2.2.1
theorem sdX0_walk_75 : dz_Seg cX0_walk [(75, .invokestatic 73, 3), (78, .aload_n 0, 1), (79, .aload_n 1, 1), (80, .iload_n 2, 1), (81, .iconst 1, 1), (82, .iadd, 1), (83, .iload_n 3, 1), (84, .iconst 1, 1)] := dz_sg _ 75 (by decide +kernel)
theorem dX0_walk_75 : decode cX0_walk 75 = .ok (.invokestatic 73, 3) := sdX0_walk_75.1
theorem dX0_walk_78 : decode cX0_walk 78 = .ok (.aload_n 0, 1) := sdX0_walk_75.2.1
theorem dX0_walk_79 : decode cX0_walk 79 = .ok (.aload_n 1, 1) := sdX0_walk_75.2.2.1
theorem dX0_walk_80 : decode cX0_walk 80 = .ok (.iload_n 2, 1) := sdX0_walk_75.2.2.2.1
theorem dX0_walk_81 : decode cX0_walk 81 = .ok (.iconst 1, 1) := sdX0_walk_75.2.2.2.2.1
theorem dX0_walk_82 : decode cX0_walk 82 = .ok (.iadd, 1) := sdX0_walk_75.2.2.2.2.2.1
theorem dX0_walk_83 : decode cX0_walk 83 = .ok (.iload_n 3, 1) := sdX0_walk_75.2.2.2.2.2.2.1
theorem dX0_walk_84 : decode cX0_walk 84 = .ok (.iconst 1, 1) := sdX0_walk_75.2.2.2.2.2.2.2.1
theorem sdX0_walk_85 : dz_Seg cX0_walk [(85, .iload 7, 2), (87, .ishl, 1), (88, .iconst (-1), 1), (89, .ixor, 1), (90, .iand, 1), (91, .iload 4, 2), (93, .iload 8, 2), (95, .isub, 1)] := dz_sg _ 85 (by decide +kernel)
theorem dX0_walk_85 : decode cX0_walk 85 = .ok (.iload 7, 2) := sdX0_walk_85.1
theorem dX0_walk_87 : decode cX0_walk 87 = .ok (.ishl, 1) := sdX0_walk_85.2.1
theorem dX0_walk_88 : decode cX0_walk 88 = .ok (.iconst (-1), 1) := sdX0_walk_85.2.2.1
theorem dX0_walk_89 : decode cX0_walk 89 = .ok (.ixor, 1) := sdX0_walk_85.2.2.2.1
theorem dX0_walk_90 : decode cX0_walk 90 = .ok (.iand, 1) := sdX0_walk_85.2.2.2.2.1
theorem dX0_walk_91 : decode cX0_walk 91 = .ok (.iload 4, 2) := sdX0_walk_85.2.2.2.2.2.1
theorem dX0_walk_93 : decode cX0_walk 93 = .ok (.iload 8, 2) := sdX0_walk_85.2.2.2.2.2.2.1
theorem dX0_walk_95 : decode cX0_walk 95 = .ok (.isub, 1) := sdX0_walk_85.2.2.2.2.2.2.2.1
theorem sdX0_walk_96 : dz_Seg cX0_walk [(96, .lload 5, 2), (98, .iload 8, 2), (100, .i2l, 1), (101, .lmul, 1), (102, .iload 4, 2), (104, .i2l, 1), (105, .ldiv, 1), (106, .invokestatic 51, 3)] := dz_sg _ 96 (by decide +kernel)
theorem dX0_walk_96 : decode cX0_walk 96 = .ok (.lload 5, 2) := sdX0_walk_96.1
theorem dX0_walk_98 : decode cX0_walk 98 = .ok (.iload 8, 2) := sdX0_walk_96.2.1
theorem dX0_walk_100 : decode cX0_walk 100 = .ok (.i2l, 1) := sdX0_walk_96.2.2.1
theorem dX0_walk_101 : decode cX0_walk 101 = .ok (.lmul, 1) := sdX0_walk_96.2.2.2.1
theorem dX0_walk_102 : decode cX0_walk 102 = .ok (.iload 4, 2) := sdX0_walk_96.2.2.2.2.1
theorem dX0_walk_104 : decode cX0_walk 104 = .ok (.i2l, 1) := sdX0_walk_96.2.2.2.2.2.1
theorem dX0_walk_105 : decode cX0_walk 105 = .ok (.ldiv, 1) := sdX0_walk_96.2.2.2.2.2.2.1
theorem dX0_walk_106 : decode cX0_walk 106 = .ok (.invokestatic 51, 3) := sdX0_walk_96.2.2.2.2.2.2.2.1
theorem sdX0_walk_109 : dz_Seg cX0_walk [(109, .iinc 7 1, 3), (112, .goto (-77), 3), (115, .return_, 1)] := dz_sg _ 109 (by decide +kernel)
theorem dX0_walk_109 : decode cX0_walk 109 = .ok (.iinc 7 1, 3) := sdX0_walk_109.1
theorem dX0_walk_112 : decode cX0_walk 112 = .ok (.goto (-77), 3) := sdX0_walk_109.2.1
theorem dX0_walk_115 : decode cX0_walk 115 = .ok (.return_, 1) := sdX0_walk_109.2.2.1
theorem sdX0_record_0 : dz_Seg cX0_record [(0, .iconst 0, 1), (1, .istore 4, 2), (3, .iconst 0, 1), (4, .istore 5, 2), (6, .iload 5, 2), (8, .aload_n 1, 1), (9, .getfield 40, 3), (12, .if_icmp .ge 82, 3)] := dz_sg _ 0 (by decide +kernel)
theorem dX0_record_0 : decode cX0_record 0 = .ok (.iconst 0, 1) := sdX0_record_0.1
theorem dX0_record_1 : decode cX0_record 1 = .ok (.istore 4, 2) := sdX0_record_0.2.1
theorem dX0_record_3 : decode cX0_record 3 = .ok (.iconst 0, 1) := sdX0_record_0.2.2.1
theorem dX0_record_4 : decode cX0_record 4 = .ok (.istore 5, 2) := sdX0_record_0.2.2.2.1
theorem dX0_record_6 : decode cX0_record 6 = .ok (.iload 5, 2) := sdX0_record_0.2.2.2.2.1
theorem dX0_record_8 : decode cX0_record 8 = .ok (.aload_n 1, 1) := sdX0_record_0.2.2.2.2.2.1
theorem dX0_record_9 : decode cX0_record 9 = .ok (.getfield 40, 3) := sdX0_record_0.2.2.2.2.2.2.1
theorem dX0_record_12 : decode cX0_record 12 = .ok (.if_icmp .ge 82, 3) := sdX0_record_0.2.2.2.2.2.2.2.1
theorem sdX0_record_15 : dz_Seg cX0_record [(15, .aload_n 0, 1), (16, .getfield 28, 3), (19, .getfield 77, 3), (22, .iload 5, 2), (24, .invokestatic 66, 3), (27, .istore 6, 2), (29, .iload 6, 2), (31, .iconst (-1), 1)] := dz_sg _ 15 (by decide +kernel)
theorem dX0_record_15 : decode cX0_record 15 = .ok (.aload_n 0, 1) := sdX0_record_15.1
theorem dX0_record_16 : decode cX0_record 16 = .ok (.getfield 28, 3) := sdX0_record_15.2.1
theorem dX0_record_19 : decode cX0_record 19 = .ok (.getfield 77, 3) := sdX0_record_15.2.2.1
theorem dX0_record_22 : decode cX0_record 22 = .ok (.iload 5, 2) := sdX0_record_15.2.2.2.1
theorem dX0_record_24 : decode cX0_record 24 = .ok (.invokestatic 66, 3) := sdX0_record_15.2.2.2.2.1
theorem dX0_record_27 : decode cX0_record 27 = .ok (.istore 6, 2) := sdX0_record_15.2.2.2.2.2.1
theorem dX0_record_29 : decode cX0_record 29 = .ok (.iload 6, 2) := sdX0_record_15.2.2.2.2.2.2.1
theorem dX0_record_31 : decode cX0_record 31 = .ok (.iconst (-1), 1) := sdX0_record_15.2.2.2.2.2.2.2.1
theorem sdX0_record_32 : dz_Seg cX0_record [(32, .if_icmp .ne 6, 3), (35, .goto 53, 3), (38, .iload 4, 2), (40, .iconst 1, 1), (41, .iload 5, 2), (43, .ishl, 1), (44, .ior, 1), (45, .istore 4, 2)] := dz_sg _ 32 (by decide +kernel)
theorem dX0_record_32 : decode cX0_record 32 = .ok (.if_icmp .ne 6, 3) := sdX0_record_32.1
theorem dX0_record_35 : decode cX0_record 35 = .ok (.goto 53, 3) := sdX0_record_32.2.1
theorem dX0_record_38 : decode cX0_record 38 = .ok (.iload 4, 2) := sdX0_record_32.2.2.1
theorem dX0_record_40 : decode cX0_record 40 = .ok (.iconst 1, 1) := sdX0_record_32.2.2.2.1
theorem dX0_record_41 : decode cX0_record 41 = .ok (.iload 5, 2) := sdX0_record_32.2.2.2.2.1
theorem dX0_record_43 : decode cX0_record 43 = .ok (.ishl, 1) := sdX0_record_32.2.2.2.2.2.1
theorem dX0_record_44 : decode cX0_record 44 = .ok (.ior, 1) := sdX0_record_32.2.2.2.2.2.2.1
theorem dX0_record_45 : decode cX0_record 45 = .ok (.istore 4, 2) := sdX0_record_32.2.2.2.2.2.2.2.1
theorem sdX0_record_47 : dz_Seg cX0_record [(47, .aload_n 0, 1), (48, .getfield 19, 3), (51, .iload 5, 2), (53, .iconst 5, 1), (54, .imul, 1), (55, .iload 6, 2), (57, .iadd, 1), (58, .lload_n 2, 1)] := dz_sg _ 47 (by decide +kernel)
theorem dX0_record_47 : decode cX0_record 47 = .ok (.aload_n 0, 1) := sdX0_record_47.1
theorem dX0_record_48 : decode cX0_record 48 = .ok (.getfield 19, 3) := sdX0_record_47.2.1
theorem dX0_record_51 : decode cX0_record 51 = .ok (.iload 5, 2) := sdX0_record_47.2.2.1
theorem dX0_record_53 : decode cX0_record 53 = .ok (.iconst 5, 1) := sdX0_record_47.2.2.2.1
theorem dX0_record_54 : decode cX0_record 54 = .ok (.imul, 1) := sdX0_record_47.2.2.2.2.1
theorem dX0_record_55 : decode cX0_record 55 = .ok (.iload 6, 2) := sdX0_record_47.2.2.2.2.2.1
theorem dX0_record_57 : decode cX0_record 57 = .ok (.iadd, 1) := sdX0_record_47.2.2.2.2.2.2.1
theorem dX0_record_58 : decode cX0_record 58 = .ok (.lload_n 2, 1) := sdX0_record_47.2.2.2.2.2.2.2.1
theorem sdX0_record_59 : dz_Seg cX0_record [(59, .invokestatic 80, 3), (62, .aload_n 0, 1), (63, .getfield 28, 3), (66, .getfield 84, 3), (69, .iload 5, 2), (71, .invokestatic 66, 3), (74, .iconst 1, 1), (75, .if_icmp .ne 13, 3)] := dz_sg _ 59 (by decide +kernel)
theorem dX0_record_59 : decode cX0_record 59 = .ok (.invokestatic 80, 3) := sdX0_record_59.1
theorem dX0_record_62 : decode cX0_record 62 = .ok (.aload_n 0, 1) := sdX0_record_59.2.1
theorem dX0_record_63 : decode cX0_record 63 = .ok (.getfield 28, 3) := sdX0_record_59.2.2.1
theorem dX0_record_66 : decode cX0_record 66 = .ok (.getfield 84, 3) := sdX0_record_59.2.2.2.1
theorem dX0_record_69 : decode cX0_record 69 = .ok (.iload 5, 2) := sdX0_record_59.2.2.2.2.1
theorem dX0_record_71 : decode cX0_record 71 = .ok (.invokestatic 66, 3) := sdX0_record_59.2.2.2.2.2.1
theorem dX0_record_74 : decode cX0_record 74 = .ok (.iconst 1, 1) := sdX0_record_59.2.2.2.2.2.2.1
theorem dX0_record_75 : decode cX0_record 75 = .ok (.if_icmp .ne 13, 3) := sdX0_record_59.2.2.2.2.2.2.2.1
theorem sdX0_record_78 : dz_Seg cX0_record [(78, .aload_n 0, 1), (79, .getfield 22, 3), (82, .iload 5, 2), (84, .lload_n 2, 1), (85, .invokestatic 80, 3), (88, .iinc 5 1, 3), (91, .goto (-85), 3), (94, .aload_n 0, 1)] := dz_sg _ 78 (by decide +kernel)
theorem dX0_record_78 : decode cX0_record 78 = .ok (.aload_n 0, 1) := sdX0_record_78.1
theorem dX0_record_79 : decode cX0_record 79 = .ok (.getfield 22, 3) := sdX0_record_78.2.1
theorem dX0_record_82 : decode cX0_record 82 = .ok (.iload 5, 2) := sdX0_record_78.2.2.1
theorem dX0_record_84 : decode cX0_record 84 = .ok (.lload_n 2, 1) := sdX0_record_78.2.2.2.1
theorem dX0_record_85 : decode cX0_record 85 = .ok (.invokestatic 80, 3) := sdX0_record_78.2.2.2.2.1
theorem dX0_record_88 : decode cX0_record 88 = .ok (.iinc 5 1, 3) := sdX0_record_78.2.2.2.2.2.1
theorem dX0_record_91 : decode cX0_record 91 = .ok (.goto (-85), 3) := sdX0_record_78.2.2.2.2.2.2.1
theorem dX0_record_94 : decode cX0_record 94 = .ok (.aload_n 0, 1) := sdX0_record_78.2.2.2.2.2.2.2.1
theorem sdX0_record_95 : dz_Seg cX0_record [(95, .getfield 9, 3), (98, .iload 4, 2), (100, .lload_n 2, 1), (101, .invokestatic 80, 3), (104, .aload_n 0, 1), (105, .getfield 15, 3), (108, .iload 4, 2), (110, .iconst 1, 1)] := dz_sg _ 95 (by decide +kernel)
theorem dX0_record_95 : decode cX0_record 95 = .ok (.getfield 9, 3) := sdX0_record_95.1
theorem dX0_record_98 : decode cX0_record 98 = .ok (.iload 4, 2) := sdX0_record_95.2.1
theorem dX0_record_100 : decode cX0_record 100 = .ok (.lload_n 2, 1) := sdX0_record_95.2.2.1
theorem dX0_record_101 : decode cX0_record 101 = .ok (.invokestatic 80, 3) := sdX0_record_95.2.2.2.1
theorem dX0_record_104 : decode cX0_record 104 = .ok (.aload_n 0, 1) := sdX0_record_95.2.2.2.2.1
theorem dX0_record_105 : decode cX0_record 105 = .ok (.getfield 15, 3) := sdX0_record_95.2.2.2.2.2.1
theorem dX0_record_108 : decode cX0_record 108 = .ok (.iload 4, 2) := sdX0_record_95.2.2.2.2.2.2.1
theorem dX0_record_110 : decode cX0_record 110 = .ok (.iconst 1, 1) := sdX0_record_95.2.2.2.2.2.2.2.1
theorem sdX0_record_111 : dz_Seg cX0_record [(111, .invokestatic 73, 3), (114, .return_, 1)] := dz_sg _ 111 (by decide +kernel)
theorem dX0_record_111 : decode cX0_record 111 = .ok (.invokestatic 73, 3) := sdX0_record_111.1
theorem dX0_record_114 : decode cX0_record 114 = .ok (.return_, 1) := sdX0_record_111.2.1
theorem sdX0_certainUnit_0 : dz_Seg cX0_certainUnit [(0, .aload_n 0, 1), (1, .getfield 19, 3), (4, .iload_n 1, 1), (5, .iconst 5, 1), (6, .imul, 1), (7, .iload_n 2, 1), (8, .iadd, 1), (9, .invokestatic 87, 3)] := dz_sg _ 0 (by decide +kernel)
theorem dX0_certainUnit_0 : decode cX0_certainUnit 0 = .ok (.aload_n 0, 1) := sdX0_certainUnit_0.1
theorem dX0_certainUnit_1 : decode cX0_certainUnit 1 = .ok (.getfield 19, 3) := sdX0_certainUnit_0.2.1
theorem dX0_certainUnit_4 : decode cX0_certainUnit 4 = .ok (.iload_n 1, 1) := sdX0_certainUnit_0.2.2.1
theorem dX0_certainUnit_5 : decode cX0_certainUnit 5 = .ok (.iconst 5, 1) := sdX0_certainUnit_0.2.2.2.1
theorem dX0_certainUnit_6 : decode cX0_certainUnit 6 = .ok (.imul, 1) := sdX0_certainUnit_0.2.2.2.2.1
theorem dX0_certainUnit_7 : decode cX0_certainUnit 7 = .ok (.iload_n 2, 1) := sdX0_certainUnit_0.2.2.2.2.2.1
theorem dX0_certainUnit_8 : decode cX0_certainUnit 8 = .ok (.iadd, 1) := sdX0_certainUnit_0.2.2.2.2.2.2.1
theorem dX0_certainUnit_9 : decode cX0_certainUnit 9 = .ok (.invokestatic 87, 3) := sdX0_certainUnit_0.2.2.2.2.2.2.2.1
theorem sdX0_certainUnit_12 : dz_Seg cX0_certainUnit [(12, .lreturn, 1)] := dz_sg _ 12 (by decide +kernel)
theorem dX0_certainUnit_12 : decode cX0_certainUnit 12 = .ok (.lreturn, 1) := sdX0_certainUnit_12.1
theorem sdX0_anyUnit_0 : dz_Seg cX0_anyUnit [(0, .aload_n 0, 1), (1, .iconst 1, 1), (2, .iload_n 1, 1), (3, .ishl, 1), (4, .invokevirtual 91, 3), (7, .lreturn, 1)] := dz_sg _ 0 (by decide +kernel)
theorem dX0_anyUnit_0 : decode cX0_anyUnit 0 = .ok (.aload_n 0, 1) := sdX0_anyUnit_0.1
theorem dX0_anyUnit_1 : decode cX0_anyUnit 1 = .ok (.iconst 1, 1) := sdX0_anyUnit_0.2.1
theorem dX0_anyUnit_2 : decode cX0_anyUnit 2 = .ok (.iload_n 1, 1) := sdX0_anyUnit_0.2.2.1
theorem dX0_anyUnit_3 : decode cX0_anyUnit 3 = .ok (.ishl, 1) := sdX0_anyUnit_0.2.2.2.1
theorem dX0_anyUnit_4 : decode cX0_anyUnit 4 = .ok (.invokevirtual 91, 3) := sdX0_anyUnit_0.2.2.2.2.1
theorem dX0_anyUnit_7 : decode cX0_anyUnit 7 = .ok (.lreturn, 1) := sdX0_anyUnit_0.2.2.2.2.2.1
theorem sdX0_allOf_0 : dz_Seg cX0_allOf [(0, .lconst 0, 1), (1, .lstore_n 2, 1), (2, .iconst 0, 1), (3, .istore 4, 2), (5, .iload 4, 2), (7, .sipush 128, 3), (10, .if_icmp .ge 29, 3), (13, .iload 4, 2)] := dz_sg _ 0 (by decide +kernel)
theorem dX0_allOf_0 : decode cX0_allOf 0 = .ok (.lconst 0, 1) := sdX0_allOf_0.1
theorem dX0_allOf_1 : decode cX0_allOf 1 = .ok (.lstore_n 2, 1) := sdX0_allOf_0.2.1
theorem dX0_allOf_2 : decode cX0_allOf 2 = .ok (.iconst 0, 1) := sdX0_allOf_0.2.2.1
theorem dX0_allOf_3 : decode cX0_allOf 3 = .ok (.istore 4, 2) := sdX0_allOf_0.2.2.2.1
theorem dX0_allOf_5 : decode cX0_allOf 5 = .ok (.iload 4, 2) := sdX0_allOf_0.2.2.2.2.1
theorem dX0_allOf_7 : decode cX0_allOf 7 = .ok (.sipush 128, 3) := sdX0_allOf_0.2.2.2.2.2.1
theorem dX0_allOf_10 : decode cX0_allOf 10 = .ok (.if_icmp .ge 29, 3) := sdX0_allOf_0.2.2.2.2.2.2.1
theorem dX0_allOf_13 : decode cX0_allOf 13 = .ok (.iload 4, 2) := sdX0_allOf_0.2.2.2.2.2.2.2.1
theorem sdX0_allOf_15 : dz_Seg cX0_allOf [(15, .iload_n 1, 1), (16, .iand, 1), (17, .iload_n 1, 1), (18, .if_icmp .ne 15, 3), (21, .lload_n 2, 1), (22, .aload_n 0, 1), (23, .getfield 9, 3), (26, .iload 4, 2)] := dz_sg _ 15 (by decide +kernel)
theorem dX0_allOf_15 : decode cX0_allOf 15 = .ok (.iload_n 1, 1) := sdX0_allOf_15.1
theorem dX0_allOf_16 : decode cX0_allOf 16 = .ok (.iand, 1) := sdX0_allOf_15.2.1
theorem dX0_allOf_17 : decode cX0_allOf 17 = .ok (.iload_n 1, 1) := sdX0_allOf_15.2.2.1
theorem dX0_allOf_18 : decode cX0_allOf 18 = .ok (.if_icmp .ne 15, 3) := sdX0_allOf_15.2.2.2.1
theorem dX0_allOf_21 : decode cX0_allOf 21 = .ok (.lload_n 2, 1) := sdX0_allOf_15.2.2.2.2.1
theorem dX0_allOf_22 : decode cX0_allOf 22 = .ok (.aload_n 0, 1) := sdX0_allOf_15.2.2.2.2.2.1
theorem dX0_allOf_23 : decode cX0_allOf 23 = .ok (.getfield 9, 3) := sdX0_allOf_15.2.2.2.2.2.2.1
theorem dX0_allOf_26 : decode cX0_allOf 26 = .ok (.iload 4, 2) := sdX0_allOf_15.2.2.2.2.2.2.2.1
theorem sdX0_allOf_28 : dz_Seg cX0_allOf [(28, .invokestatic 87, 3), (31, .ladd, 1), (32, .lstore_n 2, 1), (33, .iinc 4 1, 3), (36, .goto (-31), 3), (39, .lload_n 2, 1), (40, .lreturn, 1)] := dz_sg _ 28 (by decide +kernel)
theorem dX0_allOf_28 : decode cX0_allOf 28 = .ok (.invokestatic 87, 3) := sdX0_allOf_28.1
theorem dX0_allOf_31 : decode cX0_allOf 31 = .ok (.ladd, 1) := sdX0_allOf_28.2.1
theorem dX0_allOf_32 : decode cX0_allOf 32 = .ok (.lstore_n 2, 1) := sdX0_allOf_28.2.2.1
theorem dX0_allOf_33 : decode cX0_allOf 33 = .ok (.iinc 4 1, 3) := sdX0_allOf_28.2.2.2.1
theorem dX0_allOf_36 : decode cX0_allOf 36 = .ok (.goto (-31), 3) := sdX0_allOf_28.2.2.2.2.1
theorem dX0_allOf_39 : decode cX0_allOf 39 = .ok (.lload_n 2, 1) := sdX0_allOf_28.2.2.2.2.2.1
theorem dX0_allOf_40 : decode cX0_allOf 40 = .ok (.lreturn, 1) := sdX0_allOf_28.2.2.2.2.2.2.1
theorem sdX0_always_0 : dz_Seg cX0_always [(0, .bipush 127, 2), (2, .istore_n 1, 1), (3, .iconst 0, 1), (4, .istore_n 2, 1), (5, .iload_n 2, 1), (6, .sipush 128, 3), (9, .if_icmp .ge 25, 3), (12, .aload_n 0, 1)] := dz_sg _ 0 (by decide +kernel)
theorem dX0_always_0 : decode cX0_always 0 = .ok (.bipush 127, 2) := sdX0_always_0.1
theorem dX0_always_2 : decode cX0_always 2 = .ok (.istore_n 1, 1) := sdX0_always_0.2.1
theorem dX0_always_3 : decode cX0_always 3 = .ok (.iconst 0, 1) := sdX0_always_0.2.2.1
theorem dX0_always_4 : decode cX0_always 4 = .ok (.istore_n 2, 1) := sdX0_always_0.2.2.2.1
theorem dX0_always_5 : decode cX0_always 5 = .ok (.iload_n 2, 1) := sdX0_always_0.2.2.2.2.1
theorem dX0_always_6 : decode cX0_always 6 = .ok (.sipush 128, 3) := sdX0_always_0.2.2.2.2.2.1
theorem dX0_always_9 : decode cX0_always 9 = .ok (.if_icmp .ge 25, 3) := sdX0_always_0.2.2.2.2.2.2.1
theorem dX0_always_12 : decode cX0_always 12 = .ok (.aload_n 0, 1) := sdX0_always_0.2.2.2.2.2.2.2.1
theorem sdX0_always_13 : dz_Seg cX0_always [(13, .getfield 15, 3), (16, .iload_n 2, 1), (17, .invokestatic 66, 3), (20, .iconst 1, 1), (21, .if_icmp .ne 7, 3), (24, .iload_n 1, 1), (25, .iload_n 2, 1), (26, .iand, 1)] := dz_sg _ 13 (by decide +kernel)
theorem dX0_always_13 : decode cX0_always 13 = .ok (.getfield 15, 3) := sdX0_always_13.1
theorem dX0_always_16 : decode cX0_always 16 = .ok (.iload_n 2, 1) := sdX0_always_13.2.1
theorem dX0_always_17 : decode cX0_always 17 = .ok (.invokestatic 66, 3) := sdX0_always_13.2.2.1
theorem dX0_always_20 : decode cX0_always 20 = .ok (.iconst 1, 1) := sdX0_always_13.2.2.2.1
theorem dX0_always_21 : decode cX0_always 21 = .ok (.if_icmp .ne 7, 3) := sdX0_always_13.2.2.2.2.1
theorem dX0_always_24 : decode cX0_always 24 = .ok (.iload_n 1, 1) := sdX0_always_13.2.2.2.2.2.1
theorem dX0_always_25 : decode cX0_always 25 = .ok (.iload_n 2, 1) := sdX0_always_13.2.2.2.2.2.2.1
theorem dX0_always_26 : decode cX0_always 26 = .ok (.iand, 1) := sdX0_always_13.2.2.2.2.2.2.2.1
theorem sdX0_always_27 : dz_Seg cX0_always [(27, .istore_n 1, 1), (28, .iinc 2 1, 3), (31, .goto (-26), 3), (34, .iload_n 1, 1), (35, .ireturn, 1)] := dz_sg _ 27 (by decide +kernel)
theorem dX0_always_27 : decode cX0_always 27 = .ok (.istore_n 1, 1) := sdX0_always_27.1
theorem dX0_always_28 : decode cX0_always 28 = .ok (.iinc 2 1, 3) := sdX0_always_27.2.1
theorem dX0_always_31 : decode cX0_always 31 = .ok (.goto (-26), 3) := sdX0_always_27.2.2.1
theorem dX0_always_34 : decode cX0_always 34 = .ok (.iload_n 1, 1) := sdX0_always_27.2.2.2.1
theorem dX0_always_35 : decode cX0_always 35 = .ok (.ireturn, 1) := sdX0_always_27.2.2.2.2.1
theorem sdX0_ever_0 : dz_Seg cX0_ever [(0, .iconst 0, 1), (1, .istore_n 1, 1), (2, .iconst 0, 1), (3, .istore_n 2, 1), (4, .iload_n 2, 1), (5, .sipush 128, 3), (8, .if_icmp .ge 25, 3), (11, .aload_n 0, 1)] := dz_sg _ 0 (by decide +kernel)
theorem dX0_ever_0 : decode cX0_ever 0 = .ok (.iconst 0, 1) := sdX0_ever_0.1
theorem dX0_ever_1 : decode cX0_ever 1 = .ok (.istore_n 1, 1) := sdX0_ever_0.2.1
theorem dX0_ever_2 : decode cX0_ever 2 = .ok (.iconst 0, 1) := sdX0_ever_0.2.2.1
theorem dX0_ever_3 : decode cX0_ever 3 = .ok (.istore_n 2, 1) := sdX0_ever_0.2.2.2.1
theorem dX0_ever_4 : decode cX0_ever 4 = .ok (.iload_n 2, 1) := sdX0_ever_0.2.2.2.2.1
theorem dX0_ever_5 : decode cX0_ever 5 = .ok (.sipush 128, 3) := sdX0_ever_0.2.2.2.2.2.1
theorem dX0_ever_8 : decode cX0_ever 8 = .ok (.if_icmp .ge 25, 3) := sdX0_ever_0.2.2.2.2.2.2.1
theorem dX0_ever_11 : decode cX0_ever 11 = .ok (.aload_n 0, 1) := sdX0_ever_0.2.2.2.2.2.2.2.1
theorem sdX0_ever_12 : dz_Seg cX0_ever [(12, .getfield 15, 3), (15, .iload_n 2, 1), (16, .invokestatic 66, 3), (19, .iconst 1, 1), (20, .if_icmp .ne 7, 3), (23, .iload_n 1, 1), (24, .iload_n 2, 1), (25, .ior, 1)] := dz_sg _ 12 (by decide +kernel)
theorem dX0_ever_12 : decode cX0_ever 12 = .ok (.getfield 15, 3) := sdX0_ever_12.1
theorem dX0_ever_15 : decode cX0_ever 15 = .ok (.iload_n 2, 1) := sdX0_ever_12.2.1
theorem dX0_ever_16 : decode cX0_ever 16 = .ok (.invokestatic 66, 3) := sdX0_ever_12.2.2.1
theorem dX0_ever_19 : decode cX0_ever 19 = .ok (.iconst 1, 1) := sdX0_ever_12.2.2.2.1
theorem dX0_ever_20 : decode cX0_ever 20 = .ok (.if_icmp .ne 7, 3) := sdX0_ever_12.2.2.2.2.1
theorem dX0_ever_23 : decode cX0_ever 23 = .ok (.iload_n 1, 1) := sdX0_ever_12.2.2.2.2.2.1
theorem dX0_ever_24 : decode cX0_ever 24 = .ok (.iload_n 2, 1) := sdX0_ever_12.2.2.2.2.2.2.1
theorem dX0_ever_25 : decode cX0_ever 25 = .ok (.ior, 1) := sdX0_ever_12.2.2.2.2.2.2.2.1
theorem sdX0_ever_26 : dz_Seg cX0_ever [(26, .istore_n 1, 1), (27, .iinc 2 1, 3), (30, .goto (-26), 3), (33, .iload_n 1, 1), (34, .ireturn, 1)] := dz_sg _ 26 (by decide +kernel)
theorem dX0_ever_26 : decode cX0_ever 26 = .ok (.istore_n 1, 1) := sdX0_ever_26.1
theorem dX0_ever_27 : decode cX0_ever 27 = .ok (.iinc 2 1, 3) := sdX0_ever_26.2.1
theorem dX0_ever_30 : decode cX0_ever 30 = .ok (.goto (-26), 3) := sdX0_ever_26.2.2.1
theorem dX0_ever_33 : decode cX0_ever 33 = .ok (.iload_n 1, 1) := sdX0_ever_26.2.2.2.1
theorem dX0_ever_34 : decode cX0_ever 34 = .ok (.ireturn, 1) := sdX0_ever_26.2.2.2.2.1
theorem sdX0_fewestTags_0 : dz_Seg cX0_fewestTags [(0, .bipush 10, 2), (2, .istore_n 2, 1), (3, .iconst 0, 1), (4, .istore_n 3, 1), (5, .iload_n 3, 1), (6, .sipush 128, 3), (9, .if_icmp .ge 31, 3), (12, .aload_n 0, 1)] := dz_sg _ 0 (by decide +kernel)
theorem dX0_fewestTags_0 : decode cX0_fewestTags 0 = .ok (.bipush 10, 2) := sdX0_fewestTags_0.1
theorem dX0_fewestTags_2 : decode cX0_fewestTags 2 = .ok (.istore_n 2, 1) := sdX0_fewestTags_0.2.1
theorem dX0_fewestTags_3 : decode cX0_fewestTags 3 = .ok (.iconst 0, 1) := sdX0_fewestTags_0.2.2.1
theorem dX0_fewestTags_4 : decode cX0_fewestTags 4 = .ok (.istore_n 3, 1) := sdX0_fewestTags_0.2.2.2.1
theorem dX0_fewestTags_5 : decode cX0_fewestTags 5 = .ok (.iload_n 3, 1) := sdX0_fewestTags_0.2.2.2.2.1
theorem dX0_fewestTags_6 : decode cX0_fewestTags 6 = .ok (.sipush 128, 3) := sdX0_fewestTags_0.2.2.2.2.2.1
theorem dX0_fewestTags_9 : decode cX0_fewestTags 9 = .ok (.if_icmp .ge 31, 3) := sdX0_fewestTags_0.2.2.2.2.2.2.1
theorem dX0_fewestTags_12 : decode cX0_fewestTags 12 = .ok (.aload_n 0, 1) := sdX0_fewestTags_0.2.2.2.2.2.2.2.1
theorem sdX0_fewestTags_13 : dz_Seg cX0_fewestTags [(13, .getfield 15, 3), (16, .iload_n 3, 1), (17, .invokestatic 66, 3), (20, .iconst 1, 1), (21, .if_icmp .ne 13, 3), (24, .iload_n 2, 1), (25, .aload_n 1, 1), (26, .iload_n 3, 1)] := dz_sg _ 13 (by decide +kernel)
theorem dX0_fewestTags_13 : decode cX0_fewestTags 13 = .ok (.getfield 15, 3) := sdX0_fewestTags_13.1
theorem dX0_fewestTags_16 : decode cX0_fewestTags 16 = .ok (.iload_n 3, 1) := sdX0_fewestTags_13.2.1
theorem dX0_fewestTags_17 : decode cX0_fewestTags 17 = .ok (.invokestatic 66, 3) := sdX0_fewestTags_13.2.2.1
theorem dX0_fewestTags_20 : decode cX0_fewestTags 20 = .ok (.iconst 1, 1) := sdX0_fewestTags_13.2.2.2.1
theorem dX0_fewestTags_21 : decode cX0_fewestTags 21 = .ok (.if_icmp .ne 13, 3) := sdX0_fewestTags_13.2.2.2.2.1
theorem dX0_fewestTags_24 : decode cX0_fewestTags 24 = .ok (.iload_n 2, 1) := sdX0_fewestTags_13.2.2.2.2.2.1
theorem dX0_fewestTags_25 : decode cX0_fewestTags 25 = .ok (.aload_n 1, 1) := sdX0_fewestTags_13.2.2.2.2.2.2.1
theorem dX0_fewestTags_26 : decode cX0_fewestTags 26 = .ok (.iload_n 3, 1) := sdX0_fewestTags_13.2.2.2.2.2.2.2.1
theorem sdX0_fewestTags_27 : dz_Seg cX0_fewestTags [(27, .invokestatic 95, 3), (30, .invokestatic 99, 3), (33, .istore_n 2, 1), (34, .iinc 3 1, 3), (37, .goto (-32), 3), (40, .iload_n 2, 1), (41, .ireturn, 1)] := dz_sg _ 27 (by decide +kernel)
theorem dX0_fewestTags_27 : decode cX0_fewestTags 27 = .ok (.invokestatic 95, 3) := sdX0_fewestTags_27.1
theorem dX0_fewestTags_30 : decode cX0_fewestTags 30 = .ok (.invokestatic 99, 3) := sdX0_fewestTags_27.2.1
theorem dX0_fewestTags_33 : decode cX0_fewestTags 33 = .ok (.istore_n 2, 1) := sdX0_fewestTags_27.2.2.1
theorem dX0_fewestTags_34 : decode cX0_fewestTags 34 = .ok (.iinc 3 1, 3) := sdX0_fewestTags_27.2.2.2.1
theorem dX0_fewestTags_37 : decode cX0_fewestTags 37 = .ok (.goto (-32), 3) := sdX0_fewestTags_27.2.2.2.2.1
theorem dX0_fewestTags_40 : decode cX0_fewestTags 40 = .ok (.iload_n 2, 1) := sdX0_fewestTags_27.2.2.2.2.2.1
theorem dX0_fewestTags_41 : decode cX0_fewestTags 41 = .ok (.ireturn, 1) := sdX0_fewestTags_27.2.2.2.2.2.2.1
theorem sdX0_mostTags_0 : dz_Seg cX0_mostTags [(0, .iconst 0, 1), (1, .istore_n 2, 1), (2, .iconst 0, 1), (3, .istore_n 3, 1), (4, .iload_n 3, 1), (5, .sipush 128, 3), (8, .if_icmp .ge 31, 3), (11, .aload_n 0, 1)] := dz_sg _ 0 (by decide +kernel)
theorem dX0_mostTags_0 : decode cX0_mostTags 0 = .ok (.iconst 0, 1) := sdX0_mostTags_0.1
theorem dX0_mostTags_1 : decode cX0_mostTags 1 = .ok (.istore_n 2, 1) := sdX0_mostTags_0.2.1
theorem dX0_mostTags_2 : decode cX0_mostTags 2 = .ok (.iconst 0, 1) := sdX0_mostTags_0.2.2.1
theorem dX0_mostTags_3 : decode cX0_mostTags 3 = .ok (.istore_n 3, 1) := sdX0_mostTags_0.2.2.2.1
theorem dX0_mostTags_4 : decode cX0_mostTags 4 = .ok (.iload_n 3, 1) := sdX0_mostTags_0.2.2.2.2.1
theorem dX0_mostTags_5 : decode cX0_mostTags 5 = .ok (.sipush 128, 3) := sdX0_mostTags_0.2.2.2.2.2.1
theorem dX0_mostTags_8 : decode cX0_mostTags 8 = .ok (.if_icmp .ge 31, 3) := sdX0_mostTags_0.2.2.2.2.2.2.1
theorem dX0_mostTags_11 : decode cX0_mostTags 11 = .ok (.aload_n 0, 1) := sdX0_mostTags_0.2.2.2.2.2.2.2.1
theorem sdX0_mostTags_12 : dz_Seg cX0_mostTags [(12, .getfield 15, 3), (15, .iload_n 3, 1), (16, .invokestatic 66, 3), (19, .iconst 1, 1), (20, .if_icmp .ne 13, 3), (23, .iload_n 2, 1), (24, .aload_n 1, 1), (25, .iload_n 3, 1)] := dz_sg _ 12 (by decide +kernel)
theorem dX0_mostTags_12 : decode cX0_mostTags 12 = .ok (.getfield 15, 3) := sdX0_mostTags_12.1
theorem dX0_mostTags_15 : decode cX0_mostTags 15 = .ok (.iload_n 3, 1) := sdX0_mostTags_12.2.1
theorem dX0_mostTags_16 : decode cX0_mostTags 16 = .ok (.invokestatic 66, 3) := sdX0_mostTags_12.2.2.1
theorem dX0_mostTags_19 : decode cX0_mostTags 19 = .ok (.iconst 1, 1) := sdX0_mostTags_12.2.2.2.1
theorem dX0_mostTags_20 : decode cX0_mostTags 20 = .ok (.if_icmp .ne 13, 3) := sdX0_mostTags_12.2.2.2.2.1
theorem dX0_mostTags_23 : decode cX0_mostTags 23 = .ok (.iload_n 2, 1) := sdX0_mostTags_12.2.2.2.2.2.1
theorem dX0_mostTags_24 : decode cX0_mostTags 24 = .ok (.aload_n 1, 1) := sdX0_mostTags_12.2.2.2.2.2.2.1
theorem dX0_mostTags_25 : decode cX0_mostTags 25 = .ok (.iload_n 3, 1) := sdX0_mostTags_12.2.2.2.2.2.2.2.1
theorem sdX0_mostTags_26 : dz_Seg cX0_mostTags [(26, .invokestatic 95, 3), (29, .invokestatic 105, 3), (32, .istore_n 2, 1), (33, .iinc 3 1, 3), (36, .goto (-32), 3), (39, .iload_n 2, 1), (40, .ireturn, 1)] := dz_sg _ 26 (by decide +kernel)
theorem dX0_mostTags_26 : decode cX0_mostTags 26 = .ok (.invokestatic 95, 3) := sdX0_mostTags_26.1
theorem dX0_mostTags_29 : decode cX0_mostTags 29 = .ok (.invokestatic 105, 3) := sdX0_mostTags_26.2.1
theorem dX0_mostTags_32 : decode cX0_mostTags 32 = .ok (.istore_n 2, 1) := sdX0_mostTags_26.2.2.1
theorem dX0_mostTags_33 : decode cX0_mostTags 33 = .ok (.iinc 3 1, 3) := sdX0_mostTags_26.2.2.2.1
theorem dX0_mostTags_36 : decode cX0_mostTags 36 = .ok (.goto (-32), 3) := sdX0_mostTags_26.2.2.2.2.1
theorem dX0_mostTags_39 : decode cX0_mostTags 39 = .ok (.iload_n 2, 1) := sdX0_mostTags_26.2.2.2.2.2.1
theorem dX0_mostTags_40 : decode cX0_mostTags 40 = .ok (.ireturn, 1) := sdX0_mostTags_26.2.2.2.2.2.2.1
theorem sdX0_tagsOf_0 : dz_Seg cX0_tagsOf [(0, .iconst 0, 1), (1, .istore_n 2, 1), (2, .iconst 0, 1), (3, .istore_n 3, 1), (4, .iload_n 3, 1), (5, .aload_n 0, 1), (6, .getfield 40, 3), (9, .if_icmp .ge 33, 3)] := dz_sg _ 0 (by decide +kernel)
theorem dX0_tagsOf_0 : decode cX0_tagsOf 0 = .ok (.iconst 0, 1) := sdX0_tagsOf_0.1
theorem dX0_tagsOf_1 : decode cX0_tagsOf 1 = .ok (.istore_n 2, 1) := sdX0_tagsOf_0.2.1
theorem dX0_tagsOf_2 : decode cX0_tagsOf 2 = .ok (.iconst 0, 1) := sdX0_tagsOf_0.2.2.1
theorem dX0_tagsOf_3 : decode cX0_tagsOf 3 = .ok (.istore_n 3, 1) := sdX0_tagsOf_0.2.2.2.1
theorem dX0_tagsOf_4 : decode cX0_tagsOf 4 = .ok (.iload_n 3, 1) := sdX0_tagsOf_0.2.2.2.2.1
theorem dX0_tagsOf_5 : decode cX0_tagsOf 5 = .ok (.aload_n 0, 1) := sdX0_tagsOf_0.2.2.2.2.2.1
theorem dX0_tagsOf_6 : decode cX0_tagsOf 6 = .ok (.getfield 40, 3) := sdX0_tagsOf_0.2.2.2.2.2.2.1
theorem dX0_tagsOf_9 : decode cX0_tagsOf 9 = .ok (.if_icmp .ge 33, 3) := sdX0_tagsOf_0.2.2.2.2.2.2.2.1
theorem sdX0_tagsOf_12 : dz_Seg cX0_tagsOf [(12, .iload_n 2, 1), (13, .iload_n 1, 1), (14, .iload_n 3, 1), (15, .ishr, 1), (16, .iconst 1, 1), (17, .iand, 1), (18, .iconst 1, 1), (19, .if_icmp .ne 14, 3)] := dz_sg _ 12 (by decide +kernel)
theorem dX0_tagsOf_12 : decode cX0_tagsOf 12 = .ok (.iload_n 2, 1) := sdX0_tagsOf_12.1
theorem dX0_tagsOf_13 : decode cX0_tagsOf 13 = .ok (.iload_n 1, 1) := sdX0_tagsOf_12.2.1
theorem dX0_tagsOf_14 : decode cX0_tagsOf 14 = .ok (.iload_n 3, 1) := sdX0_tagsOf_12.2.2.1
theorem dX0_tagsOf_15 : decode cX0_tagsOf 15 = .ok (.ishr, 1) := sdX0_tagsOf_12.2.2.2.1
theorem dX0_tagsOf_16 : decode cX0_tagsOf 16 = .ok (.iconst 1, 1) := sdX0_tagsOf_12.2.2.2.2.1
theorem dX0_tagsOf_17 : decode cX0_tagsOf 17 = .ok (.iand, 1) := sdX0_tagsOf_12.2.2.2.2.2.1
theorem dX0_tagsOf_18 : decode cX0_tagsOf 18 = .ok (.iconst 1, 1) := sdX0_tagsOf_12.2.2.2.2.2.2.1
theorem dX0_tagsOf_19 : decode cX0_tagsOf 19 = .ok (.if_icmp .ne 14, 3) := sdX0_tagsOf_12.2.2.2.2.2.2.2.1
theorem sdX0_tagsOf_22 : dz_Seg cX0_tagsOf [(22, .aload_n 0, 1), (23, .getfield 108, 3), (26, .iload_n 3, 1), (27, .invokestatic 66, 3), (30, .goto 4, 3), (33, .iconst 0, 1), (34, .iadd, 1), (35, .istore_n 2, 1)] := dz_sg _ 22 (by decide +kernel)
theorem dX0_tagsOf_22 : decode cX0_tagsOf 22 = .ok (.aload_n 0, 1) := sdX0_tagsOf_22.1
theorem dX0_tagsOf_23 : decode cX0_tagsOf 23 = .ok (.getfield 108, 3) := sdX0_tagsOf_22.2.1
theorem dX0_tagsOf_26 : decode cX0_tagsOf 26 = .ok (.iload_n 3, 1) := sdX0_tagsOf_22.2.2.1
theorem dX0_tagsOf_27 : decode cX0_tagsOf 27 = .ok (.invokestatic 66, 3) := sdX0_tagsOf_22.2.2.2.1
theorem dX0_tagsOf_30 : decode cX0_tagsOf 30 = .ok (.goto 4, 3) := sdX0_tagsOf_22.2.2.2.2.1
theorem dX0_tagsOf_33 : decode cX0_tagsOf 33 = .ok (.iconst 0, 1) := sdX0_tagsOf_22.2.2.2.2.2.1
theorem dX0_tagsOf_34 : decode cX0_tagsOf 34 = .ok (.iadd, 1) := sdX0_tagsOf_22.2.2.2.2.2.2.1
theorem dX0_tagsOf_35 : decode cX0_tagsOf 35 = .ok (.istore_n 2, 1) := sdX0_tagsOf_22.2.2.2.2.2.2.2.1
theorem sdX0_tagsOf_36 : dz_Seg cX0_tagsOf [(36, .iinc 3 1, 3), (39, .goto (-35), 3), (42, .iload_n 2, 1), (43, .ireturn, 1)] := dz_sg _ 36 (by decide +kernel)
theorem dX0_tagsOf_36 : decode cX0_tagsOf 36 = .ok (.iinc 3 1, 3) := sdX0_tagsOf_36.1
theorem dX0_tagsOf_39 : decode cX0_tagsOf 39 = .ok (.goto (-35), 3) := sdX0_tagsOf_36.2.1
theorem dX0_tagsOf_42 : decode cX0_tagsOf 42 = .ok (.iload_n 2, 1) := sdX0_tagsOf_36.2.2.1
theorem dX0_tagsOf_43 : decode cX0_tagsOf 43 = .ok (.ireturn, 1) := sdX0_tagsOf_36.2.2.2.1
theorem sdX1_init_0 : dz_Seg cX1_init [(0, .aload_n 0, 1), (1, .invokespecial 3, 3), (4, .aload_n 0, 1), (5, .bipush 8, 2), (7, .anewarray 9, 3), (10, .putfield 11, 3), (13, .iconst 0, 1), (14, .istore_n 1, 1)] := dz_sg _ 0 (by decide +kernel)
theorem dX1_init_0 : decode cX1_init 0 = .ok (.aload_n 0, 1) := sdX1_init_0.1
theorem dX1_init_1 : decode cX1_init 1 = .ok (.invokespecial 3, 3) := sdX1_init_0.2.1
theorem dX1_init_4 : decode cX1_init 4 = .ok (.aload_n 0, 1) := sdX1_init_0.2.2.1
theorem dX1_init_5 : decode cX1_init 5 = .ok (.bipush 8, 2) := sdX1_init_0.2.2.2.1
theorem dX1_init_7 : decode cX1_init 7 = .ok (.anewarray 9, 3) := sdX1_init_0.2.2.2.2.1
theorem dX1_init_10 : decode cX1_init 10 = .ok (.putfield 11, 3) := sdX1_init_0.2.2.2.2.2.1
theorem dX1_init_13 : decode cX1_init 13 = .ok (.iconst 0, 1) := sdX1_init_0.2.2.2.2.2.2.1
theorem dX1_init_14 : decode cX1_init 14 = .ok (.istore_n 1, 1) := sdX1_init_0.2.2.2.2.2.2.2.1
theorem sdX1_init_15 : dz_Seg cX1_init [(15, .iload_n 1, 1), (16, .aload_n 0, 1), (17, .getfield 11, 3), (20, .arraylength, 1), (21, .if_icmp .ge 22, 3), (24, .aload_n 0, 1), (25, .getfield 11, 3), (28, .iload_n 1, 1)] := dz_sg _ 15 (by decide +kernel)
theorem dX1_init_15 : decode cX1_init 15 = .ok (.iload_n 1, 1) := sdX1_init_15.1
theorem dX1_init_16 : decode cX1_init 16 = .ok (.aload_n 0, 1) := sdX1_init_15.2.1
theorem dX1_init_17 : decode cX1_init 17 = .ok (.getfield 11, 3) := sdX1_init_15.2.2.1
theorem dX1_init_20 : decode cX1_init 20 = .ok (.arraylength, 1) := sdX1_init_15.2.2.2.1
theorem dX1_init_21 : decode cX1_init 21 = .ok (.if_icmp .ge 22, 3) := sdX1_init_15.2.2.2.2.1
theorem dX1_init_24 : decode cX1_init 24 = .ok (.aload_n 0, 1) := sdX1_init_15.2.2.2.2.2.1
theorem dX1_init_25 : decode cX1_init 25 = .ok (.getfield 11, 3) := sdX1_init_15.2.2.2.2.2.2.1
theorem dX1_init_28 : decode cX1_init 28 = .ok (.iload_n 1, 1) := sdX1_init_15.2.2.2.2.2.2.2.1
theorem sdX1_init_29 : dz_Seg cX1_init [(29, .new 9, 3), (32, .dup, 1), (33, .invokespecial 17, 3), (36, .aastore, 1), (37, .iinc 1 1, 3), (40, .goto (-25), 3), (43, .return_, 1)] := dz_sg _ 29 (by decide +kernel)
theorem dX1_init_29 : decode cX1_init 29 = .ok (.new 9, 3) := sdX1_init_29.1
theorem dX1_init_32 : decode cX1_init 32 = .ok (.dup, 1) := sdX1_init_29.2.1
theorem dX1_init_33 : decode cX1_init 33 = .ok (.invokespecial 17, 3) := sdX1_init_29.2.2.1
theorem dX1_init_36 : decode cX1_init 36 = .ok (.aastore, 1) := sdX1_init_29.2.2.2.1
theorem dX1_init_37 : decode cX1_init 37 = .ok (.iinc 1 1, 3) := sdX1_init_29.2.2.2.2.1
theorem dX1_init_40 : decode cX1_init 40 = .ok (.goto (-25), 3) := sdX1_init_29.2.2.2.2.2.1
theorem dX1_init_43 : decode cX1_init 43 = .ok (.return_, 1) := sdX1_init_29.2.2.2.2.2.2.1
theorem sdX1_forget_0 : dz_Seg cX1_forget [(0, .aload_n 0, 1), (1, .iconst 0, 1), (2, .putfield 18, 3), (5, .return_, 1)] := dz_sg _ 0 (by decide +kernel)
theorem dX1_forget_0 : decode cX1_forget 0 = .ok (.aload_n 0, 1) := sdX1_forget_0.1
theorem dX1_forget_1 : decode cX1_forget 1 = .ok (.iconst 0, 1) := sdX1_forget_0.2.1
theorem dX1_forget_2 : decode cX1_forget 2 = .ok (.putfield 18, 3) := sdX1_forget_0.2.2.1
theorem dX1_forget_5 : decode cX1_forget 5 = .ok (.return_, 1) := sdX1_forget_0.2.2.2.1
theorem sdX1_keep_0 : dz_Seg cX1_keep [(0, .aload_n 0, 1), (1, .aload_n 0, 1), (2, .getfield 22, 3), (5, .iconst 1, 1), (6, .iadd, 1), (7, .bipush 8, 2), (9, .if_icmp .ge 12, 3), (12, .aload_n 0, 1)] := dz_sg _ 0 (by decide +kernel)
theorem dX1_keep_0 : decode cX1_keep 0 = .ok (.aload_n 0, 1) := sdX1_keep_0.1
theorem dX1_keep_1 : decode cX1_keep 1 = .ok (.aload_n 0, 1) := sdX1_keep_0.2.1
theorem dX1_keep_2 : decode cX1_keep 2 = .ok (.getfield 22, 3) := sdX1_keep_0.2.2.1
theorem dX1_keep_5 : decode cX1_keep 5 = .ok (.iconst 1, 1) := sdX1_keep_0.2.2.2.1
theorem dX1_keep_6 : decode cX1_keep 6 = .ok (.iadd, 1) := sdX1_keep_0.2.2.2.2.1
theorem dX1_keep_7 : decode cX1_keep 7 = .ok (.bipush 8, 2) := sdX1_keep_0.2.2.2.2.2.1
theorem dX1_keep_9 : decode cX1_keep 9 = .ok (.if_icmp .ge 12, 3) := sdX1_keep_0.2.2.2.2.2.2.1
theorem dX1_keep_12 : decode cX1_keep 12 = .ok (.aload_n 0, 1) := sdX1_keep_0.2.2.2.2.2.2.2.1
theorem sdX1_keep_13 : dz_Seg cX1_keep [(13, .getfield 22, 3), (16, .iconst 1, 1), (17, .iadd, 1), (18, .goto 4, 3), (21, .iconst 0, 1), (22, .putfield 22, 3), (25, .aload_n 0, 1), (26, .invokevirtual 25, 3)] := dz_sg _ 13 (by decide +kernel)
theorem dX1_keep_13 : decode cX1_keep 13 = .ok (.getfield 22, 3) := sdX1_keep_13.1
theorem dX1_keep_16 : decode cX1_keep 16 = .ok (.iconst 1, 1) := sdX1_keep_13.2.1
theorem dX1_keep_17 : decode cX1_keep 17 = .ok (.iadd, 1) := sdX1_keep_13.2.2.1
theorem dX1_keep_18 : decode cX1_keep 18 = .ok (.goto 4, 3) := sdX1_keep_13.2.2.2.1
theorem dX1_keep_21 : decode cX1_keep 21 = .ok (.iconst 0, 1) := sdX1_keep_13.2.2.2.2.1
theorem dX1_keep_22 : decode cX1_keep 22 = .ok (.putfield 22, 3) := sdX1_keep_13.2.2.2.2.2.1
theorem dX1_keep_25 : decode cX1_keep 25 = .ok (.aload_n 0, 1) := sdX1_keep_13.2.2.2.2.2.2.1
theorem dX1_keep_26 : decode cX1_keep 26 = .ok (.invokevirtual 25, 3) := sdX1_keep_13.2.2.2.2.2.2.2.1
theorem sdX1_keep_29 : dz_Seg cX1_keep [(29, .astore_n 2, 1), (30, .aload_n 2, 1), (31, .ifnonnull 4, 3), (34, .return_, 1), (35, .aload_n 2, 1), (36, .aload_n 1, 1), (37, .invokevirtual 29, 3), (40, .aload_n 0, 1)] := dz_sg _ 29 (by decide +kernel)
theorem dX1_keep_29 : decode cX1_keep 29 = .ok (.astore_n 2, 1) := sdX1_keep_29.1
theorem dX1_keep_30 : decode cX1_keep 30 = .ok (.aload_n 2, 1) := sdX1_keep_29.2.1
theorem dX1_keep_31 : decode cX1_keep 31 = .ok (.ifnonnull 4, 3) := sdX1_keep_29.2.2.1
theorem dX1_keep_34 : decode cX1_keep 34 = .ok (.return_, 1) := sdX1_keep_29.2.2.2.1
theorem dX1_keep_35 : decode cX1_keep 35 = .ok (.aload_n 2, 1) := sdX1_keep_29.2.2.2.2.1
theorem dX1_keep_36 : decode cX1_keep 36 = .ok (.aload_n 1, 1) := sdX1_keep_29.2.2.2.2.2.1
theorem dX1_keep_37 : decode cX1_keep 37 = .ok (.invokevirtual 29, 3) := sdX1_keep_29.2.2.2.2.2.2.1
theorem dX1_keep_40 : decode cX1_keep 40 = .ok (.aload_n 0, 1) := sdX1_keep_29.2.2.2.2.2.2.2.1
theorem sdX1_keep_41 : dz_Seg cX1_keep [(41, .aload_n 0, 1), (42, .getfield 18, 3), (45, .iconst 1, 1), (46, .iadd, 1), (47, .bipush 8, 2), (49, .invokestatic 33, 3), (52, .putfield 18, 3), (55, .return_, 1)] := dz_sg _ 41 (by decide +kernel)
theorem dX1_keep_41 : decode cX1_keep 41 = .ok (.aload_n 0, 1) := sdX1_keep_41.1
theorem dX1_keep_42 : decode cX1_keep 42 = .ok (.getfield 18, 3) := sdX1_keep_41.2.1
theorem dX1_keep_45 : decode cX1_keep 45 = .ok (.iconst 1, 1) := sdX1_keep_41.2.2.1
theorem dX1_keep_46 : decode cX1_keep 46 = .ok (.iadd, 1) := sdX1_keep_41.2.2.2.1
theorem dX1_keep_47 : decode cX1_keep 47 = .ok (.bipush 8, 2) := sdX1_keep_41.2.2.2.2.1
theorem dX1_keep_49 : decode cX1_keep 49 = .ok (.invokestatic 33, 3) := sdX1_keep_41.2.2.2.2.2.1
theorem dX1_keep_52 : decode cX1_keep 52 = .ok (.putfield 18, 3) := sdX1_keep_41.2.2.2.2.2.2.1
theorem dX1_keep_55 : decode cX1_keep 55 = .ok (.return_, 1) := sdX1_keep_41.2.2.2.2.2.2.2.1
theorem sdX1_giveBack_0 : dz_Seg cX1_giveBack [(0, .aload_n 0, 1), (1, .invokevirtual 25, 3), (4, .astore_n 2, 1), (5, .aload_n 0, 1), (6, .getfield 18, 3), (9, .ifCond .eq 7, 3), (12, .aload_n 2, 1), (13, .ifnonnull 5, 3)] := dz_sg _ 0 (by decide +kernel)
theorem dX1_giveBack_0 : decode cX1_giveBack 0 = .ok (.aload_n 0, 1) := sdX1_giveBack_0.1
theorem dX1_giveBack_1 : decode cX1_giveBack 1 = .ok (.invokevirtual 25, 3) := sdX1_giveBack_0.2.1
theorem dX1_giveBack_4 : decode cX1_giveBack 4 = .ok (.astore_n 2, 1) := sdX1_giveBack_0.2.2.1
theorem dX1_giveBack_5 : decode cX1_giveBack 5 = .ok (.aload_n 0, 1) := sdX1_giveBack_0.2.2.2.1
theorem dX1_giveBack_6 : decode cX1_giveBack 6 = .ok (.getfield 18, 3) := sdX1_giveBack_0.2.2.2.2.1
theorem dX1_giveBack_9 : decode cX1_giveBack 9 = .ok (.ifCond .eq 7, 3) := sdX1_giveBack_0.2.2.2.2.2.1
theorem dX1_giveBack_12 : decode cX1_giveBack 12 = .ok (.aload_n 2, 1) := sdX1_giveBack_0.2.2.2.2.2.2.1
theorem dX1_giveBack_13 : decode cX1_giveBack 13 = .ok (.ifnonnull 5, 3) := sdX1_giveBack_0.2.2.2.2.2.2.2.1
theorem sdX1_giveBack_16 : dz_Seg cX1_giveBack [(16, .iconst 0, 1), (17, .ireturn, 1), (18, .aload_n 1, 1), (19, .aload_n 2, 1), (20, .invokevirtual 29, 3), (23, .aload_n 0, 1), (24, .dup, 1), (25, .getfield 18, 3)] := dz_sg _ 16 (by decide +kernel)
theorem dX1_giveBack_16 : decode cX1_giveBack 16 = .ok (.iconst 0, 1) := sdX1_giveBack_16.1
theorem dX1_giveBack_17 : decode cX1_giveBack 17 = .ok (.ireturn, 1) := sdX1_giveBack_16.2.1
theorem dX1_giveBack_18 : decode cX1_giveBack 18 = .ok (.aload_n 1, 1) := sdX1_giveBack_16.2.2.1
theorem dX1_giveBack_19 : decode cX1_giveBack 19 = .ok (.aload_n 2, 1) := sdX1_giveBack_16.2.2.2.1
theorem dX1_giveBack_20 : decode cX1_giveBack 20 = .ok (.invokevirtual 29, 3) := sdX1_giveBack_16.2.2.2.2.1
theorem dX1_giveBack_23 : decode cX1_giveBack 23 = .ok (.aload_n 0, 1) := sdX1_giveBack_16.2.2.2.2.2.1
theorem dX1_giveBack_24 : decode cX1_giveBack 24 = .ok (.dup, 1) := sdX1_giveBack_16.2.2.2.2.2.2.1
theorem dX1_giveBack_25 : decode cX1_giveBack 25 = .ok (.getfield 18, 3) := sdX1_giveBack_16.2.2.2.2.2.2.2.1
theorem sdX1_giveBack_28 : dz_Seg cX1_giveBack [(28, .iconst 1, 1), (29, .isub, 1), (30, .putfield 18, 3), (33, .aload_n 0, 1), (34, .aload_n 0, 1), (35, .getfield 22, 3), (38, .ifCond .le 12, 3), (41, .aload_n 0, 1)] := dz_sg _ 28 (by decide +kernel)
theorem dX1_giveBack_28 : decode cX1_giveBack 28 = .ok (.iconst 1, 1) := sdX1_giveBack_28.1
theorem dX1_giveBack_29 : decode cX1_giveBack 29 = .ok (.isub, 1) := sdX1_giveBack_28.2.1
theorem dX1_giveBack_30 : decode cX1_giveBack 30 = .ok (.putfield 18, 3) := sdX1_giveBack_28.2.2.1
theorem dX1_giveBack_33 : decode cX1_giveBack 33 = .ok (.aload_n 0, 1) := sdX1_giveBack_28.2.2.2.1
theorem dX1_giveBack_34 : decode cX1_giveBack 34 = .ok (.aload_n 0, 1) := sdX1_giveBack_28.2.2.2.2.1
theorem dX1_giveBack_35 : decode cX1_giveBack 35 = .ok (.getfield 22, 3) := sdX1_giveBack_28.2.2.2.2.2.1
theorem dX1_giveBack_38 : decode cX1_giveBack 38 = .ok (.ifCond .le 12, 3) := sdX1_giveBack_28.2.2.2.2.2.2.1
theorem dX1_giveBack_41 : decode cX1_giveBack 41 = .ok (.aload_n 0, 1) := sdX1_giveBack_28.2.2.2.2.2.2.2.1
theorem sdX1_giveBack_42 : dz_Seg cX1_giveBack [(42, .getfield 22, 3), (45, .iconst 1, 1), (46, .isub, 1), (47, .goto 5, 3), (50, .bipush 7, 2), (52, .putfield 22, 3), (55, .iconst 1, 1), (56, .ireturn, 1)] := dz_sg _ 42 (by decide +kernel)
theorem dX1_giveBack_42 : decode cX1_giveBack 42 = .ok (.getfield 22, 3) := sdX1_giveBack_42.1
theorem dX1_giveBack_45 : decode cX1_giveBack 45 = .ok (.iconst 1, 1) := sdX1_giveBack_42.2.1
theorem dX1_giveBack_46 : decode cX1_giveBack 46 = .ok (.isub, 1) := sdX1_giveBack_42.2.2.1
theorem dX1_giveBack_47 : decode cX1_giveBack 47 = .ok (.goto 5, 3) := sdX1_giveBack_42.2.2.2.1
theorem dX1_giveBack_50 : decode cX1_giveBack 50 = .ok (.bipush 7, 2) := sdX1_giveBack_42.2.2.2.2.1
theorem dX1_giveBack_52 : decode cX1_giveBack 52 = .ok (.putfield 22, 3) := sdX1_giveBack_42.2.2.2.2.2.1
theorem dX1_giveBack_55 : decode cX1_giveBack 55 = .ok (.iconst 1, 1) := sdX1_giveBack_42.2.2.2.2.2.2.1
theorem dX1_giveBack_56 : decode cX1_giveBack 56 = .ok (.ireturn, 1) := sdX1_giveBack_42.2.2.2.2.2.2.2.1
theorem sdX1_newestStood_0 : dz_Seg cX1_newestStood [(0, .aload_n 0, 1), (1, .getfield 22, 3), (4, .ifCond .lt 27, 3), (7, .aload_n 0, 1), (8, .getfield 22, 3), (11, .aload_n 0, 1), (12, .getfield 11, 3), (15, .arraylength, 1)] := dz_sg _ 0 (by decide +kernel)
theorem dX1_newestStood_0 : decode cX1_newestStood 0 = .ok (.aload_n 0, 1) := sdX1_newestStood_0.1
theorem dX1_newestStood_1 : decode cX1_newestStood 1 = .ok (.getfield 22, 3) := sdX1_newestStood_0.2.1
theorem dX1_newestStood_4 : decode cX1_newestStood 4 = .ok (.ifCond .lt 27, 3) := sdX1_newestStood_0.2.2.1
theorem dX1_newestStood_7 : decode cX1_newestStood 7 = .ok (.aload_n 0, 1) := sdX1_newestStood_0.2.2.2.1
theorem dX1_newestStood_8 : decode cX1_newestStood 8 = .ok (.getfield 22, 3) := sdX1_newestStood_0.2.2.2.2.1
theorem dX1_newestStood_11 : decode cX1_newestStood 11 = .ok (.aload_n 0, 1) := sdX1_newestStood_0.2.2.2.2.2.1
theorem dX1_newestStood_12 : decode cX1_newestStood 12 = .ok (.getfield 11, 3) := sdX1_newestStood_0.2.2.2.2.2.2.1
theorem dX1_newestStood_15 : decode cX1_newestStood 15 = .ok (.arraylength, 1) := sdX1_newestStood_0.2.2.2.2.2.2.2.1
theorem sdX1_newestStood_16 : dz_Seg cX1_newestStood [(16, .if_icmp .ge 15, 3), (19, .aload_n 0, 1), (20, .getfield 11, 3), (23, .aload_n 0, 1), (24, .getfield 22, 3), (27, .aaload, 1), (28, .goto 4, 3), (31, .aconst_null, 1)] := dz_sg _ 16 (by decide +kernel)
theorem dX1_newestStood_16 : decode cX1_newestStood 16 = .ok (.if_icmp .ge 15, 3) := sdX1_newestStood_16.1
theorem dX1_newestStood_19 : decode cX1_newestStood 19 = .ok (.aload_n 0, 1) := sdX1_newestStood_16.2.1
theorem dX1_newestStood_20 : decode cX1_newestStood 20 = .ok (.getfield 11, 3) := sdX1_newestStood_16.2.2.1
theorem dX1_newestStood_23 : decode cX1_newestStood 23 = .ok (.aload_n 0, 1) := sdX1_newestStood_16.2.2.2.1
theorem dX1_newestStood_24 : decode cX1_newestStood 24 = .ok (.getfield 22, 3) := sdX1_newestStood_16.2.2.2.2.1
theorem dX1_newestStood_27 : decode cX1_newestStood 27 = .ok (.aaload, 1) := sdX1_newestStood_16.2.2.2.2.2.1
theorem dX1_newestStood_28 : decode cX1_newestStood 28 = .ok (.goto 4, 3) := sdX1_newestStood_16.2.2.2.2.2.2.1
theorem dX1_newestStood_31 : decode cX1_newestStood 31 = .ok (.aconst_null, 1) := sdX1_newestStood_16.2.2.2.2.2.2.2.1
theorem sdX1_newestStood_32 : dz_Seg cX1_newestStood [(32, .areturn, 1)] := dz_sg _ 32 (by decide +kernel)
theorem dX1_newestStood_32 : decode cX1_newestStood 32 = .ok (.areturn, 1) := sdX1_newestStood_32.1
theorem sdX2_init_0 : dz_Seg cX2_init [(0, .aload_n 0, 1), (1, .invokespecial 3, 3), (4, .aload_n 0, 1), (5, .iconst 5, 1), (6, .newarray .int, 2), (8, .putfield 9, 3), (11, .aload_n 0, 1), (12, .iconst 5, 1)] := dz_sg _ 0 (by decide +kernel)
theorem dX2_init_0 : decode cX2_init 0 = .ok (.aload_n 0, 1) := sdX2_init_0.1
theorem dX2_init_1 : decode cX2_init 1 = .ok (.invokespecial 3, 3) := sdX2_init_0.2.1
theorem dX2_init_4 : decode cX2_init 4 = .ok (.aload_n 0, 1) := sdX2_init_0.2.2.1
theorem dX2_init_5 : decode cX2_init 5 = .ok (.iconst 5, 1) := sdX2_init_0.2.2.2.1
theorem dX2_init_6 : decode cX2_init 6 = .ok (.newarray .int, 2) := sdX2_init_0.2.2.2.2.1
theorem dX2_init_8 : decode cX2_init 8 = .ok (.putfield 9, 3) := sdX2_init_0.2.2.2.2.2.1
theorem dX2_init_11 : decode cX2_init 11 = .ok (.aload_n 0, 1) := sdX2_init_0.2.2.2.2.2.2.1
theorem dX2_init_12 : decode cX2_init 12 = .ok (.iconst 5, 1) := sdX2_init_0.2.2.2.2.2.2.2.1
theorem sdX2_init_13 : dz_Seg cX2_init [(13, .newarray .int, 2), (15, .putfield 15, 3), (18, .aload_n 0, 1), (19, .iconst 5, 1), (20, .newarray .int, 2), (22, .putfield 18, 3), (25, .aload_n 0, 1), (26, .bipush 10, 2)] := dz_sg _ 13 (by decide +kernel)
theorem dX2_init_13 : decode cX2_init 13 = .ok (.newarray .int, 2) := sdX2_init_13.1
theorem dX2_init_15 : decode cX2_init 15 = .ok (.putfield 15, 3) := sdX2_init_13.2.1
theorem dX2_init_18 : decode cX2_init 18 = .ok (.aload_n 0, 1) := sdX2_init_13.2.2.1
theorem dX2_init_19 : decode cX2_init 19 = .ok (.iconst 5, 1) := sdX2_init_13.2.2.2.1
theorem dX2_init_20 : decode cX2_init 20 = .ok (.newarray .int, 2) := sdX2_init_13.2.2.2.2.1
theorem dX2_init_22 : decode cX2_init 22 = .ok (.putfield 18, 3) := sdX2_init_13.2.2.2.2.2.1
theorem dX2_init_25 : decode cX2_init 25 = .ok (.aload_n 0, 1) := sdX2_init_13.2.2.2.2.2.2.1
theorem dX2_init_26 : decode cX2_init 26 = .ok (.bipush 10, 2) := sdX2_init_13.2.2.2.2.2.2.2.1
theorem sdX2_init_28 : dz_Seg cX2_init [(28, .newarray .int, 2), (30, .putfield 21, 3), (33, .aload_n 0, 1), (34, .bipush 10, 2), (36, .newarray .int, 2), (38, .putfield 24, 3), (41, .aload_n 0, 1), (42, .bipush 10, 2)] := dz_sg _ 28 (by decide +kernel)
theorem dX2_init_28 : decode cX2_init 28 = .ok (.newarray .int, 2) := sdX2_init_28.1
theorem dX2_init_30 : decode cX2_init 30 = .ok (.putfield 21, 3) := sdX2_init_28.2.1
theorem dX2_init_33 : decode cX2_init 33 = .ok (.aload_n 0, 1) := sdX2_init_28.2.2.1
theorem dX2_init_34 : decode cX2_init 34 = .ok (.bipush 10, 2) := sdX2_init_28.2.2.2.1
theorem dX2_init_36 : decode cX2_init 36 = .ok (.newarray .int, 2) := sdX2_init_28.2.2.2.2.1
theorem dX2_init_38 : decode cX2_init 38 = .ok (.putfield 24, 3) := sdX2_init_28.2.2.2.2.2.1
theorem dX2_init_41 : decode cX2_init 41 = .ok (.aload_n 0, 1) := sdX2_init_28.2.2.2.2.2.2.1
theorem dX2_init_42 : decode cX2_init 42 = .ok (.bipush 10, 2) := sdX2_init_28.2.2.2.2.2.2.2.1
theorem sdX2_init_44 : dz_Seg cX2_init [(44, .newarray .int, 2), (46, .putfield 27, 3), (49, .aload_n 0, 1), (50, .bipush 10, 2), (52, .newarray .int, 2), (54, .putfield 30, 3), (57, .aload_n 0, 1), (58, .bipush 10, 2)] := dz_sg _ 44 (by decide +kernel)
theorem dX2_init_44 : decode cX2_init 44 = .ok (.newarray .int, 2) := sdX2_init_44.1
theorem dX2_init_46 : decode cX2_init 46 = .ok (.putfield 27, 3) := sdX2_init_44.2.1
theorem dX2_init_49 : decode cX2_init 49 = .ok (.aload_n 0, 1) := sdX2_init_44.2.2.1
theorem dX2_init_50 : decode cX2_init 50 = .ok (.bipush 10, 2) := sdX2_init_44.2.2.2.1
theorem dX2_init_52 : decode cX2_init 52 = .ok (.newarray .int, 2) := sdX2_init_44.2.2.2.2.1
theorem dX2_init_54 : decode cX2_init 54 = .ok (.putfield 30, 3) := sdX2_init_44.2.2.2.2.2.1
theorem dX2_init_57 : decode cX2_init 57 = .ok (.aload_n 0, 1) := sdX2_init_44.2.2.2.2.2.2.1
theorem dX2_init_58 : decode cX2_init 58 = .ok (.bipush 10, 2) := sdX2_init_44.2.2.2.2.2.2.2.1
theorem sdX2_init_60 : dz_Seg cX2_init [(60, .newarray .int, 2), (62, .putfield 33, 3), (65, .aload_n 0, 1), (66, .bipush 10, 2), (68, .newarray .int, 2), (70, .putfield 36, 3), (73, .aload_n 0, 1), (74, .bipush 10, 2)] := dz_sg _ 60 (by decide +kernel)
theorem dX2_init_60 : decode cX2_init 60 = .ok (.newarray .int, 2) := sdX2_init_60.1
theorem dX2_init_62 : decode cX2_init 62 = .ok (.putfield 33, 3) := sdX2_init_60.2.1
theorem dX2_init_65 : decode cX2_init 65 = .ok (.aload_n 0, 1) := sdX2_init_60.2.2.1
theorem dX2_init_66 : decode cX2_init 66 = .ok (.bipush 10, 2) := sdX2_init_60.2.2.2.1
theorem dX2_init_68 : decode cX2_init 68 = .ok (.newarray .int, 2) := sdX2_init_60.2.2.2.2.1
theorem dX2_init_70 : decode cX2_init 70 = .ok (.putfield 36, 3) := sdX2_init_60.2.2.2.2.2.1
theorem dX2_init_73 : decode cX2_init 73 = .ok (.aload_n 0, 1) := sdX2_init_60.2.2.2.2.2.2.1
theorem dX2_init_74 : decode cX2_init 74 = .ok (.bipush 10, 2) := sdX2_init_60.2.2.2.2.2.2.2.1
theorem sdX2_init_76 : dz_Seg cX2_init [(76, .newarray .int, 2), (78, .putfield 39, 3), (81, .aload_n 0, 1), (82, .bipush 10, 2), (84, .newarray .int, 2), (86, .putfield 42, 3), (89, .aload_n 0, 1), (90, .bipush 30, 2)] := dz_sg _ 76 (by decide +kernel)
theorem dX2_init_76 : decode cX2_init 76 = .ok (.newarray .int, 2) := sdX2_init_76.1
theorem dX2_init_78 : decode cX2_init 78 = .ok (.putfield 39, 3) := sdX2_init_76.2.1
theorem dX2_init_81 : decode cX2_init 81 = .ok (.aload_n 0, 1) := sdX2_init_76.2.2.1
theorem dX2_init_82 : decode cX2_init 82 = .ok (.bipush 10, 2) := sdX2_init_76.2.2.2.1
theorem dX2_init_84 : decode cX2_init 84 = .ok (.newarray .int, 2) := sdX2_init_76.2.2.2.2.1
theorem dX2_init_86 : decode cX2_init 86 = .ok (.putfield 42, 3) := sdX2_init_76.2.2.2.2.2.1
theorem dX2_init_89 : decode cX2_init 89 = .ok (.aload_n 0, 1) := sdX2_init_76.2.2.2.2.2.2.1
theorem dX2_init_90 : decode cX2_init 90 = .ok (.bipush 30, 2) := sdX2_init_76.2.2.2.2.2.2.2.1
theorem sdX2_init_92 : dz_Seg cX2_init [(92, .newarray .int, 2), (94, .putfield 45, 3), (97, .return_, 1)] := dz_sg _ 92 (by decide +kernel)
theorem dX2_init_92 : decode cX2_init 92 = .ok (.newarray .int, 2) := sdX2_init_92.1
theorem dX2_init_94 : decode cX2_init 94 = .ok (.putfield 45, 3) := sdX2_init_92.2.1
theorem dX2_init_97 : decode cX2_init 97 = .ok (.return_, 1) := sdX2_init_92.2.2.1
theorem sdX2_gather_0 : dz_Seg cX2_gather [(0, .aload_n 0, 1), (1, .aload_n 1, 1), (2, .invokevirtual 48, 3), (5, .aload_n 0, 1), (6, .iconst 0, 1), (7, .putfield 52, 3), (10, .iconst 0, 1), (11, .istore_n 2, 1)] := dz_sg _ 0 (by decide +kernel)
theorem dX2_gather_0 : decode cX2_gather 0 = .ok (.aload_n 0, 1) := sdX2_gather_0.1
theorem dX2_gather_1 : decode cX2_gather 1 = .ok (.aload_n 1, 1) := sdX2_gather_0.2.1
theorem dX2_gather_2 : decode cX2_gather 2 = .ok (.invokevirtual 48, 3) := sdX2_gather_0.2.2.1
theorem dX2_gather_5 : decode cX2_gather 5 = .ok (.aload_n 0, 1) := sdX2_gather_0.2.2.2.1
theorem dX2_gather_6 : decode cX2_gather 6 = .ok (.iconst 0, 1) := sdX2_gather_0.2.2.2.2.1
theorem dX2_gather_7 : decode cX2_gather 7 = .ok (.putfield 52, 3) := sdX2_gather_0.2.2.2.2.2.1
theorem dX2_gather_10 : decode cX2_gather 10 = .ok (.iconst 0, 1) := sdX2_gather_0.2.2.2.2.2.2.1
theorem dX2_gather_11 : decode cX2_gather 11 = .ok (.istore_n 2, 1) := sdX2_gather_0.2.2.2.2.2.2.2.1
theorem sdX2_gather_12 : dz_Seg cX2_gather [(12, .iload_n 2, 1), (13, .aload_n 1, 1), (14, .getfield 56, 3), (17, .if_icmp .ge 32, 3), (20, .aload_n 1, 1), (21, .getfield 61, 3), (24, .iload_n 2, 1), (25, .invokestatic 62, 3)] := dz_sg _ 12 (by decide +kernel)
theorem dX2_gather_12 : decode cX2_gather 12 = .ok (.iload_n 2, 1) := sdX2_gather_12.1
theorem dX2_gather_13 : decode cX2_gather 13 = .ok (.aload_n 1, 1) := sdX2_gather_12.2.1
theorem dX2_gather_14 : decode cX2_gather 14 = .ok (.getfield 56, 3) := sdX2_gather_12.2.2.1
theorem dX2_gather_17 : decode cX2_gather 17 = .ok (.if_icmp .ge 32, 3) := sdX2_gather_12.2.2.2.1
theorem dX2_gather_20 : decode cX2_gather 20 = .ok (.aload_n 1, 1) := sdX2_gather_12.2.2.2.2.1
theorem dX2_gather_21 : decode cX2_gather 21 = .ok (.getfield 61, 3) := sdX2_gather_12.2.2.2.2.2.1
theorem dX2_gather_24 : decode cX2_gather 24 = .ok (.iload_n 2, 1) := sdX2_gather_12.2.2.2.2.2.2.1
theorem dX2_gather_25 : decode cX2_gather 25 = .ok (.invokestatic 62, 3) := sdX2_gather_12.2.2.2.2.2.2.2.1
theorem sdX2_gather_28 : dz_Seg cX2_gather [(28, .iconst (-1), 1), (29, .if_icmp .ne 14, 3), (32, .aload_n 0, 1), (33, .iconst (-1), 1), (34, .invokevirtual 66, 3), (37, .aload_n 0, 1), (38, .aload_n 1, 1), (39, .iload_n 2, 1)] := dz_sg _ 28 (by decide +kernel)
theorem dX2_gather_28 : decode cX2_gather 28 = .ok (.iconst (-1), 1) := sdX2_gather_28.1
theorem dX2_gather_29 : decode cX2_gather 29 = .ok (.if_icmp .ne 14, 3) := sdX2_gather_28.2.1
theorem dX2_gather_32 : decode cX2_gather 32 = .ok (.aload_n 0, 1) := sdX2_gather_28.2.2.1
theorem dX2_gather_33 : decode cX2_gather 33 = .ok (.iconst (-1), 1) := sdX2_gather_28.2.2.2.1
theorem dX2_gather_34 : decode cX2_gather 34 = .ok (.invokevirtual 66, 3) := sdX2_gather_28.2.2.2.2.1
theorem dX2_gather_37 : decode cX2_gather 37 = .ok (.aload_n 0, 1) := sdX2_gather_28.2.2.2.2.2.1
theorem dX2_gather_38 : decode cX2_gather 38 = .ok (.aload_n 1, 1) := sdX2_gather_28.2.2.2.2.2.2.1
theorem dX2_gather_39 : decode cX2_gather 39 = .ok (.iload_n 2, 1) := sdX2_gather_28.2.2.2.2.2.2.2.1
theorem sdX2_gather_40 : dz_Seg cX2_gather [(40, .invokevirtual 70, 3), (43, .iinc 2 1, 3), (46, .goto (-34), 3), (49, .iconst 0, 1), (50, .istore_n 2, 1), (51, .iload_n 2, 1), (52, .aload_n 1, 1), (53, .getfield 74, 3)] := dz_sg _ 40 (by decide +kernel)
theorem dX2_gather_40 : decode cX2_gather 40 = .ok (.invokevirtual 70, 3) := sdX2_gather_40.1
theorem dX2_gather_43 : decode cX2_gather 43 = .ok (.iinc 2 1, 3) := sdX2_gather_40.2.1
theorem dX2_gather_46 : decode cX2_gather 46 = .ok (.goto (-34), 3) := sdX2_gather_40.2.2.1
theorem dX2_gather_49 : decode cX2_gather 49 = .ok (.iconst 0, 1) := sdX2_gather_40.2.2.2.1
theorem dX2_gather_50 : decode cX2_gather 50 = .ok (.istore_n 2, 1) := sdX2_gather_40.2.2.2.2.1
theorem dX2_gather_51 : decode cX2_gather 51 = .ok (.iload_n 2, 1) := sdX2_gather_40.2.2.2.2.2.1
theorem dX2_gather_52 : decode cX2_gather 52 = .ok (.aload_n 1, 1) := sdX2_gather_40.2.2.2.2.2.2.1
theorem dX2_gather_53 : decode cX2_gather 53 = .ok (.getfield 74, 3) := sdX2_gather_40.2.2.2.2.2.2.2.1
theorem sdX2_gather_56 : dz_Seg cX2_gather [(56, .if_icmp .ge 48, 3), (59, .aload_n 0, 1), (60, .iload_n 2, 1), (61, .invokevirtual 66, 3), (64, .iconst 0, 1), (65, .istore_n 3, 1), (66, .iload_n 3, 1), (67, .aload_n 1, 1)] := dz_sg _ 56 (by decide +kernel)
theorem dX2_gather_56 : decode cX2_gather 56 = .ok (.if_icmp .ge 48, 3) := sdX2_gather_56.1
theorem dX2_gather_59 : decode cX2_gather 59 = .ok (.aload_n 0, 1) := sdX2_gather_56.2.1
theorem dX2_gather_60 : decode cX2_gather 60 = .ok (.iload_n 2, 1) := sdX2_gather_56.2.2.1
theorem dX2_gather_61 : decode cX2_gather 61 = .ok (.invokevirtual 66, 3) := sdX2_gather_56.2.2.2.1
theorem dX2_gather_64 : decode cX2_gather 64 = .ok (.iconst 0, 1) := sdX2_gather_56.2.2.2.2.1
theorem dX2_gather_65 : decode cX2_gather 65 = .ok (.istore_n 3, 1) := sdX2_gather_56.2.2.2.2.2.1
theorem dX2_gather_66 : decode cX2_gather 66 = .ok (.iload_n 3, 1) := sdX2_gather_56.2.2.2.2.2.2.1
theorem dX2_gather_67 : decode cX2_gather 67 = .ok (.aload_n 1, 1) := sdX2_gather_56.2.2.2.2.2.2.2.1
theorem sdX2_gather_68 : dz_Seg cX2_gather [(68, .getfield 56, 3), (71, .if_icmp .ge 27, 3), (74, .aload_n 1, 1), (75, .getfield 61, 3), (78, .iload_n 3, 1), (79, .invokestatic 62, 3), (82, .iload_n 2, 1), (83, .if_icmp .ne 9, 3)] := dz_sg _ 68 (by decide +kernel)
theorem dX2_gather_68 : decode cX2_gather 68 = .ok (.getfield 56, 3) := sdX2_gather_68.1
theorem dX2_gather_71 : decode cX2_gather 71 = .ok (.if_icmp .ge 27, 3) := sdX2_gather_68.2.1
theorem dX2_gather_74 : decode cX2_gather 74 = .ok (.aload_n 1, 1) := sdX2_gather_68.2.2.1
theorem dX2_gather_75 : decode cX2_gather 75 = .ok (.getfield 61, 3) := sdX2_gather_68.2.2.2.1
theorem dX2_gather_78 : decode cX2_gather 78 = .ok (.iload_n 3, 1) := sdX2_gather_68.2.2.2.2.1
theorem dX2_gather_79 : decode cX2_gather 79 = .ok (.invokestatic 62, 3) := sdX2_gather_68.2.2.2.2.2.1
theorem dX2_gather_82 : decode cX2_gather 82 = .ok (.iload_n 2, 1) := sdX2_gather_68.2.2.2.2.2.2.1
theorem dX2_gather_83 : decode cX2_gather 83 = .ok (.if_icmp .ne 9, 3) := sdX2_gather_68.2.2.2.2.2.2.2.1
theorem sdX2_gather_86 : dz_Seg cX2_gather [(86, .aload_n 0, 1), (87, .aload_n 1, 1), (88, .iload_n 3, 1), (89, .invokevirtual 70, 3), (92, .iinc 3 1, 3), (95, .goto (-29), 3), (98, .iinc 2 1, 3), (101, .goto (-50), 3)] := dz_sg _ 86 (by decide +kernel)
theorem dX2_gather_86 : decode cX2_gather 86 = .ok (.aload_n 0, 1) := sdX2_gather_86.1
theorem dX2_gather_87 : decode cX2_gather 87 = .ok (.aload_n 1, 1) := sdX2_gather_86.2.1
theorem dX2_gather_88 : decode cX2_gather 88 = .ok (.iload_n 3, 1) := sdX2_gather_86.2.2.1
theorem dX2_gather_89 : decode cX2_gather 89 = .ok (.invokevirtual 70, 3) := sdX2_gather_86.2.2.2.1
theorem dX2_gather_92 : decode cX2_gather 92 = .ok (.iinc 3 1, 3) := sdX2_gather_86.2.2.2.2.1
theorem dX2_gather_95 : decode cX2_gather 95 = .ok (.goto (-29), 3) := sdX2_gather_86.2.2.2.2.2.1
theorem dX2_gather_98 : decode cX2_gather 98 = .ok (.iinc 2 1, 3) := sdX2_gather_86.2.2.2.2.2.2.1
theorem dX2_gather_101 : decode cX2_gather 101 = .ok (.goto (-50), 3) := sdX2_gather_86.2.2.2.2.2.2.2.1
theorem sdX2_gather_104 : dz_Seg cX2_gather [(104, .aload_n 0, 1), (105, .iconst 0, 1), (106, .putfield 77, 3), (109, .iconst 0, 1), (110, .istore_n 2, 1), (111, .iload_n 2, 1), (112, .aload_n 0, 1), (113, .getfield 52, 3)] := dz_sg _ 104 (by decide +kernel)
theorem dX2_gather_104 : decode cX2_gather 104 = .ok (.aload_n 0, 1) := sdX2_gather_104.1
theorem dX2_gather_105 : decode cX2_gather 105 = .ok (.iconst 0, 1) := sdX2_gather_104.2.1
theorem dX2_gather_106 : decode cX2_gather 106 = .ok (.putfield 77, 3) := sdX2_gather_104.2.2.1
theorem dX2_gather_109 : decode cX2_gather 109 = .ok (.iconst 0, 1) := sdX2_gather_104.2.2.2.1
theorem dX2_gather_110 : decode cX2_gather 110 = .ok (.istore_n 2, 1) := sdX2_gather_104.2.2.2.2.1
theorem dX2_gather_111 : decode cX2_gather 111 = .ok (.iload_n 2, 1) := sdX2_gather_104.2.2.2.2.2.1
theorem dX2_gather_112 : decode cX2_gather 112 = .ok (.aload_n 0, 1) := sdX2_gather_104.2.2.2.2.2.2.1
theorem dX2_gather_113 : decode cX2_gather 113 = .ok (.getfield 52, 3) := sdX2_gather_104.2.2.2.2.2.2.2.1
theorem sdX2_gather_116 : dz_Seg cX2_gather [(116, .if_icmp .ge 35, 3), (119, .aload_n 0, 1), (120, .iload_n 2, 1), (121, .aload_n 1, 1), (122, .getfield 80, 3), (125, .invokevirtual 83, 3), (128, .aload_n 0, 1), (129, .dup, 1)] := dz_sg _ 116 (by decide +kernel)
theorem dX2_gather_116 : decode cX2_gather 116 = .ok (.if_icmp .ge 35, 3) := sdX2_gather_116.1
theorem dX2_gather_119 : decode cX2_gather 119 = .ok (.aload_n 0, 1) := sdX2_gather_116.2.1
theorem dX2_gather_120 : decode cX2_gather 120 = .ok (.iload_n 2, 1) := sdX2_gather_116.2.2.1
theorem dX2_gather_121 : decode cX2_gather 121 = .ok (.aload_n 1, 1) := sdX2_gather_116.2.2.2.1
theorem dX2_gather_122 : decode cX2_gather 122 = .ok (.getfield 80, 3) := sdX2_gather_116.2.2.2.2.1
theorem dX2_gather_125 : decode cX2_gather 125 = .ok (.invokevirtual 83, 3) := sdX2_gather_116.2.2.2.2.2.1
theorem dX2_gather_128 : decode cX2_gather 128 = .ok (.aload_n 0, 1) := sdX2_gather_116.2.2.2.2.2.2.1
theorem dX2_gather_129 : decode cX2_gather 129 = .ok (.dup, 1) := sdX2_gather_116.2.2.2.2.2.2.2.1
theorem sdX2_gather_130 : dz_Seg cX2_gather [(130, .getfield 77, 3), (133, .aload_n 0, 1), (134, .getfield 33, 3), (137, .iload_n 2, 1), (138, .invokestatic 62, 3), (141, .iadd, 1), (142, .putfield 77, 3), (145, .iinc 2 1, 3)] := dz_sg _ 130 (by decide +kernel)
theorem dX2_gather_130 : decode cX2_gather 130 = .ok (.getfield 77, 3) := sdX2_gather_130.1
theorem dX2_gather_133 : decode cX2_gather 133 = .ok (.aload_n 0, 1) := sdX2_gather_130.2.1
theorem dX2_gather_134 : decode cX2_gather 134 = .ok (.getfield 33, 3) := sdX2_gather_130.2.2.1
theorem dX2_gather_137 : decode cX2_gather 137 = .ok (.iload_n 2, 1) := sdX2_gather_130.2.2.2.1
theorem dX2_gather_138 : decode cX2_gather 138 = .ok (.invokestatic 62, 3) := sdX2_gather_130.2.2.2.2.1
theorem dX2_gather_141 : decode cX2_gather 141 = .ok (.iadd, 1) := sdX2_gather_130.2.2.2.2.2.1
theorem dX2_gather_142 : decode cX2_gather 142 = .ok (.putfield 77, 3) := sdX2_gather_130.2.2.2.2.2.2.1
theorem dX2_gather_145 : decode cX2_gather 145 = .ok (.iinc 2 1, 3) := sdX2_gather_130.2.2.2.2.2.2.2.1
theorem sdX2_gather_148 : dz_Seg cX2_gather [(148, .goto (-37), 3), (151, .return_, 1)] := dz_sg _ 148 (by decide +kernel)
theorem dX2_gather_148 : decode cX2_gather 148 = .ok (.goto (-37), 3) := sdX2_gather_148.1
theorem dX2_gather_151 : decode cX2_gather 151 = .ok (.return_, 1) := sdX2_gather_148.2.1
theorem sdX2_gatherUnits_0 : dz_Seg cX2_gatherUnits [(0, .aload_n 0, 1), (1, .aload_n 1, 1), (2, .getfield 87, 3), (5, .putfield 90, 3), (8, .aload_n 0, 1), (9, .iconst 0, 1), (10, .putfield 91, 3), (13, .iconst 0, 1)] := dz_sg _ 0 (by decide +kernel)
theorem dX2_gatherUnits_0 : decode cX2_gatherUnits 0 = .ok (.aload_n 0, 1) := sdX2_gatherUnits_0.1
theorem dX2_gatherUnits_1 : decode cX2_gatherUnits 1 = .ok (.aload_n 1, 1) := sdX2_gatherUnits_0.2.1
theorem dX2_gatherUnits_2 : decode cX2_gatherUnits 2 = .ok (.getfield 87, 3) := sdX2_gatherUnits_0.2.2.1
theorem dX2_gatherUnits_5 : decode cX2_gatherUnits 5 = .ok (.putfield 90, 3) := sdX2_gatherUnits_0.2.2.2.1
theorem dX2_gatherUnits_8 : decode cX2_gatherUnits 8 = .ok (.aload_n 0, 1) := sdX2_gatherUnits_0.2.2.2.2.1
theorem dX2_gatherUnits_9 : decode cX2_gatherUnits 9 = .ok (.iconst 0, 1) := sdX2_gatherUnits_0.2.2.2.2.2.1
theorem dX2_gatherUnits_10 : decode cX2_gatherUnits 10 = .ok (.putfield 91, 3) := sdX2_gatherUnits_0.2.2.2.2.2.2.1
theorem dX2_gatherUnits_13 : decode cX2_gatherUnits 13 = .ok (.iconst 0, 1) := sdX2_gatherUnits_0.2.2.2.2.2.2.2.1
theorem sdX2_gatherUnits_14 : dz_Seg cX2_gatherUnits [(14, .istore_n 2, 1), (15, .iload_n 2, 1), (16, .aload_n 0, 1), (17, .getfield 90, 3), (20, .if_icmp .ge 86, 3), (23, .aload_n 1, 1), (24, .getfield 95, 3), (27, .iload_n 2, 1)] := dz_sg _ 14 (by decide +kernel)
theorem dX2_gatherUnits_14 : decode cX2_gatherUnits 14 = .ok (.istore_n 2, 1) := sdX2_gatherUnits_14.1
theorem dX2_gatherUnits_15 : decode cX2_gatherUnits 15 = .ok (.iload_n 2, 1) := sdX2_gatherUnits_14.2.1
theorem dX2_gatherUnits_16 : decode cX2_gatherUnits 16 = .ok (.aload_n 0, 1) := sdX2_gatherUnits_14.2.2.1
theorem dX2_gatherUnits_17 : decode cX2_gatherUnits 17 = .ok (.getfield 90, 3) := sdX2_gatherUnits_14.2.2.2.1
theorem dX2_gatherUnits_20 : decode cX2_gatherUnits 20 = .ok (.if_icmp .ge 86, 3) := sdX2_gatherUnits_14.2.2.2.2.1
theorem dX2_gatherUnits_23 : decode cX2_gatherUnits 23 = .ok (.aload_n 1, 1) := sdX2_gatherUnits_14.2.2.2.2.2.1
theorem dX2_gatherUnits_24 : decode cX2_gatherUnits 24 = .ok (.getfield 95, 3) := sdX2_gatherUnits_14.2.2.2.2.2.2.1
theorem dX2_gatherUnits_27 : decode cX2_gatherUnits 27 = .ok (.iload_n 2, 1) := sdX2_gatherUnits_14.2.2.2.2.2.2.2.1
theorem sdX2_gatherUnits_28 : dz_Seg cX2_gatherUnits [(28, .invokestatic 62, 3), (31, .istore_n 3, 1), (32, .aload_n 0, 1), (33, .getfield 9, 3), (36, .iload_n 2, 1), (37, .iload_n 3, 1), (38, .invokestatic 96, 3), (41, .aload_n 0, 1)] := dz_sg _ 28 (by decide +kernel)
theorem dX2_gatherUnits_28 : decode cX2_gatherUnits 28 = .ok (.invokestatic 62, 3) := sdX2_gatherUnits_28.1
theorem dX2_gatherUnits_31 : decode cX2_gatherUnits 31 = .ok (.istore_n 3, 1) := sdX2_gatherUnits_28.2.1
theorem dX2_gatherUnits_32 : decode cX2_gatherUnits 32 = .ok (.aload_n 0, 1) := sdX2_gatherUnits_28.2.2.1
theorem dX2_gatherUnits_33 : decode cX2_gatherUnits 33 = .ok (.getfield 9, 3) := sdX2_gatherUnits_28.2.2.2.1
theorem dX2_gatherUnits_36 : decode cX2_gatherUnits 36 = .ok (.iload_n 2, 1) := sdX2_gatherUnits_28.2.2.2.2.1
theorem dX2_gatherUnits_37 : decode cX2_gatherUnits 37 = .ok (.iload_n 3, 1) := sdX2_gatherUnits_28.2.2.2.2.2.1
theorem dX2_gatherUnits_38 : decode cX2_gatherUnits 38 = .ok (.invokestatic 96, 3) := sdX2_gatherUnits_28.2.2.2.2.2.2.1
theorem dX2_gatherUnits_41 : decode cX2_gatherUnits 41 = .ok (.aload_n 0, 1) := sdX2_gatherUnits_28.2.2.2.2.2.2.2.1
theorem sdX2_gatherUnits_42 : dz_Seg cX2_gatherUnits [(42, .getfield 15, 3), (45, .iload_n 2, 1), (46, .iload_n 3, 1), (47, .aload_n 1, 1), (48, .getfield 100, 3), (51, .imul, 1), (52, .bipush 100, 2), (54, .idiv, 1)] := dz_sg _ 42 (by decide +kernel)
theorem dX2_gatherUnits_42 : decode cX2_gatherUnits 42 = .ok (.getfield 15, 3) := sdX2_gatherUnits_42.1
theorem dX2_gatherUnits_45 : decode cX2_gatherUnits 45 = .ok (.iload_n 2, 1) := sdX2_gatherUnits_42.2.1
theorem dX2_gatherUnits_46 : decode cX2_gatherUnits 46 = .ok (.iload_n 3, 1) := sdX2_gatherUnits_42.2.2.1
theorem dX2_gatherUnits_47 : decode cX2_gatherUnits 47 = .ok (.aload_n 1, 1) := sdX2_gatherUnits_42.2.2.2.1
theorem dX2_gatherUnits_48 : decode cX2_gatherUnits 48 = .ok (.getfield 100, 3) := sdX2_gatherUnits_42.2.2.2.2.1
theorem dX2_gatherUnits_51 : decode cX2_gatherUnits 51 = .ok (.imul, 1) := sdX2_gatherUnits_42.2.2.2.2.2.1
theorem dX2_gatherUnits_52 : decode cX2_gatherUnits 52 = .ok (.bipush 100, 2) := sdX2_gatherUnits_42.2.2.2.2.2.2.1
theorem dX2_gatherUnits_54 : decode cX2_gatherUnits 54 = .ok (.idiv, 1) := sdX2_gatherUnits_42.2.2.2.2.2.2.2.1
theorem sdX2_gatherUnits_55 : dz_Seg cX2_gatherUnits [(55, .invokestatic 96, 3), (58, .aload_n 0, 1), (59, .getfield 18, 3), (62, .iload_n 2, 1), (63, .iload_n 3, 1), (64, .aload_n 1, 1), (65, .getfield 103, 3), (68, .imul, 1)] := dz_sg _ 55 (by decide +kernel)
theorem dX2_gatherUnits_55 : decode cX2_gatherUnits 55 = .ok (.invokestatic 96, 3) := sdX2_gatherUnits_55.1
theorem dX2_gatherUnits_58 : decode cX2_gatherUnits 58 = .ok (.aload_n 0, 1) := sdX2_gatherUnits_55.2.1
theorem dX2_gatherUnits_59 : decode cX2_gatherUnits 59 = .ok (.getfield 18, 3) := sdX2_gatherUnits_55.2.2.1
theorem dX2_gatherUnits_62 : decode cX2_gatherUnits 62 = .ok (.iload_n 2, 1) := sdX2_gatherUnits_55.2.2.2.1
theorem dX2_gatherUnits_63 : decode cX2_gatherUnits 63 = .ok (.iload_n 3, 1) := sdX2_gatherUnits_55.2.2.2.2.1
theorem dX2_gatherUnits_64 : decode cX2_gatherUnits 64 = .ok (.aload_n 1, 1) := sdX2_gatherUnits_55.2.2.2.2.2.1
theorem dX2_gatherUnits_65 : decode cX2_gatherUnits 65 = .ok (.getfield 103, 3) := sdX2_gatherUnits_55.2.2.2.2.2.2.1
theorem dX2_gatherUnits_68 : decode cX2_gatherUnits 68 = .ok (.imul, 1) := sdX2_gatherUnits_55.2.2.2.2.2.2.2.1
theorem sdX2_gatherUnits_69 : dz_Seg cX2_gatherUnits [(69, .bipush 100, 2), (71, .idiv, 1), (72, .invokestatic 96, 3), (75, .aload_n 0, 1), (76, .dup, 1), (77, .getfield 91, 3), (80, .aload_n 0, 1), (81, .getfield 15, 3)] := dz_sg _ 69 (by decide +kernel)
theorem dX2_gatherUnits_69 : decode cX2_gatherUnits 69 = .ok (.bipush 100, 2) := sdX2_gatherUnits_69.1
theorem dX2_gatherUnits_71 : decode cX2_gatherUnits 71 = .ok (.idiv, 1) := sdX2_gatherUnits_69.2.1
theorem dX2_gatherUnits_72 : decode cX2_gatherUnits 72 = .ok (.invokestatic 96, 3) := sdX2_gatherUnits_69.2.2.1
theorem dX2_gatherUnits_75 : decode cX2_gatherUnits 75 = .ok (.aload_n 0, 1) := sdX2_gatherUnits_69.2.2.2.1
theorem dX2_gatherUnits_76 : decode cX2_gatherUnits 76 = .ok (.dup, 1) := sdX2_gatherUnits_69.2.2.2.2.1
theorem dX2_gatherUnits_77 : decode cX2_gatherUnits 77 = .ok (.getfield 91, 3) := sdX2_gatherUnits_69.2.2.2.2.2.1
theorem dX2_gatherUnits_80 : decode cX2_gatherUnits 80 = .ok (.aload_n 0, 1) := sdX2_gatherUnits_69.2.2.2.2.2.2.1
theorem dX2_gatherUnits_81 : decode cX2_gatherUnits 81 = .ok (.getfield 15, 3) := sdX2_gatherUnits_69.2.2.2.2.2.2.2.1
theorem sdX2_gatherUnits_84 : dz_Seg cX2_gatherUnits [(84, .iload_n 2, 1), (85, .invokestatic 62, 3), (88, .ifCond .le 7, 3), (91, .iconst 1, 1), (92, .goto 4, 3), (95, .iconst 0, 1), (96, .ior, 1), (97, .putfield 91, 3)] := dz_sg _ 84 (by decide +kernel)
theorem dX2_gatherUnits_84 : decode cX2_gatherUnits 84 = .ok (.iload_n 2, 1) := sdX2_gatherUnits_84.1
theorem dX2_gatherUnits_85 : decode cX2_gatherUnits 85 = .ok (.invokestatic 62, 3) := sdX2_gatherUnits_84.2.1
theorem dX2_gatherUnits_88 : decode cX2_gatherUnits 88 = .ok (.ifCond .le 7, 3) := sdX2_gatherUnits_84.2.2.1
theorem dX2_gatherUnits_91 : decode cX2_gatherUnits 91 = .ok (.iconst 1, 1) := sdX2_gatherUnits_84.2.2.2.1
theorem dX2_gatherUnits_92 : decode cX2_gatherUnits 92 = .ok (.goto 4, 3) := sdX2_gatherUnits_84.2.2.2.2.1
theorem dX2_gatherUnits_95 : decode cX2_gatherUnits 95 = .ok (.iconst 0, 1) := sdX2_gatherUnits_84.2.2.2.2.2.1
theorem dX2_gatherUnits_96 : decode cX2_gatherUnits 96 = .ok (.ior, 1) := sdX2_gatherUnits_84.2.2.2.2.2.2.1
theorem dX2_gatherUnits_97 : decode cX2_gatherUnits 97 = .ok (.putfield 91, 3) := sdX2_gatherUnits_84.2.2.2.2.2.2.2.1
theorem sdX2_gatherUnits_100 : dz_Seg cX2_gatherUnits [(100, .iinc 2 1, 3), (103, .goto (-88), 3), (106, .return_, 1)] := dz_sg _ 100 (by decide +kernel)
theorem dX2_gatherUnits_100 : decode cX2_gatherUnits 100 = .ok (.iinc 2 1, 3) := sdX2_gatherUnits_100.1
theorem dX2_gatherUnits_103 : decode cX2_gatherUnits 103 = .ok (.goto (-88), 3) := sdX2_gatherUnits_100.2.1
theorem dX2_gatherUnits_106 : decode cX2_gatherUnits 106 = .ok (.return_, 1) := sdX2_gatherUnits_100.2.2.1
theorem sdX2_open_0 : dz_Seg cX2_open [(0, .aload_n 0, 1), (1, .getfield 24, 3), (4, .aload_n 0, 1), (5, .getfield 52, 3), (8, .iconst 0, 1), (9, .invokestatic 96, 3), (12, .aload_n 0, 1), (13, .getfield 27, 3)] := dz_sg _ 0 (by decide +kernel)
theorem dX2_open_0 : decode cX2_open 0 = .ok (.aload_n 0, 1) := sdX2_open_0.1
theorem dX2_open_1 : decode cX2_open 1 = .ok (.getfield 24, 3) := sdX2_open_0.2.1
theorem dX2_open_4 : decode cX2_open 4 = .ok (.aload_n 0, 1) := sdX2_open_0.2.2.1
theorem dX2_open_5 : decode cX2_open 5 = .ok (.getfield 52, 3) := sdX2_open_0.2.2.2.1
theorem dX2_open_8 : decode cX2_open 8 = .ok (.iconst 0, 1) := sdX2_open_0.2.2.2.2.1
theorem dX2_open_9 : decode cX2_open 9 = .ok (.invokestatic 96, 3) := sdX2_open_0.2.2.2.2.2.1
theorem dX2_open_12 : decode cX2_open 12 = .ok (.aload_n 0, 1) := sdX2_open_0.2.2.2.2.2.2.1
theorem dX2_open_13 : decode cX2_open 13 = .ok (.getfield 27, 3) := sdX2_open_0.2.2.2.2.2.2.2.1
theorem sdX2_open_16 : dz_Seg cX2_open [(16, .aload_n 0, 1), (17, .getfield 52, 3), (20, .iconst 0, 1), (21, .invokestatic 96, 3), (24, .aload_n 0, 1), (25, .getfield 30, 3), (28, .aload_n 0, 1), (29, .getfield 52, 3)] := dz_sg _ 16 (by decide +kernel)
theorem dX2_open_16 : decode cX2_open 16 = .ok (.aload_n 0, 1) := sdX2_open_16.1
theorem dX2_open_17 : decode cX2_open 17 = .ok (.getfield 52, 3) := sdX2_open_16.2.1
theorem dX2_open_20 : decode cX2_open 20 = .ok (.iconst 0, 1) := sdX2_open_16.2.2.1
theorem dX2_open_21 : decode cX2_open 21 = .ok (.invokestatic 96, 3) := sdX2_open_16.2.2.2.1
theorem dX2_open_24 : decode cX2_open 24 = .ok (.aload_n 0, 1) := sdX2_open_16.2.2.2.2.1
theorem dX2_open_25 : decode cX2_open 25 = .ok (.getfield 30, 3) := sdX2_open_16.2.2.2.2.2.1
theorem dX2_open_28 : decode cX2_open 28 = .ok (.aload_n 0, 1) := sdX2_open_16.2.2.2.2.2.2.1
theorem dX2_open_29 : decode cX2_open 29 = .ok (.getfield 52, 3) := sdX2_open_16.2.2.2.2.2.2.2.1
theorem sdX2_open_32 : dz_Seg cX2_open [(32, .iconst 0, 1), (33, .invokestatic 96, 3), (36, .aload_n 0, 1), (37, .getfield 36, 3), (40, .aload_n 0, 1), (41, .getfield 52, 3), (44, .iconst 0, 1), (45, .invokestatic 96, 3)] := dz_sg _ 32 (by decide +kernel)
theorem dX2_open_32 : decode cX2_open 32 = .ok (.iconst 0, 1) := sdX2_open_32.1
theorem dX2_open_33 : decode cX2_open 33 = .ok (.invokestatic 96, 3) := sdX2_open_32.2.1
theorem dX2_open_36 : decode cX2_open 36 = .ok (.aload_n 0, 1) := sdX2_open_32.2.2.1
theorem dX2_open_37 : decode cX2_open 37 = .ok (.getfield 36, 3) := sdX2_open_32.2.2.2.1
theorem dX2_open_40 : decode cX2_open 40 = .ok (.aload_n 0, 1) := sdX2_open_32.2.2.2.2.1
theorem dX2_open_41 : decode cX2_open 41 = .ok (.getfield 52, 3) := sdX2_open_32.2.2.2.2.2.1
theorem dX2_open_44 : decode cX2_open 44 = .ok (.iconst 0, 1) := sdX2_open_32.2.2.2.2.2.2.1
theorem dX2_open_45 : decode cX2_open 45 = .ok (.invokestatic 96, 3) := sdX2_open_32.2.2.2.2.2.2.2.1
theorem sdX2_open_48 : dz_Seg cX2_open [(48, .aload_n 0, 1), (49, .getfield 39, 3), (52, .aload_n 0, 1), (53, .getfield 52, 3), (56, .iload_n 1, 1), (57, .invokestatic 96, 3), (60, .aload_n 0, 1), (61, .dup, 1)] := dz_sg _ 48 (by decide +kernel)
theorem dX2_open_48 : decode cX2_open 48 = .ok (.aload_n 0, 1) := sdX2_open_48.1
theorem dX2_open_49 : decode cX2_open 49 = .ok (.getfield 39, 3) := sdX2_open_48.2.1
theorem dX2_open_52 : decode cX2_open 52 = .ok (.aload_n 0, 1) := sdX2_open_48.2.2.1
theorem dX2_open_53 : decode cX2_open 53 = .ok (.getfield 52, 3) := sdX2_open_48.2.2.2.1
theorem dX2_open_56 : decode cX2_open 56 = .ok (.iload_n 1, 1) := sdX2_open_48.2.2.2.2.1
theorem dX2_open_57 : decode cX2_open 57 = .ok (.invokestatic 96, 3) := sdX2_open_48.2.2.2.2.2.1
theorem dX2_open_60 : decode cX2_open 60 = .ok (.aload_n 0, 1) := sdX2_open_48.2.2.2.2.2.2.1
theorem dX2_open_61 : decode cX2_open 61 = .ok (.dup, 1) := sdX2_open_48.2.2.2.2.2.2.2.1
theorem sdX2_open_62 : dz_Seg cX2_open [(62, .getfield 52, 3), (65, .iconst 1, 1), (66, .iadd, 1), (67, .putfield 52, 3), (70, .return_, 1)] := dz_sg _ 62 (by decide +kernel)
theorem dX2_open_62 : decode cX2_open 62 = .ok (.getfield 52, 3) := sdX2_open_62.1
theorem dX2_open_65 : decode cX2_open 65 = .ok (.iconst 1, 1) := sdX2_open_62.2.1
theorem dX2_open_66 : decode cX2_open 66 = .ok (.iadd, 1) := sdX2_open_62.2.2.1
theorem dX2_open_67 : decode cX2_open 67 = .ok (.putfield 52, 3) := sdX2_open_62.2.2.2.1
theorem dX2_open_70 : decode cX2_open 70 = .ok (.return_, 1) := sdX2_open_62.2.2.2.2.1
theorem sdX2_join_0 : dz_Seg cX2_join [(0, .aload_n 0, 1), (1, .getfield 52, 3), (4, .iconst 1, 1), (5, .isub, 1), (6, .istore_n 3, 1), (7, .aload_n 0, 1), (8, .getfield 21, 3), (11, .iload_n 2, 1)] := dz_sg _ 0 (by decide +kernel)
theorem dX2_join_0 : decode cX2_join 0 = .ok (.aload_n 0, 1) := sdX2_join_0.1
theorem dX2_join_1 : decode cX2_join 1 = .ok (.getfield 52, 3) := sdX2_join_0.2.1
theorem dX2_join_4 : decode cX2_join 4 = .ok (.iconst 1, 1) := sdX2_join_0.2.2.1
theorem dX2_join_5 : decode cX2_join 5 = .ok (.isub, 1) := sdX2_join_0.2.2.2.1
theorem dX2_join_6 : decode cX2_join 6 = .ok (.istore_n 3, 1) := sdX2_join_0.2.2.2.2.1
theorem dX2_join_7 : decode cX2_join 7 = .ok (.aload_n 0, 1) := sdX2_join_0.2.2.2.2.2.1
theorem dX2_join_8 : decode cX2_join 8 = .ok (.getfield 21, 3) := sdX2_join_0.2.2.2.2.2.2.1
theorem dX2_join_11 : decode cX2_join 11 = .ok (.iload_n 2, 1) := sdX2_join_0.2.2.2.2.2.2.2.1
theorem sdX2_join_12 : dz_Seg cX2_join [(12, .iload_n 3, 1), (13, .invokestatic 96, 3), (16, .aload_n 0, 1), (17, .getfield 24, 3), (20, .iload_n 3, 1), (21, .iconst 1, 1), (22, .invokestatic 106, 3), (25, .aload_n 0, 1)] := dz_sg _ 12 (by decide +kernel)
theorem dX2_join_12 : decode cX2_join 12 = .ok (.iload_n 3, 1) := sdX2_join_12.1
theorem dX2_join_13 : decode cX2_join 13 = .ok (.invokestatic 96, 3) := sdX2_join_12.2.1
theorem dX2_join_16 : decode cX2_join 16 = .ok (.aload_n 0, 1) := sdX2_join_12.2.2.1
theorem dX2_join_17 : decode cX2_join 17 = .ok (.getfield 24, 3) := sdX2_join_12.2.2.2.1
theorem dX2_join_20 : decode cX2_join 20 = .ok (.iload_n 3, 1) := sdX2_join_12.2.2.2.2.1
theorem dX2_join_21 : decode cX2_join 21 = .ok (.iconst 1, 1) := sdX2_join_12.2.2.2.2.2.1
theorem dX2_join_22 : decode cX2_join 22 = .ok (.invokestatic 106, 3) := sdX2_join_12.2.2.2.2.2.2.1
theorem dX2_join_25 : decode cX2_join 25 = .ok (.aload_n 0, 1) := sdX2_join_12.2.2.2.2.2.2.2.1
theorem sdX2_join_26 : dz_Seg cX2_join [(26, .getfield 27, 3), (29, .iload_n 3, 1), (30, .aload_n 1, 1), (31, .getfield 109, 3), (34, .iload_n 2, 1), (35, .invokestatic 62, 3), (38, .invokestatic 106, 3), (41, .aload_n 0, 1)] := dz_sg _ 26 (by decide +kernel)
theorem dX2_join_26 : decode cX2_join 26 = .ok (.getfield 27, 3) := sdX2_join_26.1
theorem dX2_join_29 : decode cX2_join 29 = .ok (.iload_n 3, 1) := sdX2_join_26.2.1
theorem dX2_join_30 : decode cX2_join 30 = .ok (.aload_n 1, 1) := sdX2_join_26.2.2.1
theorem dX2_join_31 : decode cX2_join 31 = .ok (.getfield 109, 3) := sdX2_join_26.2.2.2.1
theorem dX2_join_34 : decode cX2_join 34 = .ok (.iload_n 2, 1) := sdX2_join_26.2.2.2.2.1
theorem dX2_join_35 : decode cX2_join 35 = .ok (.invokestatic 62, 3) := sdX2_join_26.2.2.2.2.2.1
theorem dX2_join_38 : decode cX2_join 38 = .ok (.invokestatic 106, 3) := sdX2_join_26.2.2.2.2.2.2.1
theorem dX2_join_41 : decode cX2_join 41 = .ok (.aload_n 0, 1) := sdX2_join_26.2.2.2.2.2.2.2.1
theorem sdX2_join_42 : dz_Seg cX2_join [(42, .getfield 30, 3), (45, .iload_n 3, 1), (46, .aload_n 1, 1), (47, .getfield 112, 3), (50, .iload_n 2, 1), (51, .invokestatic 62, 3), (54, .invokestatic 106, 3), (57, .aload_n 0, 1)] := dz_sg _ 42 (by decide +kernel)
theorem dX2_join_42 : decode cX2_join 42 = .ok (.getfield 30, 3) := sdX2_join_42.1
theorem dX2_join_45 : decode cX2_join 45 = .ok (.iload_n 3, 1) := sdX2_join_42.2.1
theorem dX2_join_46 : decode cX2_join 46 = .ok (.aload_n 1, 1) := sdX2_join_42.2.2.1
theorem dX2_join_47 : decode cX2_join 47 = .ok (.getfield 112, 3) := sdX2_join_42.2.2.2.1
theorem dX2_join_50 : decode cX2_join 50 = .ok (.iload_n 2, 1) := sdX2_join_42.2.2.2.2.1
theorem dX2_join_51 : decode cX2_join 51 = .ok (.invokestatic 62, 3) := sdX2_join_42.2.2.2.2.2.1
theorem dX2_join_54 : decode cX2_join 54 = .ok (.invokestatic 106, 3) := sdX2_join_42.2.2.2.2.2.2.1
theorem dX2_join_57 : decode cX2_join 57 = .ok (.aload_n 0, 1) := sdX2_join_42.2.2.2.2.2.2.2.1
theorem sdX2_join_58 : dz_Seg cX2_join [(58, .getfield 36, 3), (61, .iload_n 3, 1), (62, .iconst 1, 1), (63, .iload_n 2, 1), (64, .ishl, 1), (65, .invokestatic 106, 3), (68, .aload_n 0, 1), (69, .getfield 42, 3)] := dz_sg _ 58 (by decide +kernel)
theorem dX2_join_58 : decode cX2_join 58 = .ok (.getfield 36, 3) := sdX2_join_58.1
theorem dX2_join_61 : decode cX2_join 61 = .ok (.iload_n 3, 1) := sdX2_join_58.2.1
theorem dX2_join_62 : decode cX2_join 62 = .ok (.iconst 1, 1) := sdX2_join_58.2.2.1
theorem dX2_join_63 : decode cX2_join 63 = .ok (.iload_n 2, 1) := sdX2_join_58.2.2.2.1
theorem dX2_join_64 : decode cX2_join 64 = .ok (.ishl, 1) := sdX2_join_58.2.2.2.2.1
theorem dX2_join_65 : decode cX2_join 65 = .ok (.invokestatic 106, 3) := sdX2_join_58.2.2.2.2.2.1
theorem dX2_join_68 : decode cX2_join 68 = .ok (.aload_n 0, 1) := sdX2_join_58.2.2.2.2.2.2.1
theorem dX2_join_69 : decode cX2_join 69 = .ok (.getfield 42, 3) := sdX2_join_58.2.2.2.2.2.2.2.1
theorem sdX2_join_72 : dz_Seg cX2_join [(72, .iload_n 3, 1), (73, .aload_n 1, 1), (74, .getfield 113, 3), (77, .iload_n 2, 1), (78, .invokestatic 62, 3), (81, .invokestatic 96, 3), (84, .iconst 0, 1), (85, .istore 4, 2)] := dz_sg _ 72 (by decide +kernel)
theorem dX2_join_72 : decode cX2_join 72 = .ok (.iload_n 3, 1) := sdX2_join_72.1
theorem dX2_join_73 : decode cX2_join 73 = .ok (.aload_n 1, 1) := sdX2_join_72.2.1
theorem dX2_join_74 : decode cX2_join 74 = .ok (.getfield 113, 3) := sdX2_join_72.2.2.1
theorem dX2_join_77 : decode cX2_join 77 = .ok (.iload_n 2, 1) := sdX2_join_72.2.2.2.1
theorem dX2_join_78 : decode cX2_join 78 = .ok (.invokestatic 62, 3) := sdX2_join_72.2.2.2.2.1
theorem dX2_join_81 : decode cX2_join 81 = .ok (.invokestatic 96, 3) := sdX2_join_72.2.2.2.2.2.1
theorem dX2_join_84 : decode cX2_join 84 = .ok (.iconst 0, 1) := sdX2_join_72.2.2.2.2.2.2.1
theorem dX2_join_85 : decode cX2_join 85 = .ok (.istore 4, 2) := sdX2_join_72.2.2.2.2.2.2.2.1
theorem sdX2_join_87 : dz_Seg cX2_join [(87, .iload 4, 2), (89, .iconst 3, 1), (90, .if_icmp .ge 35, 3), (93, .aload_n 0, 1), (94, .getfield 45, 3), (97, .iload_n 3, 1), (98, .iconst 3, 1), (99, .imul, 1)] := dz_sg _ 87 (by decide +kernel)
theorem dX2_join_87 : decode cX2_join 87 = .ok (.iload 4, 2) := sdX2_join_87.1
theorem dX2_join_89 : decode cX2_join 89 = .ok (.iconst 3, 1) := sdX2_join_87.2.1
theorem dX2_join_90 : decode cX2_join 90 = .ok (.if_icmp .ge 35, 3) := sdX2_join_87.2.2.1
theorem dX2_join_93 : decode cX2_join 93 = .ok (.aload_n 0, 1) := sdX2_join_87.2.2.2.1
theorem dX2_join_94 : decode cX2_join 94 = .ok (.getfield 45, 3) := sdX2_join_87.2.2.2.2.1
theorem dX2_join_97 : decode cX2_join 97 = .ok (.iload_n 3, 1) := sdX2_join_87.2.2.2.2.2.1
theorem dX2_join_98 : decode cX2_join 98 = .ok (.iconst 3, 1) := sdX2_join_87.2.2.2.2.2.2.1
theorem dX2_join_99 : decode cX2_join 99 = .ok (.imul, 1) := sdX2_join_87.2.2.2.2.2.2.2.1
theorem sdX2_join_100 : dz_Seg cX2_join [(100, .iload 4, 2), (102, .iadd, 1), (103, .aload_n 1, 1), (104, .getfield 114, 3), (107, .iload_n 2, 1), (108, .iconst 3, 1), (109, .imul, 1), (110, .iload 4, 2)] := dz_sg _ 100 (by decide +kernel)
theorem dX2_join_100 : decode cX2_join 100 = .ok (.iload 4, 2) := sdX2_join_100.1
theorem dX2_join_102 : decode cX2_join 102 = .ok (.iadd, 1) := sdX2_join_100.2.1
theorem dX2_join_103 : decode cX2_join 103 = .ok (.aload_n 1, 1) := sdX2_join_100.2.2.1
theorem dX2_join_104 : decode cX2_join 104 = .ok (.getfield 114, 3) := sdX2_join_100.2.2.2.1
theorem dX2_join_107 : decode cX2_join 107 = .ok (.iload_n 2, 1) := sdX2_join_100.2.2.2.2.1
theorem dX2_join_108 : decode cX2_join 108 = .ok (.iconst 3, 1) := sdX2_join_100.2.2.2.2.2.1
theorem dX2_join_109 : decode cX2_join 109 = .ok (.imul, 1) := sdX2_join_100.2.2.2.2.2.2.1
theorem dX2_join_110 : decode cX2_join 110 = .ok (.iload 4, 2) := sdX2_join_100.2.2.2.2.2.2.2.1
theorem sdX2_join_112 : dz_Seg cX2_join [(112, .iadd, 1), (113, .invokestatic 62, 3), (116, .invokestatic 96, 3), (119, .iinc 4 1, 3), (122, .goto (-35), 3), (125, .return_, 1)] := dz_sg _ 112 (by decide +kernel)
theorem dX2_join_112 : decode cX2_join 112 = .ok (.iadd, 1) := sdX2_join_112.1
theorem dX2_join_113 : decode cX2_join 113 = .ok (.invokestatic 62, 3) := sdX2_join_112.2.1
theorem dX2_join_116 : decode cX2_join 116 = .ok (.invokestatic 96, 3) := sdX2_join_112.2.2.1
theorem dX2_join_119 : decode cX2_join 119 = .ok (.iinc 4 1, 3) := sdX2_join_112.2.2.2.1
theorem dX2_join_122 : decode cX2_join 122 = .ok (.goto (-35), 3) := sdX2_join_112.2.2.2.2.1
theorem dX2_join_125 : decode cX2_join 125 = .ok (.return_, 1) := sdX2_join_112.2.2.2.2.2.1
theorem sdX2_close_0 : dz_Seg cX2_close [(0, .aload_n 0, 1), (1, .getfield 24, 3), (4, .iload_n 1, 1), (5, .invokestatic 62, 3), (8, .istore_n 3, 1), (9, .iload_n 3, 1), (10, .ifCond .ne 7, 3), (13, .iconst 0, 1)] := dz_sg _ 0 (by decide +kernel)
theorem dX2_close_0 : decode cX2_close 0 = .ok (.aload_n 0, 1) := sdX2_close_0.1
theorem dX2_close_1 : decode cX2_close 1 = .ok (.getfield 24, 3) := sdX2_close_0.2.1
theorem dX2_close_4 : decode cX2_close 4 = .ok (.iload_n 1, 1) := sdX2_close_0.2.2.1
theorem dX2_close_5 : decode cX2_close 5 = .ok (.invokestatic 62, 3) := sdX2_close_0.2.2.2.1
theorem dX2_close_8 : decode cX2_close 8 = .ok (.istore_n 3, 1) := sdX2_close_0.2.2.2.2.1
theorem dX2_close_9 : decode cX2_close 9 = .ok (.iload_n 3, 1) := sdX2_close_0.2.2.2.2.2.1
theorem dX2_close_10 : decode cX2_close 10 = .ok (.ifCond .ne 7, 3) := sdX2_close_0.2.2.2.2.2.2.1
theorem dX2_close_13 : decode cX2_close 13 = .ok (.iconst 0, 1) := sdX2_close_0.2.2.2.2.2.2.2.1
theorem sdX2_close_14 : dz_Seg cX2_close [(14, .goto 13, 3), (17, .aload_n 0, 1), (18, .getfield 30, 3), (21, .iload_n 1, 1), (22, .invokestatic 62, 3), (25, .iload_n 3, 1), (26, .idiv, 1), (27, .istore 4, 2)] := dz_sg _ 14 (by decide +kernel)
theorem dX2_close_14 : decode cX2_close 14 = .ok (.goto 13, 3) := sdX2_close_14.1
theorem dX2_close_17 : decode cX2_close 17 = .ok (.aload_n 0, 1) := sdX2_close_14.2.1
theorem dX2_close_18 : decode cX2_close 18 = .ok (.getfield 30, 3) := sdX2_close_14.2.2.1
theorem dX2_close_21 : decode cX2_close 21 = .ok (.iload_n 1, 1) := sdX2_close_14.2.2.2.1
theorem dX2_close_22 : decode cX2_close 22 = .ok (.invokestatic 62, 3) := sdX2_close_14.2.2.2.2.1
theorem dX2_close_25 : decode cX2_close 25 = .ok (.iload_n 3, 1) := sdX2_close_14.2.2.2.2.2.1
theorem dX2_close_26 : decode cX2_close 26 = .ok (.idiv, 1) := sdX2_close_14.2.2.2.2.2.2.1
theorem dX2_close_27 : decode cX2_close 27 = .ok (.istore 4, 2) := sdX2_close_14.2.2.2.2.2.2.2.1
theorem sdX2_close_29 : dz_Seg cX2_close [(29, .aload_n 0, 1), (30, .getfield 30, 3), (33, .iload_n 1, 1), (34, .iload 4, 2), (36, .invokestatic 96, 3), (39, .aload_n 0, 1), (40, .getfield 33, 3), (43, .iload_n 1, 1)] := dz_sg _ 29 (by decide +kernel)
theorem dX2_close_29 : decode cX2_close 29 = .ok (.aload_n 0, 1) := sdX2_close_29.1
theorem dX2_close_30 : decode cX2_close 30 = .ok (.getfield 30, 3) := sdX2_close_29.2.1
theorem dX2_close_33 : decode cX2_close 33 = .ok (.iload_n 1, 1) := sdX2_close_29.2.2.1
theorem dX2_close_34 : decode cX2_close 34 = .ok (.iload 4, 2) := sdX2_close_29.2.2.2.1
theorem dX2_close_36 : decode cX2_close 36 = .ok (.invokestatic 96, 3) := sdX2_close_29.2.2.2.2.1
theorem dX2_close_39 : decode cX2_close 39 = .ok (.aload_n 0, 1) := sdX2_close_29.2.2.2.2.2.1
theorem dX2_close_40 : decode cX2_close 40 = .ok (.getfield 33, 3) := sdX2_close_29.2.2.2.2.2.2.1
theorem dX2_close_43 : decode cX2_close 43 = .ok (.iload_n 1, 1) := sdX2_close_29.2.2.2.2.2.2.2.1
theorem sdX2_close_44 : dz_Seg cX2_close [(44, .iload_n 2, 1), (45, .iconst 2, 1), (46, .if_icmp .ne 13, 3), (49, .iconst 1, 1), (50, .iload 4, 2), (52, .iload 4, 2), (54, .imul, 1), (55, .iadd, 1)] := dz_sg _ 44 (by decide +kernel)
theorem dX2_close_44 : decode cX2_close 44 = .ok (.iload_n 2, 1) := sdX2_close_44.1
theorem dX2_close_45 : decode cX2_close 45 = .ok (.iconst 2, 1) := sdX2_close_44.2.1
theorem dX2_close_46 : decode cX2_close 46 = .ok (.if_icmp .ne 13, 3) := sdX2_close_44.2.2.1
theorem dX2_close_49 : decode cX2_close 49 = .ok (.iconst 1, 1) := sdX2_close_44.2.2.2.1
theorem dX2_close_50 : decode cX2_close 50 = .ok (.iload 4, 2) := sdX2_close_44.2.2.2.2.1
theorem dX2_close_52 : decode cX2_close 52 = .ok (.iload 4, 2) := sdX2_close_44.2.2.2.2.2.1
theorem dX2_close_54 : decode cX2_close 54 = .ok (.imul, 1) := sdX2_close_44.2.2.2.2.2.2.1
theorem dX2_close_55 : decode cX2_close 55 = .ok (.iadd, 1) := sdX2_close_44.2.2.2.2.2.2.2.1
theorem sdX2_close_56 : dz_Seg cX2_close [(56, .goto 16, 3), (59, .iload_n 2, 1), (60, .iconst 1, 1), (61, .if_icmp .ne 10, 3), (64, .iconst 1, 1), (65, .iload 4, 2), (67, .iadd, 1), (68, .goto 4, 3)] := dz_sg _ 56 (by decide +kernel)
theorem dX2_close_56 : decode cX2_close 56 = .ok (.goto 16, 3) := sdX2_close_56.1
theorem dX2_close_59 : decode cX2_close 59 = .ok (.iload_n 2, 1) := sdX2_close_56.2.1
theorem dX2_close_60 : decode cX2_close 60 = .ok (.iconst 1, 1) := sdX2_close_56.2.2.1
theorem dX2_close_61 : decode cX2_close 61 = .ok (.if_icmp .ne 10, 3) := sdX2_close_56.2.2.2.1
theorem dX2_close_64 : decode cX2_close 64 = .ok (.iconst 1, 1) := sdX2_close_56.2.2.2.2.1
theorem dX2_close_65 : decode cX2_close 65 = .ok (.iload 4, 2) := sdX2_close_56.2.2.2.2.2.1
theorem dX2_close_67 : decode cX2_close 67 = .ok (.iadd, 1) := sdX2_close_56.2.2.2.2.2.2.1
theorem dX2_close_68 : decode cX2_close 68 = .ok (.goto 4, 3) := sdX2_close_56.2.2.2.2.2.2.2.1
theorem sdX2_close_71 : dz_Seg cX2_close [(71, .iconst 1, 1), (72, .invokestatic 96, 3), (75, .return_, 1)] := dz_sg _ 71 (by decide +kernel)
theorem dX2_close_71 : decode cX2_close 71 = .ok (.iconst 1, 1) := sdX2_close_71.1
theorem dX2_close_72 : decode cX2_close 72 = .ok (.invokestatic 96, 3) := sdX2_close_71.2.1
theorem dX2_close_75 : decode cX2_close 75 = .ok (.return_, 1) := sdX2_close_71.2.2.1
theorem sdX2_wish_0 : dz_Seg cX2_wish [(0, .aload_n 0, 1), (1, .getfield 45, 3), (4, .iload_n 1, 1), (5, .iconst 3, 1), (6, .imul, 1), (7, .iload_n 2, 1), (8, .iadd, 1), (9, .invokestatic 62, 3)] := dz_sg _ 0 (by decide +kernel)
theorem dX2_wish_0 : decode cX2_wish 0 = .ok (.aload_n 0, 1) := sdX2_wish_0.1
theorem dX2_wish_1 : decode cX2_wish 1 = .ok (.getfield 45, 3) := sdX2_wish_0.2.1
theorem dX2_wish_4 : decode cX2_wish 4 = .ok (.iload_n 1, 1) := sdX2_wish_0.2.2.1
theorem dX2_wish_5 : decode cX2_wish 5 = .ok (.iconst 3, 1) := sdX2_wish_0.2.2.2.1
theorem dX2_wish_6 : decode cX2_wish 6 = .ok (.imul, 1) := sdX2_wish_0.2.2.2.2.1
theorem dX2_wish_7 : decode cX2_wish 7 = .ok (.iload_n 2, 1) := sdX2_wish_0.2.2.2.2.2.1
theorem dX2_wish_8 : decode cX2_wish 8 = .ok (.iadd, 1) := sdX2_wish_0.2.2.2.2.2.2.1
theorem dX2_wish_9 : decode cX2_wish 9 = .ok (.invokestatic 62, 3) := sdX2_wish_0.2.2.2.2.2.2.2.1
theorem sdX2_wish_12 : dz_Seg cX2_wish [(12, .ireturn, 1)] := dz_sg _ 12 (by decide +kernel)
theorem dX2_wish_12 : decode cX2_wish 12 = .ok (.ireturn, 1) := sdX2_wish_12.1
theorem sdX2_rankOf_0 : dz_Seg cX2_rankOf [(0, .iconst 0, 1), (1, .istore_n 3, 1), (2, .iload_n 3, 1), (3, .aload_n 0, 1), (4, .getfield 42, 3), (7, .iload_n 1, 1), (8, .invokestatic 62, 3), (11, .if_icmp .ge 21, 3)] := dz_sg _ 0 (by decide +kernel)
theorem dX2_rankOf_0 : decode cX2_rankOf 0 = .ok (.iconst 0, 1) := sdX2_rankOf_0.1
theorem dX2_rankOf_1 : decode cX2_rankOf 1 = .ok (.istore_n 3, 1) := sdX2_rankOf_0.2.1
theorem dX2_rankOf_2 : decode cX2_rankOf 2 = .ok (.iload_n 3, 1) := sdX2_rankOf_0.2.2.1
theorem dX2_rankOf_3 : decode cX2_rankOf 3 = .ok (.aload_n 0, 1) := sdX2_rankOf_0.2.2.2.1
theorem dX2_rankOf_4 : decode cX2_rankOf 4 = .ok (.getfield 42, 3) := sdX2_rankOf_0.2.2.2.2.1
theorem dX2_rankOf_7 : decode cX2_rankOf 7 = .ok (.iload_n 1, 1) := sdX2_rankOf_0.2.2.2.2.2.1
theorem dX2_rankOf_8 : decode cX2_rankOf 8 = .ok (.invokestatic 62, 3) := sdX2_rankOf_0.2.2.2.2.2.2.1
theorem dX2_rankOf_11 : decode cX2_rankOf 11 = .ok (.if_icmp .ge 21, 3) := sdX2_rankOf_0.2.2.2.2.2.2.2.1
theorem sdX2_rankOf_14 : dz_Seg cX2_rankOf [(14, .aload_n 0, 1), (15, .iload_n 1, 1), (16, .iload_n 3, 1), (17, .invokevirtual 115, 3), (20, .iload_n 2, 1), (21, .if_icmp .ne 5, 3), (24, .iload_n 3, 1), (25, .ireturn, 1)] := dz_sg _ 14 (by decide +kernel)
theorem dX2_rankOf_14 : decode cX2_rankOf 14 = .ok (.aload_n 0, 1) := sdX2_rankOf_14.1
theorem dX2_rankOf_15 : decode cX2_rankOf 15 = .ok (.iload_n 1, 1) := sdX2_rankOf_14.2.1
theorem dX2_rankOf_16 : decode cX2_rankOf 16 = .ok (.iload_n 3, 1) := sdX2_rankOf_14.2.2.1
theorem dX2_rankOf_17 : decode cX2_rankOf 17 = .ok (.invokevirtual 115, 3) := sdX2_rankOf_14.2.2.2.1
theorem dX2_rankOf_20 : decode cX2_rankOf 20 = .ok (.iload_n 2, 1) := sdX2_rankOf_14.2.2.2.2.1
theorem dX2_rankOf_21 : decode cX2_rankOf 21 = .ok (.if_icmp .ne 5, 3) := sdX2_rankOf_14.2.2.2.2.2.1
theorem dX2_rankOf_24 : decode cX2_rankOf 24 = .ok (.iload_n 3, 1) := sdX2_rankOf_14.2.2.2.2.2.2.1
theorem dX2_rankOf_25 : decode cX2_rankOf 25 = .ok (.ireturn, 1) := sdX2_rankOf_14.2.2.2.2.2.2.2.1
theorem sdX2_rankOf_26 : dz_Seg cX2_rankOf [(26, .iinc 3 1, 3), (29, .goto (-27), 3), (32, .iconst (-1), 1), (33, .ireturn, 1)] := dz_sg _ 26 (by decide +kernel)
theorem dX2_rankOf_26 : decode cX2_rankOf 26 = .ok (.iinc 3 1, 3) := sdX2_rankOf_26.1
theorem dX2_rankOf_29 : decode cX2_rankOf 29 = .ok (.goto (-27), 3) := sdX2_rankOf_26.2.1
theorem dX2_rankOf_32 : decode cX2_rankOf 32 = .ok (.iconst (-1), 1) := sdX2_rankOf_26.2.2.1
theorem dX2_rankOf_33 : decode cX2_rankOf 33 = .ok (.ireturn, 1) := sdX2_rankOf_26.2.2.2.1
theorem sdX2_fits_0 : dz_Seg cX2_fits [(0, .aload_n 0, 1), (1, .getfield 24, 3), (4, .iload_n 1, 1), (5, .invokestatic 62, 3), (8, .iload_n 2, 1), (9, .if_icmp .gt 19, 3), (12, .aload_n 0, 1), (13, .getfield 27, 3)] := dz_sg _ 0 (by decide +kernel)
theorem dX2_fits_0 : decode cX2_fits 0 = .ok (.aload_n 0, 1) := sdX2_fits_0.1
theorem dX2_fits_1 : decode cX2_fits 1 = .ok (.getfield 24, 3) := sdX2_fits_0.2.1
theorem dX2_fits_4 : decode cX2_fits 4 = .ok (.iload_n 1, 1) := sdX2_fits_0.2.2.1
theorem dX2_fits_5 : decode cX2_fits 5 = .ok (.invokestatic 62, 3) := sdX2_fits_0.2.2.2.1
theorem dX2_fits_8 : decode cX2_fits 8 = .ok (.iload_n 2, 1) := sdX2_fits_0.2.2.2.2.1
theorem dX2_fits_9 : decode cX2_fits 9 = .ok (.if_icmp .gt 19, 3) := sdX2_fits_0.2.2.2.2.2.1
theorem dX2_fits_12 : decode cX2_fits 12 = .ok (.aload_n 0, 1) := sdX2_fits_0.2.2.2.2.2.2.1
theorem dX2_fits_13 : decode cX2_fits 13 = .ok (.getfield 27, 3) := sdX2_fits_0.2.2.2.2.2.2.2.1
theorem sdX2_fits_16 : dz_Seg cX2_fits [(16, .iload_n 1, 1), (17, .invokestatic 62, 3), (20, .iload_n 3, 1), (21, .if_icmp .gt 7, 3), (24, .iconst 1, 1), (25, .goto 4, 3), (28, .iconst 0, 1), (29, .ireturn, 1)] := dz_sg _ 16 (by decide +kernel)
theorem dX2_fits_16 : decode cX2_fits 16 = .ok (.iload_n 1, 1) := sdX2_fits_16.1
theorem dX2_fits_17 : decode cX2_fits 17 = .ok (.invokestatic 62, 3) := sdX2_fits_16.2.1
theorem dX2_fits_20 : decode cX2_fits 20 = .ok (.iload_n 3, 1) := sdX2_fits_16.2.2.1
theorem dX2_fits_21 : decode cX2_fits 21 = .ok (.if_icmp .gt 7, 3) := sdX2_fits_16.2.2.2.1
theorem dX2_fits_24 : decode cX2_fits 24 = .ok (.iconst 1, 1) := sdX2_fits_16.2.2.2.2.1
theorem dX2_fits_25 : decode cX2_fits 25 = .ok (.goto 4, 3) := sdX2_fits_16.2.2.2.2.2.1
theorem dX2_fits_28 : decode cX2_fits 28 = .ok (.iconst 0, 1) := sdX2_fits_16.2.2.2.2.2.2.1
theorem dX2_fits_29 : decode cX2_fits 29 = .ok (.ireturn, 1) := sdX2_fits_16.2.2.2.2.2.2.2.1
theorem sdX2_firstApplicants_0 : dz_Seg cX2_firstApplicants [(0, .iconst 0, 1), (1, .istore_n 2, 1), (2, .iconst 0, 1), (3, .istore_n 3, 1), (4, .iload_n 3, 1), (5, .aload_n 0, 1), (6, .getfield 52, 3), (9, .if_icmp .ge 26, 3)] := dz_sg _ 0 (by decide +kernel)
theorem dX2_firstApplicants_0 : decode cX2_firstApplicants 0 = .ok (.iconst 0, 1) := sdX2_firstApplicants_0.1
theorem dX2_firstApplicants_1 : decode cX2_firstApplicants 1 = .ok (.istore_n 2, 1) := sdX2_firstApplicants_0.2.1
theorem dX2_firstApplicants_2 : decode cX2_firstApplicants 2 = .ok (.iconst 0, 1) := sdX2_firstApplicants_0.2.2.1
theorem dX2_firstApplicants_3 : decode cX2_firstApplicants 3 = .ok (.istore_n 3, 1) := sdX2_firstApplicants_0.2.2.2.1
theorem dX2_firstApplicants_4 : decode cX2_firstApplicants 4 = .ok (.iload_n 3, 1) := sdX2_firstApplicants_0.2.2.2.2.1
theorem dX2_firstApplicants_5 : decode cX2_firstApplicants 5 = .ok (.aload_n 0, 1) := sdX2_firstApplicants_0.2.2.2.2.2.1
theorem dX2_firstApplicants_6 : decode cX2_firstApplicants 6 = .ok (.getfield 52, 3) := sdX2_firstApplicants_0.2.2.2.2.2.2.1
theorem dX2_firstApplicants_9 : decode cX2_firstApplicants 9 = .ok (.if_icmp .ge 26, 3) := sdX2_firstApplicants_0.2.2.2.2.2.2.2.1
theorem sdX2_firstApplicants_12 : dz_Seg cX2_firstApplicants [(12, .iload_n 2, 1), (13, .aload_n 0, 1), (14, .iload_n 3, 1), (15, .iload_n 1, 1), (16, .invokevirtual 119, 3), (19, .ifCond .ne 7, 3), (22, .iconst 1, 1), (23, .goto 4, 3)] := dz_sg _ 12 (by decide +kernel)
theorem dX2_firstApplicants_12 : decode cX2_firstApplicants 12 = .ok (.iload_n 2, 1) := sdX2_firstApplicants_12.1
theorem dX2_firstApplicants_13 : decode cX2_firstApplicants 13 = .ok (.aload_n 0, 1) := sdX2_firstApplicants_12.2.1
theorem dX2_firstApplicants_14 : decode cX2_firstApplicants 14 = .ok (.iload_n 3, 1) := sdX2_firstApplicants_12.2.2.1
theorem dX2_firstApplicants_15 : decode cX2_firstApplicants 15 = .ok (.iload_n 1, 1) := sdX2_firstApplicants_12.2.2.2.1
theorem dX2_firstApplicants_16 : decode cX2_firstApplicants 16 = .ok (.invokevirtual 119, 3) := sdX2_firstApplicants_12.2.2.2.2.1
theorem dX2_firstApplicants_19 : decode cX2_firstApplicants 19 = .ok (.ifCond .ne 7, 3) := sdX2_firstApplicants_12.2.2.2.2.2.1
theorem dX2_firstApplicants_22 : decode cX2_firstApplicants 22 = .ok (.iconst 1, 1) := sdX2_firstApplicants_12.2.2.2.2.2.2.1
theorem dX2_firstApplicants_23 : decode cX2_firstApplicants 23 = .ok (.goto 4, 3) := sdX2_firstApplicants_12.2.2.2.2.2.2.2.1
theorem sdX2_firstApplicants_26 : dz_Seg cX2_firstApplicants [(26, .iconst 0, 1), (27, .iadd, 1), (28, .istore_n 2, 1), (29, .iinc 3 1, 3), (32, .goto (-28), 3), (35, .iload_n 2, 1), (36, .ireturn, 1)] := dz_sg _ 26 (by decide +kernel)
theorem dX2_firstApplicants_26 : decode cX2_firstApplicants 26 = .ok (.iconst 0, 1) := sdX2_firstApplicants_26.1
theorem dX2_firstApplicants_27 : decode cX2_firstApplicants 27 = .ok (.iadd, 1) := sdX2_firstApplicants_26.2.1
theorem dX2_firstApplicants_28 : decode cX2_firstApplicants 28 = .ok (.istore_n 2, 1) := sdX2_firstApplicants_26.2.2.1
theorem dX2_firstApplicants_29 : decode cX2_firstApplicants 29 = .ok (.iinc 3 1, 3) := sdX2_firstApplicants_26.2.2.2.1
theorem dX2_firstApplicants_32 : decode cX2_firstApplicants 32 = .ok (.goto (-28), 3) := sdX2_firstApplicants_26.2.2.2.2.1
theorem dX2_firstApplicants_35 : decode cX2_firstApplicants 35 = .ok (.iload_n 2, 1) := sdX2_firstApplicants_26.2.2.2.2.2.1
theorem dX2_firstApplicants_36 : decode cX2_firstApplicants 36 = .ok (.ireturn, 1) := sdX2_firstApplicants_26.2.2.2.2.2.2.1
theorem sdX2_firstHunters_0 : dz_Seg cX2_firstHunters [(0, .iconst 0, 1), (1, .istore_n 2, 1), (2, .iconst 0, 1), (3, .istore_n 3, 1), (4, .iload_n 3, 1), (5, .aload_n 0, 1), (6, .getfield 52, 3), (9, .if_icmp .ge 33, 3)] := dz_sg _ 0 (by decide +kernel)
theorem dX2_firstHunters_0 : decode cX2_firstHunters 0 = .ok (.iconst 0, 1) := sdX2_firstHunters_0.1
theorem dX2_firstHunters_1 : decode cX2_firstHunters 1 = .ok (.istore_n 2, 1) := sdX2_firstHunters_0.2.1
theorem dX2_firstHunters_2 : decode cX2_firstHunters 2 = .ok (.iconst 0, 1) := sdX2_firstHunters_0.2.2.1
theorem dX2_firstHunters_3 : decode cX2_firstHunters 3 = .ok (.istore_n 3, 1) := sdX2_firstHunters_0.2.2.2.1
theorem dX2_firstHunters_4 : decode cX2_firstHunters 4 = .ok (.iload_n 3, 1) := sdX2_firstHunters_0.2.2.2.2.1
theorem dX2_firstHunters_5 : decode cX2_firstHunters 5 = .ok (.aload_n 0, 1) := sdX2_firstHunters_0.2.2.2.2.2.1
theorem dX2_firstHunters_6 : decode cX2_firstHunters 6 = .ok (.getfield 52, 3) := sdX2_firstHunters_0.2.2.2.2.2.2.1
theorem dX2_firstHunters_9 : decode cX2_firstHunters 9 = .ok (.if_icmp .ge 33, 3) := sdX2_firstHunters_0.2.2.2.2.2.2.2.1
theorem sdX2_firstHunters_12 : dz_Seg cX2_firstHunters [(12, .iload_n 2, 1), (13, .aload_n 0, 1), (14, .iload_n 3, 1), (15, .iload_n 1, 1), (16, .invokevirtual 119, 3), (19, .ifCond .ne 14, 3), (22, .aload_n 0, 1), (23, .getfield 24, 3)] := dz_sg _ 12 (by decide +kernel)
theorem dX2_firstHunters_12 : decode cX2_firstHunters 12 = .ok (.iload_n 2, 1) := sdX2_firstHunters_12.1
theorem dX2_firstHunters_13 : decode cX2_firstHunters 13 = .ok (.aload_n 0, 1) := sdX2_firstHunters_12.2.1
theorem dX2_firstHunters_14 : decode cX2_firstHunters 14 = .ok (.iload_n 3, 1) := sdX2_firstHunters_12.2.2.1
theorem dX2_firstHunters_15 : decode cX2_firstHunters 15 = .ok (.iload_n 1, 1) := sdX2_firstHunters_12.2.2.2.1
theorem dX2_firstHunters_16 : decode cX2_firstHunters 16 = .ok (.invokevirtual 119, 3) := sdX2_firstHunters_12.2.2.2.2.1
theorem dX2_firstHunters_19 : decode cX2_firstHunters 19 = .ok (.ifCond .ne 14, 3) := sdX2_firstHunters_12.2.2.2.2.2.1
theorem dX2_firstHunters_22 : decode cX2_firstHunters 22 = .ok (.aload_n 0, 1) := sdX2_firstHunters_12.2.2.2.2.2.2.1
theorem dX2_firstHunters_23 : decode cX2_firstHunters 23 = .ok (.getfield 24, 3) := sdX2_firstHunters_12.2.2.2.2.2.2.2.1
theorem sdX2_firstHunters_26 : dz_Seg cX2_firstHunters [(26, .iload_n 3, 1), (27, .invokestatic 62, 3), (30, .goto 4, 3), (33, .iconst 0, 1), (34, .iadd, 1), (35, .istore_n 2, 1), (36, .iinc 3 1, 3), (39, .goto (-35), 3)] := dz_sg _ 26 (by decide +kernel)
theorem dX2_firstHunters_26 : decode cX2_firstHunters 26 = .ok (.iload_n 3, 1) := sdX2_firstHunters_26.1
theorem dX2_firstHunters_27 : decode cX2_firstHunters 27 = .ok (.invokestatic 62, 3) := sdX2_firstHunters_26.2.1
theorem dX2_firstHunters_30 : decode cX2_firstHunters 30 = .ok (.goto 4, 3) := sdX2_firstHunters_26.2.2.1
theorem dX2_firstHunters_33 : decode cX2_firstHunters 33 = .ok (.iconst 0, 1) := sdX2_firstHunters_26.2.2.2.1
theorem dX2_firstHunters_34 : decode cX2_firstHunters 34 = .ok (.iadd, 1) := sdX2_firstHunters_26.2.2.2.2.1
theorem dX2_firstHunters_35 : decode cX2_firstHunters 35 = .ok (.istore_n 2, 1) := sdX2_firstHunters_26.2.2.2.2.2.1
theorem dX2_firstHunters_36 : decode cX2_firstHunters 36 = .ok (.iinc 3 1, 3) := sdX2_firstHunters_26.2.2.2.2.2.2.1
theorem dX2_firstHunters_39 : decode cX2_firstHunters 39 = .ok (.goto (-35), 3) := sdX2_firstHunters_26.2.2.2.2.2.2.2.1
theorem sdX2_firstHunters_42 : dz_Seg cX2_firstHunters [(42, .iload_n 2, 1), (43, .ireturn, 1)] := dz_sg _ 42 (by decide +kernel)
theorem dX2_firstHunters_42 : decode cX2_firstHunters 42 = .ok (.iload_n 2, 1) := sdX2_firstHunters_42.1
theorem dX2_firstHunters_43 : decode cX2_firstHunters 43 = .ok (.ireturn, 1) := sdX2_firstHunters_42.2.1
theorem sdX2_askers_0 : dz_Seg cX2_askers [(0, .iconst 0, 1), (1, .istore_n 2, 1), (2, .iconst 0, 1), (3, .istore_n 3, 1), (4, .iload_n 3, 1), (5, .aload_n 0, 1), (6, .getfield 52, 3), (9, .if_icmp .ge 27, 3)] := dz_sg _ 0 (by decide +kernel)
theorem dX2_askers_0 : decode cX2_askers 0 = .ok (.iconst 0, 1) := sdX2_askers_0.1
theorem dX2_askers_1 : decode cX2_askers 1 = .ok (.istore_n 2, 1) := sdX2_askers_0.2.1
theorem dX2_askers_2 : decode cX2_askers 2 = .ok (.iconst 0, 1) := sdX2_askers_0.2.2.1
theorem dX2_askers_3 : decode cX2_askers 3 = .ok (.istore_n 3, 1) := sdX2_askers_0.2.2.2.1
theorem dX2_askers_4 : decode cX2_askers 4 = .ok (.iload_n 3, 1) := sdX2_askers_0.2.2.2.2.1
theorem dX2_askers_5 : decode cX2_askers 5 = .ok (.aload_n 0, 1) := sdX2_askers_0.2.2.2.2.2.1
theorem dX2_askers_6 : decode cX2_askers 6 = .ok (.getfield 52, 3) := sdX2_askers_0.2.2.2.2.2.2.1
theorem dX2_askers_9 : decode cX2_askers 9 = .ok (.if_icmp .ge 27, 3) := sdX2_askers_0.2.2.2.2.2.2.2.1
theorem sdX2_askers_12 : dz_Seg cX2_askers [(12, .iload_n 2, 1), (13, .aload_n 0, 1), (14, .iload_n 3, 1), (15, .iload_n 1, 1), (16, .invokevirtual 119, 3), (19, .iconst (-1), 1), (20, .if_icmp .ne 7, 3), (23, .iconst 0, 1)] := dz_sg _ 12 (by decide +kernel)
theorem dX2_askers_12 : decode cX2_askers 12 = .ok (.iload_n 2, 1) := sdX2_askers_12.1
theorem dX2_askers_13 : decode cX2_askers 13 = .ok (.aload_n 0, 1) := sdX2_askers_12.2.1
theorem dX2_askers_14 : decode cX2_askers 14 = .ok (.iload_n 3, 1) := sdX2_askers_12.2.2.1
theorem dX2_askers_15 : decode cX2_askers 15 = .ok (.iload_n 1, 1) := sdX2_askers_12.2.2.2.1
theorem dX2_askers_16 : decode cX2_askers 16 = .ok (.invokevirtual 119, 3) := sdX2_askers_12.2.2.2.2.1
theorem dX2_askers_19 : decode cX2_askers 19 = .ok (.iconst (-1), 1) := sdX2_askers_12.2.2.2.2.2.1
theorem dX2_askers_20 : decode cX2_askers 20 = .ok (.if_icmp .ne 7, 3) := sdX2_askers_12.2.2.2.2.2.2.1
theorem dX2_askers_23 : decode cX2_askers 23 = .ok (.iconst 0, 1) := sdX2_askers_12.2.2.2.2.2.2.2.1
theorem sdX2_askers_24 : dz_Seg cX2_askers [(24, .goto 4, 3), (27, .iconst 1, 1), (28, .iadd, 1), (29, .istore_n 2, 1), (30, .iinc 3 1, 3), (33, .goto (-29), 3), (36, .iload_n 2, 1), (37, .ireturn, 1)] := dz_sg _ 24 (by decide +kernel)
theorem dX2_askers_24 : decode cX2_askers 24 = .ok (.goto 4, 3) := sdX2_askers_24.1
theorem dX2_askers_27 : decode cX2_askers 27 = .ok (.iconst 1, 1) := sdX2_askers_24.2.1
theorem dX2_askers_28 : decode cX2_askers 28 = .ok (.iadd, 1) := sdX2_askers_24.2.2.1
theorem dX2_askers_29 : decode cX2_askers 29 = .ok (.istore_n 2, 1) := sdX2_askers_24.2.2.2.1
theorem dX2_askers_30 : decode cX2_askers 30 = .ok (.iinc 3 1, 3) := sdX2_askers_24.2.2.2.2.1
theorem dX2_askers_33 : decode cX2_askers 33 = .ok (.goto (-29), 3) := sdX2_askers_24.2.2.2.2.2.1
theorem dX2_askers_36 : decode cX2_askers 36 = .ok (.iload_n 2, 1) := sdX2_askers_24.2.2.2.2.2.2.1
theorem dX2_askers_37 : decode cX2_askers 37 = .ok (.ireturn, 1) := sdX2_askers_24.2.2.2.2.2.2.2.1
theorem sdX3_init_0 : dz_Seg cX3_init [(0, .aload_n 0, 1), (1, .invokespecial 3, 3), (4, .aload_n 0, 1), (5, .new 9, 3), (8, .dup, 1), (9, .invokespecial 11, 3), (12, .putfield 12, 3), (15, .aload_n 0, 1)] := dz_sg _ 0 (by decide +kernel)
theorem dX3_init_0 : decode cX3_init 0 = .ok (.aload_n 0, 1) := sdX3_init_0.1
theorem dX3_init_1 : decode cX3_init 1 = .ok (.invokespecial 3, 3) := sdX3_init_0.2.1
theorem dX3_init_4 : decode cX3_init 4 = .ok (.aload_n 0, 1) := sdX3_init_0.2.2.1
theorem dX3_init_5 : decode cX3_init 5 = .ok (.new 9, 3) := sdX3_init_0.2.2.2.1
theorem dX3_init_8 : decode cX3_init 8 = .ok (.dup, 1) := sdX3_init_0.2.2.2.2.1
theorem dX3_init_9 : decode cX3_init 9 = .ok (.invokespecial 11, 3) := sdX3_init_0.2.2.2.2.2.1
theorem dX3_init_12 : decode cX3_init 12 = .ok (.putfield 12, 3) := sdX3_init_0.2.2.2.2.2.2.1
theorem dX3_init_15 : decode cX3_init 15 = .ok (.aload_n 0, 1) := sdX3_init_0.2.2.2.2.2.2.2.1
theorem sdX3_init_16 : dz_Seg cX3_init [(16, .iconst (-1), 1), (17, .putfield 18, 3), (20, .aload_n 0, 1), (21, .iconst (-1), 1), (22, .putfield 22, 3), (25, .aload_n 0, 1), (26, .sipush 700, 3), (29, .newarray .int, 2)] := dz_sg _ 16 (by decide +kernel)
theorem dX3_init_16 : decode cX3_init 16 = .ok (.iconst (-1), 1) := sdX3_init_16.1
theorem dX3_init_17 : decode cX3_init 17 = .ok (.putfield 18, 3) := sdX3_init_16.2.1
theorem dX3_init_20 : decode cX3_init 20 = .ok (.aload_n 0, 1) := sdX3_init_16.2.2.1
theorem dX3_init_21 : decode cX3_init 21 = .ok (.iconst (-1), 1) := sdX3_init_16.2.2.2.1
theorem dX3_init_22 : decode cX3_init 22 = .ok (.putfield 22, 3) := sdX3_init_16.2.2.2.2.1
theorem dX3_init_25 : decode cX3_init 25 = .ok (.aload_n 0, 1) := sdX3_init_16.2.2.2.2.2.1
theorem dX3_init_26 : decode cX3_init 26 = .ok (.sipush 700, 3) := sdX3_init_16.2.2.2.2.2.2.1
theorem dX3_init_29 : decode cX3_init 29 = .ok (.newarray .int, 2) := sdX3_init_16.2.2.2.2.2.2.2.1
theorem sdX3_init_31 : dz_Seg cX3_init [(31, .putfield 25, 3), (34, .aload_n 0, 1), (35, .iconst 5, 1), (36, .newarray .long, 2), (38, .putfield 29, 3), (41, .aload_n 0, 1), (42, .bipush 10, 2), (44, .newarray .long, 2)] := dz_sg _ 31 (by decide +kernel)
theorem dX3_init_31 : decode cX3_init 31 = .ok (.putfield 25, 3) := sdX3_init_31.1
theorem dX3_init_34 : decode cX3_init 34 = .ok (.aload_n 0, 1) := sdX3_init_31.2.1
theorem dX3_init_35 : decode cX3_init 35 = .ok (.iconst 5, 1) := sdX3_init_31.2.2.1
theorem dX3_init_36 : decode cX3_init 36 = .ok (.newarray .long, 2) := sdX3_init_31.2.2.2.1
theorem dX3_init_38 : decode cX3_init 38 = .ok (.putfield 29, 3) := sdX3_init_31.2.2.2.2.1
theorem dX3_init_41 : decode cX3_init 41 = .ok (.aload_n 0, 1) := sdX3_init_31.2.2.2.2.2.1
theorem dX3_init_42 : decode cX3_init 42 = .ok (.bipush 10, 2) := sdX3_init_31.2.2.2.2.2.2.1
theorem dX3_init_44 : decode cX3_init 44 = .ok (.newarray .long, 2) := sdX3_init_31.2.2.2.2.2.2.2.1
theorem sdX3_init_46 : dz_Seg cX3_init [(46, .putfield 33, 3), (49, .aload_n 0, 1), (50, .iconst 4, 1), (51, .newarray .long, 2), (53, .putfield 36, 3), (56, .aload_n 0, 1), (57, .iconst 3, 1), (58, .newarray .int, 2)] := dz_sg _ 46 (by decide +kernel)
theorem dX3_init_46 : decode cX3_init 46 = .ok (.putfield 33, 3) := sdX3_init_46.1
theorem dX3_init_49 : decode cX3_init 49 = .ok (.aload_n 0, 1) := sdX3_init_46.2.1
theorem dX3_init_50 : decode cX3_init 50 = .ok (.iconst 4, 1) := sdX3_init_46.2.2.1
theorem dX3_init_51 : decode cX3_init 51 = .ok (.newarray .long, 2) := sdX3_init_46.2.2.2.1
theorem dX3_init_53 : decode cX3_init 53 = .ok (.putfield 36, 3) := sdX3_init_46.2.2.2.2.1
theorem dX3_init_56 : decode cX3_init 56 = .ok (.aload_n 0, 1) := sdX3_init_46.2.2.2.2.2.1
theorem dX3_init_57 : decode cX3_init 57 = .ok (.iconst 3, 1) := sdX3_init_46.2.2.2.2.2.2.1
theorem dX3_init_58 : decode cX3_init 58 = .ok (.newarray .int, 2) := sdX3_init_46.2.2.2.2.2.2.2.1
theorem sdX3_init_60 : dz_Seg cX3_init [(60, .putfield 39, 3), (63, .return_, 1)] := dz_sg _ 60 (by decide +kernel)
theorem dX3_init_60 : decode cX3_init 60 = .ok (.putfield 39, 3) := sdX3_init_60.1
theorem dX3_init_63 : decode cX3_init 63 = .ok (.return_, 1) := sdX3_init_60.2.1
theorem sdX3_read_0 : dz_Seg cX3_read [(0, .aload_n 1, 1), (1, .aload_n 0, 1), (2, .getfield 25, 3), (5, .invokestatic 42, 3), (8, .aload_n 0, 1), (9, .iload_n 2, 1), (10, .sipush 700, 3), (13, .invokestatic 46, 3)] := dz_sg _ 0 (by decide +kernel)
theorem dX3_read_0 : decode cX3_read 0 = .ok (.aload_n 1, 1) := sdX3_read_0.1
theorem dX3_read_1 : decode cX3_read 1 = .ok (.aload_n 0, 1) := sdX3_read_0.2.1
theorem dX3_read_2 : decode cX3_read 2 = .ok (.getfield 25, 3) := sdX3_read_0.2.2.1
theorem dX3_read_5 : decode cX3_read 5 = .ok (.invokestatic 42, 3) := sdX3_read_0.2.2.2.1
theorem dX3_read_8 : decode cX3_read 8 = .ok (.aload_n 0, 1) := sdX3_read_0.2.2.2.2.1
theorem dX3_read_9 : decode cX3_read 9 = .ok (.iload_n 2, 1) := sdX3_read_0.2.2.2.2.2.1
theorem dX3_read_10 : decode cX3_read 10 = .ok (.sipush 700, 3) := sdX3_read_0.2.2.2.2.2.2.1
theorem dX3_read_13 : decode cX3_read 13 = .ok (.invokestatic 46, 3) := sdX3_read_0.2.2.2.2.2.2.2.1
theorem sdX3_read_16 : dz_Seg cX3_read [(16, .putfield 52, 3), (19, .aload_n 0, 1), (20, .iconst 0, 1), (21, .putfield 55, 3), (24, .aload_n 0, 1), (25, .iconst 0, 1), (26, .putfield 58, 3), (29, .aload_n 0, 1)] := dz_sg _ 16 (by decide +kernel)
theorem dX3_read_16 : decode cX3_read 16 = .ok (.putfield 52, 3) := sdX3_read_16.1
theorem dX3_read_19 : decode cX3_read 19 = .ok (.aload_n 0, 1) := sdX3_read_16.2.1
theorem dX3_read_20 : decode cX3_read 20 = .ok (.iconst 0, 1) := sdX3_read_16.2.2.1
theorem dX3_read_21 : decode cX3_read 21 = .ok (.putfield 55, 3) := sdX3_read_16.2.2.2.1
theorem dX3_read_24 : decode cX3_read 24 = .ok (.aload_n 0, 1) := sdX3_read_16.2.2.2.2.1
theorem dX3_read_25 : decode cX3_read 25 = .ok (.iconst 0, 1) := sdX3_read_16.2.2.2.2.2.1
theorem dX3_read_26 : decode cX3_read 26 = .ok (.putfield 58, 3) := sdX3_read_16.2.2.2.2.2.2.1
theorem dX3_read_29 : decode cX3_read 29 = .ok (.aload_n 0, 1) := sdX3_read_16.2.2.2.2.2.2.2.1
theorem sdX3_read_30 : dz_Seg cX3_read [(30, .iconst 0, 1), (31, .putfield 62, 3), (34, .aload_n 0, 1), (35, .iconst 0, 1), (36, .putfield 65, 3), (39, .aload_n 0, 1), (40, .getfield 12, 3), (43, .invokevirtual 68, 3)] := dz_sg _ 30 (by decide +kernel)
theorem dX3_read_30 : decode cX3_read 30 = .ok (.iconst 0, 1) := sdX3_read_30.1
theorem dX3_read_31 : decode cX3_read 31 = .ok (.putfield 62, 3) := sdX3_read_30.2.1
theorem dX3_read_34 : decode cX3_read 34 = .ok (.aload_n 0, 1) := sdX3_read_30.2.2.1
theorem dX3_read_35 : decode cX3_read 35 = .ok (.iconst 0, 1) := sdX3_read_30.2.2.2.1
theorem dX3_read_36 : decode cX3_read 36 = .ok (.putfield 65, 3) := sdX3_read_30.2.2.2.2.1
theorem dX3_read_39 : decode cX3_read 39 = .ok (.aload_n 0, 1) := sdX3_read_30.2.2.2.2.2.1
theorem dX3_read_40 : decode cX3_read 40 = .ok (.getfield 12, 3) := sdX3_read_30.2.2.2.2.2.2.1
theorem dX3_read_43 : decode cX3_read 43 = .ok (.invokevirtual 68, 3) := sdX3_read_30.2.2.2.2.2.2.2.1
theorem sdX3_read_46 : dz_Seg cX3_read [(46, .aload_n 0, 1), (47, .iconst 0, 1), (48, .putfield 18, 3), (51, .aload_n 0, 1), (52, .iconst (-1), 1), (53, .putfield 22, 3), (56, .aload_n 0, 1), (57, .invokevirtual 71, 3)] := dz_sg _ 46 (by decide +kernel)
theorem dX3_read_46 : decode cX3_read 46 = .ok (.aload_n 0, 1) := sdX3_read_46.1
theorem dX3_read_47 : decode cX3_read 47 = .ok (.iconst 0, 1) := sdX3_read_46.2.1
theorem dX3_read_48 : decode cX3_read 48 = .ok (.putfield 18, 3) := sdX3_read_46.2.2.1
theorem dX3_read_51 : decode cX3_read 51 = .ok (.aload_n 0, 1) := sdX3_read_46.2.2.2.1
theorem dX3_read_52 : decode cX3_read 52 = .ok (.iconst (-1), 1) := sdX3_read_46.2.2.2.2.1
theorem dX3_read_53 : decode cX3_read 53 = .ok (.putfield 22, 3) := sdX3_read_46.2.2.2.2.2.1
theorem dX3_read_56 : decode cX3_read 56 = .ok (.aload_n 0, 1) := sdX3_read_46.2.2.2.2.2.2.1
theorem dX3_read_57 : decode cX3_read 57 = .ok (.invokevirtual 71, 3) := sdX3_read_46.2.2.2.2.2.2.2.1
theorem sdX3_read_60 : dz_Seg cX3_read [(60, .iconst 0, 1), (61, .istore_n 3, 1), (62, .iload_n 3, 1), (63, .sipush 700, 3), (66, .if_icmp .ge 25, 3), (69, .aload_n 0, 1), (70, .getfield 74, 3), (73, .ifCond .eq 18, 3)] := dz_sg _ 60 (by decide +kernel)
theorem dX3_read_60 : decode cX3_read 60 = .ok (.iconst 0, 1) := sdX3_read_60.1
theorem dX3_read_61 : decode cX3_read 61 = .ok (.istore_n 3, 1) := sdX3_read_60.2.1
theorem dX3_read_62 : decode cX3_read 62 = .ok (.iload_n 3, 1) := sdX3_read_60.2.2.1
theorem dX3_read_63 : decode cX3_read 63 = .ok (.sipush 700, 3) := sdX3_read_60.2.2.2.1
theorem dX3_read_66 : decode cX3_read 66 = .ok (.if_icmp .ge 25, 3) := sdX3_read_60.2.2.2.2.1
theorem dX3_read_69 : decode cX3_read 69 = .ok (.aload_n 0, 1) := sdX3_read_60.2.2.2.2.2.1
theorem dX3_read_70 : decode cX3_read 70 = .ok (.getfield 74, 3) := sdX3_read_60.2.2.2.2.2.2.1
theorem dX3_read_73 : decode cX3_read 73 = .ok (.ifCond .eq 18, 3) := sdX3_read_60.2.2.2.2.2.2.2.1
theorem sdX3_read_76 : dz_Seg cX3_read [(76, .aload_n 0, 1), (77, .invokevirtual 77, 3), (80, .ifCond .ne 5, 3), (83, .iconst 0, 1), (84, .ireturn, 1), (85, .iinc 3 1, 3), (88, .goto (-26), 3), (91, .iconst 1, 1)] := dz_sg _ 76 (by decide +kernel)
theorem dX3_read_76 : decode cX3_read 76 = .ok (.aload_n 0, 1) := sdX3_read_76.1
theorem dX3_read_77 : decode cX3_read 77 = .ok (.invokevirtual 77, 3) := sdX3_read_76.2.1
theorem dX3_read_80 : decode cX3_read 80 = .ok (.ifCond .ne 5, 3) := sdX3_read_76.2.2.1
theorem dX3_read_83 : decode cX3_read 83 = .ok (.iconst 0, 1) := sdX3_read_76.2.2.2.1
theorem dX3_read_84 : decode cX3_read 84 = .ok (.ireturn, 1) := sdX3_read_76.2.2.2.2.1
theorem dX3_read_85 : decode cX3_read 85 = .ok (.iinc 3 1, 3) := sdX3_read_76.2.2.2.2.2.1
theorem dX3_read_88 : decode cX3_read 88 = .ok (.goto (-26), 3) := sdX3_read_76.2.2.2.2.2.2.1
theorem dX3_read_91 : decode cX3_read 91 = .ok (.iconst 1, 1) := sdX3_read_76.2.2.2.2.2.2.2.1
theorem sdX3_read_92 : dz_Seg cX3_read [(92, .ireturn, 1)] := dz_sg _ 92 (by decide +kernel)
theorem dX3_read_92 : decode cX3_read 92 = .ok (.ireturn, 1) := sdX3_read_92.1
theorem sdX3_step_0 : dz_Seg cX3_step [(0, .aload_n 0, 1), (1, .getfield 55, 3), (4, .aload_n 0, 1), (5, .getfield 52, 3), (8, .if_icmp .ge 33, 3), (11, .aload_n 0, 1), (12, .getfield 25, 3), (15, .aload_n 0, 1)] := dz_sg _ 0 (by decide +kernel)
theorem dX3_step_0 : decode cX3_step 0 = .ok (.aload_n 0, 1) := sdX3_step_0.1
theorem dX3_step_1 : decode cX3_step 1 = .ok (.getfield 55, 3) := sdX3_step_0.2.1
theorem dX3_step_4 : decode cX3_step 4 = .ok (.aload_n 0, 1) := sdX3_step_0.2.2.1
theorem dX3_step_5 : decode cX3_step 5 = .ok (.getfield 52, 3) := sdX3_step_0.2.2.2.1
theorem dX3_step_8 : decode cX3_step 8 = .ok (.if_icmp .ge 33, 3) := sdX3_step_0.2.2.2.2.1
theorem dX3_step_11 : decode cX3_step 11 = .ok (.aload_n 0, 1) := sdX3_step_0.2.2.2.2.2.1
theorem dX3_step_12 : decode cX3_step 12 = .ok (.getfield 25, 3) := sdX3_step_0.2.2.2.2.2.2.1
theorem dX3_step_15 : decode cX3_step 15 = .ok (.aload_n 0, 1) := sdX3_step_0.2.2.2.2.2.2.2.1
theorem sdX3_step_16 : dz_Seg cX3_step [(16, .getfield 55, 3), (19, .invokestatic 81, 3), (22, .invokestatic 85, 3), (25, .ifCond .eq 16, 3), (28, .aload_n 0, 1), (29, .dup, 1), (30, .getfield 55, 3), (33, .iconst 1, 1)] := dz_sg _ 16 (by decide +kernel)
theorem dX3_step_16 : decode cX3_step 16 = .ok (.getfield 55, 3) := sdX3_step_16.1
theorem dX3_step_19 : decode cX3_step 19 = .ok (.invokestatic 81, 3) := sdX3_step_16.2.1
theorem dX3_step_22 : decode cX3_step 22 = .ok (.invokestatic 85, 3) := sdX3_step_16.2.2.1
theorem dX3_step_25 : decode cX3_step 25 = .ok (.ifCond .eq 16, 3) := sdX3_step_16.2.2.2.1
theorem dX3_step_28 : decode cX3_step 28 = .ok (.aload_n 0, 1) := sdX3_step_16.2.2.2.2.1
theorem dX3_step_29 : decode cX3_step 29 = .ok (.dup, 1) := sdX3_step_16.2.2.2.2.2.1
theorem dX3_step_30 : decode cX3_step 30 = .ok (.getfield 55, 3) := sdX3_step_16.2.2.2.2.2.2.1
theorem dX3_step_33 : decode cX3_step 33 = .ok (.iconst 1, 1) := sdX3_step_16.2.2.2.2.2.2.2.1
theorem sdX3_step_34 : dz_Seg cX3_step [(34, .iadd, 1), (35, .putfield 55, 3), (38, .goto (-38), 3), (41, .aload_n 0, 1), (42, .aload_n 0, 1), (43, .getfield 55, 3), (46, .putfield 89, 3), (49, .aload_n 0, 1)] := dz_sg _ 34 (by decide +kernel)
theorem dX3_step_34 : decode cX3_step 34 = .ok (.iadd, 1) := sdX3_step_34.1
theorem dX3_step_35 : decode cX3_step 35 = .ok (.putfield 55, 3) := sdX3_step_34.2.1
theorem dX3_step_38 : decode cX3_step 38 = .ok (.goto (-38), 3) := sdX3_step_34.2.2.1
theorem dX3_step_41 : decode cX3_step 41 = .ok (.aload_n 0, 1) := sdX3_step_34.2.2.2.1
theorem dX3_step_42 : decode cX3_step 42 = .ok (.aload_n 0, 1) := sdX3_step_34.2.2.2.2.1
theorem dX3_step_43 : decode cX3_step 43 = .ok (.getfield 55, 3) := sdX3_step_34.2.2.2.2.2.1
theorem dX3_step_46 : decode cX3_step 46 = .ok (.putfield 89, 3) := sdX3_step_34.2.2.2.2.2.2.1
theorem dX3_step_49 : decode cX3_step 49 = .ok (.aload_n 0, 1) := sdX3_step_34.2.2.2.2.2.2.2.1
theorem sdX3_step_50 : dz_Seg cX3_step [(50, .getfield 25, 3), (53, .aload_n 0, 1), (54, .getfield 55, 3), (57, .invokestatic 81, 3), (60, .istore_n 1, 1), (61, .aload_n 0, 1), (62, .getfield 55, 3), (65, .aload_n 0, 1)] := dz_sg _ 50 (by decide +kernel)
theorem dX3_step_50 : decode cX3_step 50 = .ok (.getfield 25, 3) := sdX3_step_50.1
theorem dX3_step_53 : decode cX3_step 53 = .ok (.aload_n 0, 1) := sdX3_step_50.2.1
theorem dX3_step_54 : decode cX3_step 54 = .ok (.getfield 55, 3) := sdX3_step_50.2.2.1
theorem dX3_step_57 : decode cX3_step 57 = .ok (.invokestatic 81, 3) := sdX3_step_50.2.2.2.1
theorem dX3_step_60 : decode cX3_step 60 = .ok (.istore_n 1, 1) := sdX3_step_50.2.2.2.2.1
theorem dX3_step_61 : decode cX3_step 61 = .ok (.aload_n 0, 1) := sdX3_step_50.2.2.2.2.2.1
theorem dX3_step_62 : decode cX3_step 62 = .ok (.getfield 55, 3) := sdX3_step_50.2.2.2.2.2.2.1
theorem dX3_step_65 : decode cX3_step 65 = .ok (.aload_n 0, 1) := sdX3_step_50.2.2.2.2.2.2.2.1
theorem sdX3_step_66 : dz_Seg cX3_step [(66, .getfield 52, 3), (69, .if_icmp .lt 11, 3), (72, .aload_n 0, 1), (73, .iconst 0, 1), (74, .putfield 74, 3), (77, .goto 60, 3), (80, .iload_n 1, 1), (81, .invokestatic 92, 3)] := dz_sg _ 66 (by decide +kernel)
theorem dX3_step_66 : decode cX3_step 66 = .ok (.getfield 52, 3) := sdX3_step_66.1
theorem dX3_step_69 : decode cX3_step 69 = .ok (.if_icmp .lt 11, 3) := sdX3_step_66.2.1
theorem dX3_step_72 : decode cX3_step 72 = .ok (.aload_n 0, 1) := sdX3_step_66.2.2.1
theorem dX3_step_73 : decode cX3_step 73 = .ok (.iconst 0, 1) := sdX3_step_66.2.2.2.1
theorem dX3_step_74 : decode cX3_step 74 = .ok (.putfield 74, 3) := sdX3_step_66.2.2.2.2.1
theorem dX3_step_77 : decode cX3_step 77 = .ok (.goto 60, 3) := sdX3_step_66.2.2.2.2.2.1
theorem dX3_step_80 : decode cX3_step 80 = .ok (.iload_n 1, 1) := sdX3_step_66.2.2.2.2.2.2.1
theorem dX3_step_81 : decode cX3_step 81 = .ok (.invokestatic 92, 3) := sdX3_step_66.2.2.2.2.2.2.2.1
theorem sdX3_step_84 : dz_Seg cX3_step [(84, .ifCond .eq 10, 3), (87, .aload_n 0, 1), (88, .invokevirtual 95, 3), (91, .goto 46, 3), (94, .iload_n 1, 1), (95, .invokestatic 98, 3), (98, .ifCond .eq 10, 3), (101, .aload_n 0, 1)] := dz_sg _ 84 (by decide +kernel)
theorem dX3_step_84 : decode cX3_step 84 = .ok (.ifCond .eq 10, 3) := sdX3_step_84.1
theorem dX3_step_87 : decode cX3_step 87 = .ok (.aload_n 0, 1) := sdX3_step_84.2.1
theorem dX3_step_88 : decode cX3_step 88 = .ok (.invokevirtual 95, 3) := sdX3_step_84.2.2.1
theorem dX3_step_91 : decode cX3_step 91 = .ok (.goto 46, 3) := sdX3_step_84.2.2.2.1
theorem dX3_step_94 : decode cX3_step 94 = .ok (.iload_n 1, 1) := sdX3_step_84.2.2.2.2.1
theorem dX3_step_95 : decode cX3_step 95 = .ok (.invokestatic 98, 3) := sdX3_step_84.2.2.2.2.2.1
theorem dX3_step_98 : decode cX3_step 98 = .ok (.ifCond .eq 10, 3) := sdX3_step_84.2.2.2.2.2.2.1
theorem dX3_step_101 : decode cX3_step 101 = .ok (.aload_n 0, 1) := sdX3_step_84.2.2.2.2.2.2.2.1
theorem sdX3_step_102 : dz_Seg cX3_step [(102, .invokevirtual 101, 3), (105, .goto 32, 3), (108, .iload_n 1, 1), (109, .bipush 59, 2), (111, .if_icmp .ne 21, 3), (114, .aload_n 0, 1), (115, .iconst 3, 1), (116, .putfield 74, 3)] := dz_sg _ 102 (by decide +kernel)
theorem dX3_step_102 : decode cX3_step 102 = .ok (.invokevirtual 101, 3) := sdX3_step_102.1
theorem dX3_step_105 : decode cX3_step 105 = .ok (.goto 32, 3) := sdX3_step_102.2.1
theorem dX3_step_108 : decode cX3_step 108 = .ok (.iload_n 1, 1) := sdX3_step_102.2.2.1
theorem dX3_step_109 : decode cX3_step 109 = .ok (.bipush 59, 2) := sdX3_step_102.2.2.2.1
theorem dX3_step_111 : decode cX3_step 111 = .ok (.if_icmp .ne 21, 3) := sdX3_step_102.2.2.2.2.1
theorem dX3_step_114 : decode cX3_step 114 = .ok (.aload_n 0, 1) := sdX3_step_102.2.2.2.2.2.1
theorem dX3_step_115 : decode cX3_step 115 = .ok (.iconst 3, 1) := sdX3_step_102.2.2.2.2.2.2.1
theorem dX3_step_116 : decode cX3_step 116 = .ok (.putfield 74, 3) := sdX3_step_102.2.2.2.2.2.2.2.1
theorem sdX3_step_119 : dz_Seg cX3_step [(119, .aload_n 0, 1), (120, .dup, 1), (121, .getfield 55, 3), (124, .iconst 1, 1), (125, .iadd, 1), (126, .putfield 55, 3), (129, .goto 8, 3), (132, .aload_n 0, 1)] := dz_sg _ 119 (by decide +kernel)
theorem dX3_step_119 : decode cX3_step 119 = .ok (.aload_n 0, 1) := sdX3_step_119.1
theorem dX3_step_120 : decode cX3_step 120 = .ok (.dup, 1) := sdX3_step_119.2.1
theorem dX3_step_121 : decode cX3_step 121 = .ok (.getfield 55, 3) := sdX3_step_119.2.2.1
theorem dX3_step_124 : decode cX3_step 124 = .ok (.iconst 1, 1) := sdX3_step_119.2.2.2.1
theorem dX3_step_125 : decode cX3_step 125 = .ok (.iadd, 1) := sdX3_step_119.2.2.2.2.1
theorem dX3_step_126 : decode cX3_step 126 = .ok (.putfield 55, 3) := sdX3_step_119.2.2.2.2.2.1
theorem dX3_step_129 : decode cX3_step 129 = .ok (.goto 8, 3) := sdX3_step_119.2.2.2.2.2.2.1
theorem dX3_step_132 : decode cX3_step 132 = .ok (.aload_n 0, 1) := sdX3_step_119.2.2.2.2.2.2.2.1
theorem sdX3_step_133 : dz_Seg cX3_step [(133, .iconst 4, 1), (134, .putfield 74, 3), (137, .return_, 1)] := dz_sg _ 133 (by decide +kernel)
theorem dX3_step_133 : decode cX3_step 133 = .ok (.iconst 4, 1) := sdX3_step_133.1
theorem dX3_step_134 : decode cX3_step 134 = .ok (.putfield 74, 3) := sdX3_step_133.2.1
theorem dX3_step_137 : decode cX3_step 137 = .ok (.return_, 1) := sdX3_step_133.2.2.1
theorem sdX3_stepWord_0 : dz_Seg cX3_stepWord [(0, .aload_n 0, 1), (1, .lconst 0, 1), (2, .putfield 104, 3), (5, .aload_n 0, 1), (6, .getfield 55, 3), (9, .aload_n 0, 1), (10, .getfield 52, 3), (13, .if_icmp .ge 63, 3)] := dz_sg _ 0 (by decide +kernel)
theorem dX3_stepWord_0 : decode cX3_stepWord 0 = .ok (.aload_n 0, 1) := sdX3_stepWord_0.1
theorem dX3_stepWord_1 : decode cX3_stepWord 1 = .ok (.lconst 0, 1) := sdX3_stepWord_0.2.1
theorem dX3_stepWord_2 : decode cX3_stepWord 2 = .ok (.putfield 104, 3) := sdX3_stepWord_0.2.2.1
theorem dX3_stepWord_5 : decode cX3_stepWord 5 = .ok (.aload_n 0, 1) := sdX3_stepWord_0.2.2.2.1
theorem dX3_stepWord_6 : decode cX3_stepWord 6 = .ok (.getfield 55, 3) := sdX3_stepWord_0.2.2.2.2.1
theorem dX3_stepWord_9 : decode cX3_stepWord 9 = .ok (.aload_n 0, 1) := sdX3_stepWord_0.2.2.2.2.2.1
theorem dX3_stepWord_10 : decode cX3_stepWord 10 = .ok (.getfield 52, 3) := sdX3_stepWord_0.2.2.2.2.2.2.1
theorem dX3_stepWord_13 : decode cX3_stepWord 13 = .ok (.if_icmp .ge 63, 3) := sdX3_stepWord_0.2.2.2.2.2.2.2.1
theorem sdX3_stepWord_16 : dz_Seg cX3_stepWord [(16, .aload_n 0, 1), (17, .getfield 25, 3), (20, .aload_n 0, 1), (21, .getfield 55, 3), (24, .invokestatic 81, 3), (27, .invokestatic 92, 3), (30, .ifCond .eq 46, 3), (33, .aload_n 0, 1)] := dz_sg _ 16 (by decide +kernel)
theorem dX3_stepWord_16 : decode cX3_stepWord 16 = .ok (.aload_n 0, 1) := sdX3_stepWord_16.1
theorem dX3_stepWord_17 : decode cX3_stepWord 17 = .ok (.getfield 25, 3) := sdX3_stepWord_16.2.1
theorem dX3_stepWord_20 : decode cX3_stepWord 20 = .ok (.aload_n 0, 1) := sdX3_stepWord_16.2.2.1
theorem dX3_stepWord_21 : decode cX3_stepWord 21 = .ok (.getfield 55, 3) := sdX3_stepWord_16.2.2.2.1
theorem dX3_stepWord_24 : decode cX3_stepWord 24 = .ok (.invokestatic 81, 3) := sdX3_stepWord_16.2.2.2.2.1
theorem dX3_stepWord_27 : decode cX3_stepWord 27 = .ok (.invokestatic 92, 3) := sdX3_stepWord_16.2.2.2.2.2.1
theorem dX3_stepWord_30 : decode cX3_stepWord 30 = .ok (.ifCond .eq 46, 3) := sdX3_stepWord_16.2.2.2.2.2.2.1
theorem dX3_stepWord_33 : decode cX3_stepWord 33 = .ok (.aload_n 0, 1) := sdX3_stepWord_16.2.2.2.2.2.2.2.1
theorem sdX3_stepWord_34 : dz_Seg cX3_stepWord [(34, .aload_n 0, 1), (35, .getfield 104, 3), (38, .ldc2_w 108, 3), (41, .lmul, 1), (42, .aload_n 0, 1), (43, .getfield 25, 3), (46, .aload_n 0, 1), (47, .getfield 55, 3)] := dz_sg _ 34 (by decide +kernel)
theorem dX3_stepWord_34 : decode cX3_stepWord 34 = .ok (.aload_n 0, 1) := sdX3_stepWord_34.1
theorem dX3_stepWord_35 : decode cX3_stepWord 35 = .ok (.getfield 104, 3) := sdX3_stepWord_34.2.1
theorem dX3_stepWord_38 : decode cX3_stepWord 38 = .ok (.ldc2_w 108, 3) := sdX3_stepWord_34.2.2.1
theorem dX3_stepWord_41 : decode cX3_stepWord 41 = .ok (.lmul, 1) := sdX3_stepWord_34.2.2.2.1
theorem dX3_stepWord_42 : decode cX3_stepWord 42 = .ok (.aload_n 0, 1) := sdX3_stepWord_34.2.2.2.2.1
theorem dX3_stepWord_43 : decode cX3_stepWord 43 = .ok (.getfield 25, 3) := sdX3_stepWord_34.2.2.2.2.2.1
theorem dX3_stepWord_46 : decode cX3_stepWord 46 = .ok (.aload_n 0, 1) := sdX3_stepWord_34.2.2.2.2.2.2.1
theorem dX3_stepWord_47 : decode cX3_stepWord 47 = .ok (.getfield 55, 3) := sdX3_stepWord_34.2.2.2.2.2.2.2.1
theorem sdX3_stepWord_50 : dz_Seg cX3_stepWord [(50, .invokestatic 81, 3), (53, .bipush 97, 2), (55, .isub, 1), (56, .iconst 1, 1), (57, .iadd, 1), (58, .i2l, 1), (59, .ladd, 1), (60, .putfield 104, 3)] := dz_sg _ 50 (by decide +kernel)
theorem dX3_stepWord_50 : decode cX3_stepWord 50 = .ok (.invokestatic 81, 3) := sdX3_stepWord_50.1
theorem dX3_stepWord_53 : decode cX3_stepWord 53 = .ok (.bipush 97, 2) := sdX3_stepWord_50.2.1
theorem dX3_stepWord_55 : decode cX3_stepWord 55 = .ok (.isub, 1) := sdX3_stepWord_50.2.2.1
theorem dX3_stepWord_56 : decode cX3_stepWord 56 = .ok (.iconst 1, 1) := sdX3_stepWord_50.2.2.2.1
theorem dX3_stepWord_57 : decode cX3_stepWord 57 = .ok (.iadd, 1) := sdX3_stepWord_50.2.2.2.2.1
theorem dX3_stepWord_58 : decode cX3_stepWord 58 = .ok (.i2l, 1) := sdX3_stepWord_50.2.2.2.2.2.1
theorem dX3_stepWord_59 : decode cX3_stepWord 59 = .ok (.ladd, 1) := sdX3_stepWord_50.2.2.2.2.2.2.1
theorem dX3_stepWord_60 : decode cX3_stepWord 60 = .ok (.putfield 104, 3) := sdX3_stepWord_50.2.2.2.2.2.2.2.1
theorem sdX3_stepWord_63 : dz_Seg cX3_stepWord [(63, .aload_n 0, 1), (64, .dup, 1), (65, .getfield 55, 3), (68, .iconst 1, 1), (69, .iadd, 1), (70, .putfield 55, 3), (73, .goto (-68), 3), (76, .aload_n 0, 1)] := dz_sg _ 63 (by decide +kernel)
theorem dX3_stepWord_63 : decode cX3_stepWord 63 = .ok (.aload_n 0, 1) := sdX3_stepWord_63.1
theorem dX3_stepWord_64 : decode cX3_stepWord 64 = .ok (.dup, 1) := sdX3_stepWord_63.2.1
theorem dX3_stepWord_65 : decode cX3_stepWord 65 = .ok (.getfield 55, 3) := sdX3_stepWord_63.2.2.1
theorem dX3_stepWord_68 : decode cX3_stepWord 68 = .ok (.iconst 1, 1) := sdX3_stepWord_63.2.2.2.1
theorem dX3_stepWord_69 : decode cX3_stepWord 69 = .ok (.iadd, 1) := sdX3_stepWord_63.2.2.2.2.1
theorem dX3_stepWord_70 : decode cX3_stepWord 70 = .ok (.putfield 55, 3) := sdX3_stepWord_63.2.2.2.2.2.1
theorem dX3_stepWord_73 : decode cX3_stepWord 73 = .ok (.goto (-68), 3) := sdX3_stepWord_63.2.2.2.2.2.2.1
theorem dX3_stepWord_76 : decode cX3_stepWord 76 = .ok (.aload_n 0, 1) := sdX3_stepWord_63.2.2.2.2.2.2.2.1
theorem sdX3_stepWord_77 : dz_Seg cX3_stepWord [(77, .aload_n 0, 1), (78, .getfield 55, 3), (81, .aload_n 0, 1), (82, .getfield 89, 3), (85, .isub, 1), (86, .bipush 8, 2), (88, .if_icmp .gt 7, 3), (91, .iconst 1, 1)] := dz_sg _ 77 (by decide +kernel)
theorem dX3_stepWord_77 : decode cX3_stepWord 77 = .ok (.aload_n 0, 1) := sdX3_stepWord_77.1
theorem dX3_stepWord_78 : decode cX3_stepWord 78 = .ok (.getfield 55, 3) := sdX3_stepWord_77.2.1
theorem dX3_stepWord_81 : decode cX3_stepWord 81 = .ok (.aload_n 0, 1) := sdX3_stepWord_77.2.2.1
theorem dX3_stepWord_82 : decode cX3_stepWord 82 = .ok (.getfield 89, 3) := sdX3_stepWord_77.2.2.2.1
theorem dX3_stepWord_85 : decode cX3_stepWord 85 = .ok (.isub, 1) := sdX3_stepWord_77.2.2.2.2.1
theorem dX3_stepWord_86 : decode cX3_stepWord 86 = .ok (.bipush 8, 2) := sdX3_stepWord_77.2.2.2.2.2.1
theorem dX3_stepWord_88 : decode cX3_stepWord 88 = .ok (.if_icmp .gt 7, 3) := sdX3_stepWord_77.2.2.2.2.2.2.1
theorem dX3_stepWord_91 : decode cX3_stepWord 91 = .ok (.iconst 1, 1) := sdX3_stepWord_77.2.2.2.2.2.2.2.1
theorem sdX3_stepWord_92 : dz_Seg cX3_stepWord [(92, .goto 4, 3), (95, .iconst 4, 1), (96, .putfield 74, 3), (99, .return_, 1)] := dz_sg _ 92 (by decide +kernel)
theorem dX3_stepWord_92 : decode cX3_stepWord 92 = .ok (.goto 4, 3) := sdX3_stepWord_92.1
theorem dX3_stepWord_95 : decode cX3_stepWord 95 = .ok (.iconst 4, 1) := sdX3_stepWord_92.2.1
theorem dX3_stepWord_96 : decode cX3_stepWord 96 = .ok (.putfield 74, 3) := sdX3_stepWord_92.2.2.1
theorem dX3_stepWord_99 : decode cX3_stepWord 99 = .ok (.return_, 1) := sdX3_stepWord_92.2.2.2.1
theorem sdX3_stepNumber_0 : dz_Seg cX3_stepNumber [(0, .aload_n 0, 1), (1, .iconst 0, 1), (2, .putfield 110, 3), (5, .aload_n 0, 1), (6, .getfield 55, 3), (9, .aload_n 0, 1), (10, .getfield 52, 3), (13, .if_icmp .ge 59, 3)] := dz_sg _ 0 (by decide +kernel)
theorem dX3_stepNumber_0 : decode cX3_stepNumber 0 = .ok (.aload_n 0, 1) := sdX3_stepNumber_0.1
theorem dX3_stepNumber_1 : decode cX3_stepNumber 1 = .ok (.iconst 0, 1) := sdX3_stepNumber_0.2.1
theorem dX3_stepNumber_2 : decode cX3_stepNumber 2 = .ok (.putfield 110, 3) := sdX3_stepNumber_0.2.2.1
theorem dX3_stepNumber_5 : decode cX3_stepNumber 5 = .ok (.aload_n 0, 1) := sdX3_stepNumber_0.2.2.2.1
theorem dX3_stepNumber_6 : decode cX3_stepNumber 6 = .ok (.getfield 55, 3) := sdX3_stepNumber_0.2.2.2.2.1
theorem dX3_stepNumber_9 : decode cX3_stepNumber 9 = .ok (.aload_n 0, 1) := sdX3_stepNumber_0.2.2.2.2.2.1
theorem dX3_stepNumber_10 : decode cX3_stepNumber 10 = .ok (.getfield 52, 3) := sdX3_stepNumber_0.2.2.2.2.2.2.1
theorem dX3_stepNumber_13 : decode cX3_stepNumber 13 = .ok (.if_icmp .ge 59, 3) := sdX3_stepNumber_0.2.2.2.2.2.2.2.1
theorem sdX3_stepNumber_16 : dz_Seg cX3_stepNumber [(16, .aload_n 0, 1), (17, .getfield 25, 3), (20, .aload_n 0, 1), (21, .getfield 55, 3), (24, .invokestatic 81, 3), (27, .invokestatic 98, 3), (30, .ifCond .eq 42, 3), (33, .aload_n 0, 1)] := dz_sg _ 16 (by decide +kernel)
theorem dX3_stepNumber_16 : decode cX3_stepNumber 16 = .ok (.aload_n 0, 1) := sdX3_stepNumber_16.1
theorem dX3_stepNumber_17 : decode cX3_stepNumber 17 = .ok (.getfield 25, 3) := sdX3_stepNumber_16.2.1
theorem dX3_stepNumber_20 : decode cX3_stepNumber 20 = .ok (.aload_n 0, 1) := sdX3_stepNumber_16.2.2.1
theorem dX3_stepNumber_21 : decode cX3_stepNumber 21 = .ok (.getfield 55, 3) := sdX3_stepNumber_16.2.2.2.1
theorem dX3_stepNumber_24 : decode cX3_stepNumber 24 = .ok (.invokestatic 81, 3) := sdX3_stepNumber_16.2.2.2.2.1
theorem dX3_stepNumber_27 : decode cX3_stepNumber 27 = .ok (.invokestatic 98, 3) := sdX3_stepNumber_16.2.2.2.2.2.1
theorem dX3_stepNumber_30 : decode cX3_stepNumber 30 = .ok (.ifCond .eq 42, 3) := sdX3_stepNumber_16.2.2.2.2.2.2.1
theorem dX3_stepNumber_33 : decode cX3_stepNumber 33 = .ok (.aload_n 0, 1) := sdX3_stepNumber_16.2.2.2.2.2.2.2.1
theorem sdX3_stepNumber_34 : dz_Seg cX3_stepNumber [(34, .aload_n 0, 1), (35, .getfield 110, 3), (38, .bipush 10, 2), (40, .imul, 1), (41, .aload_n 0, 1), (42, .getfield 25, 3), (45, .aload_n 0, 1), (46, .getfield 55, 3)] := dz_sg _ 34 (by decide +kernel)
theorem dX3_stepNumber_34 : decode cX3_stepNumber 34 = .ok (.aload_n 0, 1) := sdX3_stepNumber_34.1
theorem dX3_stepNumber_35 : decode cX3_stepNumber 35 = .ok (.getfield 110, 3) := sdX3_stepNumber_34.2.1
theorem dX3_stepNumber_38 : decode cX3_stepNumber 38 = .ok (.bipush 10, 2) := sdX3_stepNumber_34.2.2.1
theorem dX3_stepNumber_40 : decode cX3_stepNumber 40 = .ok (.imul, 1) := sdX3_stepNumber_34.2.2.2.1
theorem dX3_stepNumber_41 : decode cX3_stepNumber 41 = .ok (.aload_n 0, 1) := sdX3_stepNumber_34.2.2.2.2.1
theorem dX3_stepNumber_42 : decode cX3_stepNumber 42 = .ok (.getfield 25, 3) := sdX3_stepNumber_34.2.2.2.2.2.1
theorem dX3_stepNumber_45 : decode cX3_stepNumber 45 = .ok (.aload_n 0, 1) := sdX3_stepNumber_34.2.2.2.2.2.2.1
theorem dX3_stepNumber_46 : decode cX3_stepNumber 46 = .ok (.getfield 55, 3) := sdX3_stepNumber_34.2.2.2.2.2.2.2.1
theorem sdX3_stepNumber_49 : dz_Seg cX3_stepNumber [(49, .invokestatic 81, 3), (52, .bipush 48, 2), (54, .isub, 1), (55, .iadd, 1), (56, .putfield 110, 3), (59, .aload_n 0, 1), (60, .dup, 1), (61, .getfield 55, 3)] := dz_sg _ 49 (by decide +kernel)
theorem dX3_stepNumber_49 : decode cX3_stepNumber 49 = .ok (.invokestatic 81, 3) := sdX3_stepNumber_49.1
theorem dX3_stepNumber_52 : decode cX3_stepNumber 52 = .ok (.bipush 48, 2) := sdX3_stepNumber_49.2.1
theorem dX3_stepNumber_54 : decode cX3_stepNumber 54 = .ok (.isub, 1) := sdX3_stepNumber_49.2.2.1
theorem dX3_stepNumber_55 : decode cX3_stepNumber 55 = .ok (.iadd, 1) := sdX3_stepNumber_49.2.2.2.1
theorem dX3_stepNumber_56 : decode cX3_stepNumber 56 = .ok (.putfield 110, 3) := sdX3_stepNumber_49.2.2.2.2.1
theorem dX3_stepNumber_59 : decode cX3_stepNumber 59 = .ok (.aload_n 0, 1) := sdX3_stepNumber_49.2.2.2.2.2.1
theorem dX3_stepNumber_60 : decode cX3_stepNumber 60 = .ok (.dup, 1) := sdX3_stepNumber_49.2.2.2.2.2.2.1
theorem dX3_stepNumber_61 : decode cX3_stepNumber 61 = .ok (.getfield 55, 3) := sdX3_stepNumber_49.2.2.2.2.2.2.2.1
theorem sdX3_stepNumber_64 : dz_Seg cX3_stepNumber [(64, .iconst 1, 1), (65, .iadd, 1), (66, .putfield 55, 3), (69, .goto (-64), 3), (72, .aload_n 0, 1), (73, .aload_n 0, 1), (74, .getfield 55, 3), (77, .aload_n 0, 1)] := dz_sg _ 64 (by decide +kernel)
theorem dX3_stepNumber_64 : decode cX3_stepNumber 64 = .ok (.iconst 1, 1) := sdX3_stepNumber_64.1
theorem dX3_stepNumber_65 : decode cX3_stepNumber 65 = .ok (.iadd, 1) := sdX3_stepNumber_64.2.1
theorem dX3_stepNumber_66 : decode cX3_stepNumber 66 = .ok (.putfield 55, 3) := sdX3_stepNumber_64.2.2.1
theorem dX3_stepNumber_69 : decode cX3_stepNumber 69 = .ok (.goto (-64), 3) := sdX3_stepNumber_64.2.2.2.1
theorem dX3_stepNumber_72 : decode cX3_stepNumber 72 = .ok (.aload_n 0, 1) := sdX3_stepNumber_64.2.2.2.2.1
theorem dX3_stepNumber_73 : decode cX3_stepNumber 73 = .ok (.aload_n 0, 1) := sdX3_stepNumber_64.2.2.2.2.2.1
theorem dX3_stepNumber_74 : decode cX3_stepNumber 74 = .ok (.getfield 55, 3) := sdX3_stepNumber_64.2.2.2.2.2.2.1
theorem dX3_stepNumber_77 : decode cX3_stepNumber 77 = .ok (.aload_n 0, 1) := sdX3_stepNumber_64.2.2.2.2.2.2.2.1
theorem sdX3_stepNumber_78 : dz_Seg cX3_stepNumber [(78, .getfield 89, 3), (81, .isub, 1), (82, .iconst 3, 1), (83, .if_icmp .gt 7, 3), (86, .iconst 2, 1), (87, .goto 4, 3), (90, .iconst 4, 1), (91, .putfield 74, 3)] := dz_sg _ 78 (by decide +kernel)
theorem dX3_stepNumber_78 : decode cX3_stepNumber 78 = .ok (.getfield 89, 3) := sdX3_stepNumber_78.1
theorem dX3_stepNumber_81 : decode cX3_stepNumber 81 = .ok (.isub, 1) := sdX3_stepNumber_78.2.1
theorem dX3_stepNumber_82 : decode cX3_stepNumber 82 = .ok (.iconst 3, 1) := sdX3_stepNumber_78.2.2.1
theorem dX3_stepNumber_83 : decode cX3_stepNumber 83 = .ok (.if_icmp .gt 7, 3) := sdX3_stepNumber_78.2.2.2.1
theorem dX3_stepNumber_86 : decode cX3_stepNumber 86 = .ok (.iconst 2, 1) := sdX3_stepNumber_78.2.2.2.2.1
theorem dX3_stepNumber_87 : decode cX3_stepNumber 87 = .ok (.goto 4, 3) := sdX3_stepNumber_78.2.2.2.2.2.1
theorem dX3_stepNumber_90 : decode cX3_stepNumber 90 = .ok (.iconst 4, 1) := sdX3_stepNumber_78.2.2.2.2.2.2.1
theorem dX3_stepNumber_91 : decode cX3_stepNumber 91 = .ok (.putfield 74, 3) := sdX3_stepNumber_78.2.2.2.2.2.2.2.1
theorem sdX3_stepNumber_94 : dz_Seg cX3_stepNumber [(94, .return_, 1)] := dz_sg _ 94 (by decide +kernel)
theorem dX3_stepNumber_94 : decode cX3_stepNumber 94 = .ok (.return_, 1) := sdX3_stepNumber_94.1
theorem sdX3_isBlank_0 : dz_Seg cX3_isBlank [(0, .iload_n 0, 1), (1, .bipush 10, 2), (3, .if_icmp .eq 9, 3), (6, .iload_n 0, 1), (7, .bipush 32, 2), (9, .if_icmp .ne 7, 3), (12, .iconst 1, 1), (13, .goto 4, 3)] := dz_sg _ 0 (by decide +kernel)
theorem dX3_isBlank_0 : decode cX3_isBlank 0 = .ok (.iload_n 0, 1) := sdX3_isBlank_0.1
theorem dX3_isBlank_1 : decode cX3_isBlank 1 = .ok (.bipush 10, 2) := sdX3_isBlank_0.2.1
theorem dX3_isBlank_3 : decode cX3_isBlank 3 = .ok (.if_icmp .eq 9, 3) := sdX3_isBlank_0.2.2.1
theorem dX3_isBlank_6 : decode cX3_isBlank 6 = .ok (.iload_n 0, 1) := sdX3_isBlank_0.2.2.2.1
theorem dX3_isBlank_7 : decode cX3_isBlank 7 = .ok (.bipush 32, 2) := sdX3_isBlank_0.2.2.2.2.1
theorem dX3_isBlank_9 : decode cX3_isBlank 9 = .ok (.if_icmp .ne 7, 3) := sdX3_isBlank_0.2.2.2.2.2.1
theorem dX3_isBlank_12 : decode cX3_isBlank 12 = .ok (.iconst 1, 1) := sdX3_isBlank_0.2.2.2.2.2.2.1
theorem dX3_isBlank_13 : decode cX3_isBlank 13 = .ok (.goto 4, 3) := sdX3_isBlank_0.2.2.2.2.2.2.2.1
theorem sdX3_isBlank_16 : dz_Seg cX3_isBlank [(16, .iconst 0, 1), (17, .ireturn, 1)] := dz_sg _ 16 (by decide +kernel)
theorem dX3_isBlank_16 : decode cX3_isBlank 16 = .ok (.iconst 0, 1) := sdX3_isBlank_16.1
theorem dX3_isBlank_17 : decode cX3_isBlank 17 = .ok (.ireturn, 1) := sdX3_isBlank_16.2.1
theorem sdX3_isLetter_0 : dz_Seg cX3_isLetter [(0, .iload_n 0, 1), (1, .bipush 97, 2), (3, .if_icmp .lt 13, 3), (6, .iload_n 0, 1), (7, .bipush 122, 2), (9, .if_icmp .gt 7, 3), (12, .iconst 1, 1), (13, .goto 4, 3)] := dz_sg _ 0 (by decide +kernel)
theorem dX3_isLetter_0 : decode cX3_isLetter 0 = .ok (.iload_n 0, 1) := sdX3_isLetter_0.1
theorem dX3_isLetter_1 : decode cX3_isLetter 1 = .ok (.bipush 97, 2) := sdX3_isLetter_0.2.1
theorem dX3_isLetter_3 : decode cX3_isLetter 3 = .ok (.if_icmp .lt 13, 3) := sdX3_isLetter_0.2.2.1
theorem dX3_isLetter_6 : decode cX3_isLetter 6 = .ok (.iload_n 0, 1) := sdX3_isLetter_0.2.2.2.1
theorem dX3_isLetter_7 : decode cX3_isLetter 7 = .ok (.bipush 122, 2) := sdX3_isLetter_0.2.2.2.2.1
theorem dX3_isLetter_9 : decode cX3_isLetter 9 = .ok (.if_icmp .gt 7, 3) := sdX3_isLetter_0.2.2.2.2.2.1
theorem dX3_isLetter_12 : decode cX3_isLetter 12 = .ok (.iconst 1, 1) := sdX3_isLetter_0.2.2.2.2.2.2.1
theorem dX3_isLetter_13 : decode cX3_isLetter 13 = .ok (.goto 4, 3) := sdX3_isLetter_0.2.2.2.2.2.2.2.1
theorem sdX3_isLetter_16 : dz_Seg cX3_isLetter [(16, .iconst 0, 1), (17, .ireturn, 1)] := dz_sg _ 16 (by decide +kernel)
theorem dX3_isLetter_16 : decode cX3_isLetter 16 = .ok (.iconst 0, 1) := sdX3_isLetter_16.1
theorem dX3_isLetter_17 : decode cX3_isLetter 17 = .ok (.ireturn, 1) := sdX3_isLetter_16.2.1
theorem sdX3_isDigit_0 : dz_Seg cX3_isDigit [(0, .iload_n 0, 1), (1, .bipush 48, 2), (3, .if_icmp .lt 13, 3), (6, .iload_n 0, 1), (7, .bipush 57, 2), (9, .if_icmp .gt 7, 3), (12, .iconst 1, 1), (13, .goto 4, 3)] := dz_sg _ 0 (by decide +kernel)
theorem dX3_isDigit_0 : decode cX3_isDigit 0 = .ok (.iload_n 0, 1) := sdX3_isDigit_0.1
theorem dX3_isDigit_1 : decode cX3_isDigit 1 = .ok (.bipush 48, 2) := sdX3_isDigit_0.2.1
theorem dX3_isDigit_3 : decode cX3_isDigit 3 = .ok (.if_icmp .lt 13, 3) := sdX3_isDigit_0.2.2.1
theorem dX3_isDigit_6 : decode cX3_isDigit 6 = .ok (.iload_n 0, 1) := sdX3_isDigit_0.2.2.2.1
theorem dX3_isDigit_7 : decode cX3_isDigit 7 = .ok (.bipush 57, 2) := sdX3_isDigit_0.2.2.2.2.1
theorem dX3_isDigit_9 : decode cX3_isDigit 9 = .ok (.if_icmp .gt 7, 3) := sdX3_isDigit_0.2.2.2.2.2.1
theorem dX3_isDigit_12 : decode cX3_isDigit 12 = .ok (.iconst 1, 1) := sdX3_isDigit_0.2.2.2.2.2.2.1
theorem dX3_isDigit_13 : decode cX3_isDigit 13 = .ok (.goto 4, 3) := sdX3_isDigit_0.2.2.2.2.2.2.2.1
theorem sdX3_isDigit_16 : dz_Seg cX3_isDigit [(16, .iconst 0, 1), (17, .ireturn, 1)] := dz_sg _ 16 (by decide +kernel)
theorem dX3_isDigit_16 : decode cX3_isDigit 16 = .ok (.iconst 0, 1) := sdX3_isDigit_16.1
theorem dX3_isDigit_17 : decode cX3_isDigit 17 = .ok (.ireturn, 1) := sdX3_isDigit_16.2.1
theorem sdX3_says_0 : dz_Seg cX3_says [(0, .aload_n 0, 1), (1, .getfield 74, 3), (4, .iconst 1, 1), (5, .if_icmp .ne 19, 3), (8, .aload_n 0, 1), (9, .getfield 55, 3), (12, .aload_n 0, 1), (13, .getfield 89, 3)] := dz_sg _ 0 (by decide +kernel)
theorem dX3_says_0 : decode cX3_says 0 = .ok (.aload_n 0, 1) := sdX3_says_0.1
theorem dX3_says_1 : decode cX3_says 1 = .ok (.getfield 74, 3) := sdX3_says_0.2.1
theorem dX3_says_4 : decode cX3_says 4 = .ok (.iconst 1, 1) := sdX3_says_0.2.2.1
theorem dX3_says_5 : decode cX3_says 5 = .ok (.if_icmp .ne 19, 3) := sdX3_says_0.2.2.2.1
theorem dX3_says_8 : decode cX3_says 8 = .ok (.aload_n 0, 1) := sdX3_says_0.2.2.2.2.1
theorem dX3_says_9 : decode cX3_says 9 = .ok (.getfield 55, 3) := sdX3_says_0.2.2.2.2.2.1
theorem dX3_says_12 : decode cX3_says 12 = .ok (.aload_n 0, 1) := sdX3_says_0.2.2.2.2.2.2.1
theorem dX3_says_13 : decode cX3_says 13 = .ok (.getfield 89, 3) := sdX3_says_0.2.2.2.2.2.2.2.1
theorem sdX3_says_16 : dz_Seg cX3_says [(16, .isub, 1), (17, .aload_n 1, 1), (18, .invokevirtual 113, 3), (21, .if_icmp .eq 5, 3), (24, .iconst 0, 1), (25, .ireturn, 1), (26, .iconst 0, 1), (27, .istore_n 2, 1)] := dz_sg _ 16 (by decide +kernel)
theorem dX3_says_16 : decode cX3_says 16 = .ok (.isub, 1) := sdX3_says_16.1
theorem dX3_says_17 : decode cX3_says 17 = .ok (.aload_n 1, 1) := sdX3_says_16.2.1
theorem dX3_says_18 : decode cX3_says 18 = .ok (.invokevirtual 113, 3) := sdX3_says_16.2.2.1
theorem dX3_says_21 : decode cX3_says 21 = .ok (.if_icmp .eq 5, 3) := sdX3_says_16.2.2.2.1
theorem dX3_says_24 : decode cX3_says 24 = .ok (.iconst 0, 1) := sdX3_says_16.2.2.2.2.1
theorem dX3_says_25 : decode cX3_says 25 = .ok (.ireturn, 1) := sdX3_says_16.2.2.2.2.2.1
theorem dX3_says_26 : decode cX3_says 26 = .ok (.iconst 0, 1) := sdX3_says_16.2.2.2.2.2.2.1
theorem dX3_says_27 : decode cX3_says 27 = .ok (.istore_n 2, 1) := sdX3_says_16.2.2.2.2.2.2.2.1
theorem sdX3_says_28 : dz_Seg cX3_says [(28, .iload_n 2, 1), (29, .aload_n 1, 1), (30, .invokevirtual 113, 3), (33, .if_icmp .ge 32, 3), (36, .aload_n 0, 1), (37, .getfield 25, 3), (40, .aload_n 0, 1), (41, .getfield 89, 3)] := dz_sg _ 28 (by decide +kernel)
theorem dX3_says_28 : decode cX3_says 28 = .ok (.iload_n 2, 1) := sdX3_says_28.1
theorem dX3_says_29 : decode cX3_says 29 = .ok (.aload_n 1, 1) := sdX3_says_28.2.1
theorem dX3_says_30 : decode cX3_says 30 = .ok (.invokevirtual 113, 3) := sdX3_says_28.2.2.1
theorem dX3_says_33 : decode cX3_says 33 = .ok (.if_icmp .ge 32, 3) := sdX3_says_28.2.2.2.1
theorem dX3_says_36 : decode cX3_says 36 = .ok (.aload_n 0, 1) := sdX3_says_28.2.2.2.2.1
theorem dX3_says_37 : decode cX3_says 37 = .ok (.getfield 25, 3) := sdX3_says_28.2.2.2.2.2.1
theorem dX3_says_40 : decode cX3_says 40 = .ok (.aload_n 0, 1) := sdX3_says_28.2.2.2.2.2.2.1
theorem dX3_says_41 : decode cX3_says 41 = .ok (.getfield 89, 3) := sdX3_says_28.2.2.2.2.2.2.2.1
theorem sdX3_says_44 : dz_Seg cX3_says [(44, .iload_n 2, 1), (45, .iadd, 1), (46, .invokestatic 81, 3), (49, .aload_n 1, 1), (50, .iload_n 2, 1), (51, .invokevirtual 118, 3), (54, .if_icmp .eq 5, 3), (57, .iconst 0, 1)] := dz_sg _ 44 (by decide +kernel)
theorem dX3_says_44 : decode cX3_says 44 = .ok (.iload_n 2, 1) := sdX3_says_44.1
theorem dX3_says_45 : decode cX3_says 45 = .ok (.iadd, 1) := sdX3_says_44.2.1
theorem dX3_says_46 : decode cX3_says 46 = .ok (.invokestatic 81, 3) := sdX3_says_44.2.2.1
theorem dX3_says_49 : decode cX3_says 49 = .ok (.aload_n 1, 1) := sdX3_says_44.2.2.2.1
theorem dX3_says_50 : decode cX3_says 50 = .ok (.iload_n 2, 1) := sdX3_says_44.2.2.2.2.1
theorem dX3_says_51 : decode cX3_says 51 = .ok (.invokevirtual 118, 3) := sdX3_says_44.2.2.2.2.2.1
theorem dX3_says_54 : decode cX3_says 54 = .ok (.if_icmp .eq 5, 3) := sdX3_says_44.2.2.2.2.2.2.1
theorem dX3_says_57 : decode cX3_says 57 = .ok (.iconst 0, 1) := sdX3_says_44.2.2.2.2.2.2.2.1
theorem sdX3_says_58 : dz_Seg cX3_says [(58, .ireturn, 1), (59, .iinc 2 1, 3), (62, .goto (-34), 3), (65, .iconst 1, 1), (66, .ireturn, 1)] := dz_sg _ 58 (by decide +kernel)
theorem dX3_says_58 : decode cX3_says 58 = .ok (.ireturn, 1) := sdX3_says_58.1
theorem dX3_says_59 : decode cX3_says 59 = .ok (.iinc 2 1, 3) := sdX3_says_58.2.1
theorem dX3_says_62 : decode cX3_says 62 = .ok (.goto (-34), 3) := sdX3_says_58.2.2.1
theorem dX3_says_65 : decode cX3_says 65 = .ok (.iconst 1, 1) := sdX3_says_58.2.2.2.1
theorem dX3_says_66 : decode cX3_says 66 = .ok (.ireturn, 1) := sdX3_says_58.2.2.2.2.1
theorem sdX3_isName_0 : dz_Seg cX3_isName [(0, .aload_n 0, 1), (1, .getfield 74, 3), (4, .iconst 1, 1), (5, .if_icmp .ne 79, 3), (8, .aload_n 0, 1), (9, .ldc 122, 2), (11, .invokevirtual 124, 3), (14, .ifCond .ne 70, 3)] := dz_sg _ 0 (by decide +kernel)
theorem dX3_isName_0 : decode cX3_isName 0 = .ok (.aload_n 0, 1) := sdX3_isName_0.1
theorem dX3_isName_1 : decode cX3_isName 1 = .ok (.getfield 74, 3) := sdX3_isName_0.2.1
theorem dX3_isName_4 : decode cX3_isName 4 = .ok (.iconst 1, 1) := sdX3_isName_0.2.2.1
theorem dX3_isName_5 : decode cX3_isName 5 = .ok (.if_icmp .ne 79, 3) := sdX3_isName_0.2.2.2.1
theorem dX3_isName_8 : decode cX3_isName 8 = .ok (.aload_n 0, 1) := sdX3_isName_0.2.2.2.2.1
theorem dX3_isName_9 : decode cX3_isName 9 = .ok (.ldc 122, 2) := sdX3_isName_0.2.2.2.2.2.1
theorem dX3_isName_11 : decode cX3_isName 11 = .ok (.invokevirtual 124, 3) := sdX3_isName_0.2.2.2.2.2.2.1
theorem dX3_isName_14 : decode cX3_isName 14 = .ok (.ifCond .ne 70, 3) := sdX3_isName_0.2.2.2.2.2.2.2.1
theorem sdX3_isName_17 : dz_Seg cX3_isName [(17, .aload_n 0, 1), (18, .ldc 128, 2), (20, .invokevirtual 124, 3), (23, .ifCond .ne 61, 3), (26, .aload_n 0, 1), (27, .ldc 130, 2), (29, .invokevirtual 124, 3), (32, .ifCond .ne 52, 3)] := dz_sg _ 17 (by decide +kernel)
theorem dX3_isName_17 : decode cX3_isName 17 = .ok (.aload_n 0, 1) := sdX3_isName_17.1
theorem dX3_isName_18 : decode cX3_isName 18 = .ok (.ldc 128, 2) := sdX3_isName_17.2.1
theorem dX3_isName_20 : decode cX3_isName 20 = .ok (.invokevirtual 124, 3) := sdX3_isName_17.2.2.1
theorem dX3_isName_23 : decode cX3_isName 23 = .ok (.ifCond .ne 61, 3) := sdX3_isName_17.2.2.2.1
theorem dX3_isName_26 : decode cX3_isName 26 = .ok (.aload_n 0, 1) := sdX3_isName_17.2.2.2.2.1
theorem dX3_isName_27 : decode cX3_isName 27 = .ok (.ldc 130, 2) := sdX3_isName_17.2.2.2.2.2.1
theorem dX3_isName_29 : decode cX3_isName 29 = .ok (.invokevirtual 124, 3) := sdX3_isName_17.2.2.2.2.2.2.1
theorem dX3_isName_32 : decode cX3_isName 32 = .ok (.ifCond .ne 52, 3) := sdX3_isName_17.2.2.2.2.2.2.2.1
theorem sdX3_isName_35 : dz_Seg cX3_isName [(35, .aload_n 0, 1), (36, .ldc 132, 2), (38, .invokevirtual 124, 3), (41, .ifCond .ne 43, 3), (44, .aload_n 0, 1), (45, .ldc 134, 2), (47, .invokevirtual 124, 3), (50, .ifCond .ne 34, 3)] := dz_sg _ 35 (by decide +kernel)
theorem dX3_isName_35 : decode cX3_isName 35 = .ok (.aload_n 0, 1) := sdX3_isName_35.1
theorem dX3_isName_36 : decode cX3_isName 36 = .ok (.ldc 132, 2) := sdX3_isName_35.2.1
theorem dX3_isName_38 : decode cX3_isName 38 = .ok (.invokevirtual 124, 3) := sdX3_isName_35.2.2.1
theorem dX3_isName_41 : decode cX3_isName 41 = .ok (.ifCond .ne 43, 3) := sdX3_isName_35.2.2.2.1
theorem dX3_isName_44 : decode cX3_isName 44 = .ok (.aload_n 0, 1) := sdX3_isName_35.2.2.2.2.1
theorem dX3_isName_45 : decode cX3_isName 45 = .ok (.ldc 134, 2) := sdX3_isName_35.2.2.2.2.2.1
theorem dX3_isName_47 : decode cX3_isName 47 = .ok (.invokevirtual 124, 3) := sdX3_isName_35.2.2.2.2.2.2.1
theorem dX3_isName_50 : decode cX3_isName 50 = .ok (.ifCond .ne 34, 3) := sdX3_isName_35.2.2.2.2.2.2.2.1
theorem sdX3_isName_53 : dz_Seg cX3_isName [(53, .aload_n 0, 1), (54, .ldc 136, 2), (56, .invokevirtual 124, 3), (59, .ifCond .ne 25, 3), (62, .aload_n 0, 1), (63, .ldc 138, 2), (65, .invokevirtual 124, 3), (68, .ifCond .ne 16, 3)] := dz_sg _ 53 (by decide +kernel)
theorem dX3_isName_53 : decode cX3_isName 53 = .ok (.aload_n 0, 1) := sdX3_isName_53.1
theorem dX3_isName_54 : decode cX3_isName 54 = .ok (.ldc 136, 2) := sdX3_isName_53.2.1
theorem dX3_isName_56 : decode cX3_isName 56 = .ok (.invokevirtual 124, 3) := sdX3_isName_53.2.2.1
theorem dX3_isName_59 : decode cX3_isName 59 = .ok (.ifCond .ne 25, 3) := sdX3_isName_53.2.2.2.1
theorem dX3_isName_62 : decode cX3_isName 62 = .ok (.aload_n 0, 1) := sdX3_isName_53.2.2.2.2.1
theorem dX3_isName_63 : decode cX3_isName 63 = .ok (.ldc 138, 2) := sdX3_isName_53.2.2.2.2.2.1
theorem dX3_isName_65 : decode cX3_isName 65 = .ok (.invokevirtual 124, 3) := sdX3_isName_53.2.2.2.2.2.2.1
theorem dX3_isName_68 : decode cX3_isName 68 = .ok (.ifCond .ne 16, 3) := sdX3_isName_53.2.2.2.2.2.2.2.1
theorem sdX3_isName_71 : dz_Seg cX3_isName [(71, .aload_n 0, 1), (72, .ldc 140, 2), (74, .invokevirtual 124, 3), (77, .ifCond .ne 7, 3), (80, .iconst 1, 1), (81, .goto 4, 3), (84, .iconst 0, 1), (85, .ireturn, 1)] := dz_sg _ 71 (by decide +kernel)
theorem dX3_isName_71 : decode cX3_isName 71 = .ok (.aload_n 0, 1) := sdX3_isName_71.1
theorem dX3_isName_72 : decode cX3_isName 72 = .ok (.ldc 140, 2) := sdX3_isName_71.2.1
theorem dX3_isName_74 : decode cX3_isName 74 = .ok (.invokevirtual 124, 3) := sdX3_isName_71.2.2.1
theorem dX3_isName_77 : decode cX3_isName 77 = .ok (.ifCond .ne 7, 3) := sdX3_isName_71.2.2.2.1
theorem dX3_isName_80 : decode cX3_isName 80 = .ok (.iconst 1, 1) := sdX3_isName_71.2.2.2.2.1
theorem dX3_isName_81 : decode cX3_isName 81 = .ok (.goto 4, 3) := sdX3_isName_71.2.2.2.2.2.1
theorem dX3_isName_84 : decode cX3_isName 84 = .ok (.iconst 0, 1) := sdX3_isName_71.2.2.2.2.2.2.1
theorem dX3_isName_85 : decode cX3_isName 85 = .ok (.ireturn, 1) := sdX3_isName_71.2.2.2.2.2.2.2.1
theorem sdX3_fail_0 : dz_Seg cX3_fail [(0, .aload_n 0, 1), (1, .aload_n 0, 1), (2, .getfield 74, 3), (5, .iconst 4, 1), (6, .if_icmp .ne 7, 3), (9, .iconst 1, 1), (10, .goto 4, 3), (13, .iload_n 1, 1)] := dz_sg _ 0 (by decide +kernel)
theorem dX3_fail_0 : decode cX3_fail 0 = .ok (.aload_n 0, 1) := sdX3_fail_0.1
theorem dX3_fail_1 : decode cX3_fail 1 = .ok (.aload_n 0, 1) := sdX3_fail_0.2.1
theorem dX3_fail_2 : decode cX3_fail 2 = .ok (.getfield 74, 3) := sdX3_fail_0.2.2.1
theorem dX3_fail_5 : decode cX3_fail 5 = .ok (.iconst 4, 1) := sdX3_fail_0.2.2.2.1
theorem dX3_fail_6 : decode cX3_fail 6 = .ok (.if_icmp .ne 7, 3) := sdX3_fail_0.2.2.2.2.1
theorem dX3_fail_9 : decode cX3_fail 9 = .ok (.iconst 1, 1) := sdX3_fail_0.2.2.2.2.2.1
theorem dX3_fail_10 : decode cX3_fail 10 = .ok (.goto 4, 3) := sdX3_fail_0.2.2.2.2.2.2.1
theorem dX3_fail_13 : decode cX3_fail 13 = .ok (.iload_n 1, 1) := sdX3_fail_0.2.2.2.2.2.2.2.1
theorem sdX3_fail_14 : dz_Seg cX3_fail [(14, .putfield 18, 3), (17, .aload_n 0, 1), (18, .aload_n 0, 1), (19, .getfield 89, 3), (22, .putfield 22, 3), (25, .iconst 0, 1), (26, .ireturn, 1)] := dz_sg _ 14 (by decide +kernel)
theorem dX3_fail_14 : decode cX3_fail 14 = .ok (.putfield 18, 3) := sdX3_fail_14.1
theorem dX3_fail_17 : decode cX3_fail 17 = .ok (.aload_n 0, 1) := sdX3_fail_14.2.1
theorem dX3_fail_18 : decode cX3_fail 18 = .ok (.aload_n 0, 1) := sdX3_fail_14.2.2.1
theorem dX3_fail_19 : decode cX3_fail 19 = .ok (.getfield 89, 3) := sdX3_fail_14.2.2.2.1
theorem dX3_fail_22 : decode cX3_fail 22 = .ok (.putfield 22, 3) := sdX3_fail_14.2.2.2.2.1
theorem dX3_fail_25 : decode cX3_fail 25 = .ok (.iconst 0, 1) := sdX3_fail_14.2.2.2.2.2.1
theorem dX3_fail_26 : decode cX3_fail 26 = .ok (.ireturn, 1) := sdX3_fail_14.2.2.2.2.2.2.1
theorem sdX3_readLine_0 : dz_Seg cX3_readLine [(0, .aload_n 0, 1), (1, .ldc 122, 2), (3, .invokevirtual 124, 3), (6, .ifCond .eq 27, 3), (9, .aload_n 0, 1), (10, .getfield 12, 3), (13, .getfield 142, 3), (16, .iconst 5, 1)] := dz_sg _ 0 (by decide +kernel)
theorem dX3_readLine_0 : decode cX3_readLine 0 = .ok (.aload_n 0, 1) := sdX3_readLine_0.1
theorem dX3_readLine_1 : decode cX3_readLine 1 = .ok (.ldc 122, 2) := sdX3_readLine_0.2.1
theorem dX3_readLine_3 : decode cX3_readLine 3 = .ok (.invokevirtual 124, 3) := sdX3_readLine_0.2.2.1
theorem dX3_readLine_6 : decode cX3_readLine 6 = .ok (.ifCond .eq 27, 3) := sdX3_readLine_0.2.2.2.1
theorem dX3_readLine_9 : decode cX3_readLine 9 = .ok (.aload_n 0, 1) := sdX3_readLine_0.2.2.2.2.1
theorem dX3_readLine_10 : decode cX3_readLine 10 = .ok (.getfield 12, 3) := sdX3_readLine_0.2.2.2.2.2.1
theorem dX3_readLine_13 : decode cX3_readLine 13 = .ok (.getfield 142, 3) := sdX3_readLine_0.2.2.2.2.2.2.1
theorem dX3_readLine_16 : decode cX3_readLine 16 = .ok (.iconst 5, 1) := sdX3_readLine_0.2.2.2.2.2.2.2.1
theorem sdX3_readLine_17 : dz_Seg cX3_readLine [(17, .if_icmp .ge 10, 3), (20, .aload_n 0, 1), (21, .invokevirtual 145, 3), (24, .goto 8, 3), (27, .aload_n 0, 1), (28, .iconst 2, 1), (29, .invokevirtual 148, 3), (32, .ireturn, 1)] := dz_sg _ 17 (by decide +kernel)
theorem dX3_readLine_17 : decode cX3_readLine 17 = .ok (.if_icmp .ge 10, 3) := sdX3_readLine_17.1
theorem dX3_readLine_20 : decode cX3_readLine 20 = .ok (.aload_n 0, 1) := sdX3_readLine_17.2.1
theorem dX3_readLine_21 : decode cX3_readLine 21 = .ok (.invokevirtual 145, 3) := sdX3_readLine_17.2.2.1
theorem dX3_readLine_24 : decode cX3_readLine 24 = .ok (.goto 8, 3) := sdX3_readLine_17.2.2.2.1
theorem dX3_readLine_27 : decode cX3_readLine 27 = .ok (.aload_n 0, 1) := sdX3_readLine_17.2.2.2.2.1
theorem dX3_readLine_28 : decode cX3_readLine 28 = .ok (.iconst 2, 1) := sdX3_readLine_17.2.2.2.2.2.1
theorem dX3_readLine_29 : decode cX3_readLine 29 = .ok (.invokevirtual 148, 3) := sdX3_readLine_17.2.2.2.2.2.2.1
theorem dX3_readLine_32 : decode cX3_readLine 32 = .ok (.ireturn, 1) := sdX3_readLine_17.2.2.2.2.2.2.2.1
theorem sdX3_readLine_33 : dz_Seg cX3_readLine [(33, .aload_n 0, 1), (34, .ldc 128, 2), (36, .invokevirtual 124, 3), (39, .ifCond .eq 28, 3), (42, .aload_n 0, 1), (43, .getfield 12, 3), (46, .getfield 151, 3), (49, .bipush 10, 2)] := dz_sg _ 33 (by decide +kernel)
theorem dX3_readLine_33 : decode cX3_readLine 33 = .ok (.aload_n 0, 1) := sdX3_readLine_33.1
theorem dX3_readLine_34 : decode cX3_readLine 34 = .ok (.ldc 128, 2) := sdX3_readLine_33.2.1
theorem dX3_readLine_36 : decode cX3_readLine 36 = .ok (.invokevirtual 124, 3) := sdX3_readLine_33.2.2.1
theorem dX3_readLine_39 : decode cX3_readLine 39 = .ok (.ifCond .eq 28, 3) := sdX3_readLine_33.2.2.2.1
theorem dX3_readLine_42 : decode cX3_readLine 42 = .ok (.aload_n 0, 1) := sdX3_readLine_33.2.2.2.2.1
theorem dX3_readLine_43 : decode cX3_readLine 43 = .ok (.getfield 12, 3) := sdX3_readLine_33.2.2.2.2.2.1
theorem dX3_readLine_46 : decode cX3_readLine 46 = .ok (.getfield 151, 3) := sdX3_readLine_33.2.2.2.2.2.2.1
theorem dX3_readLine_49 : decode cX3_readLine 49 = .ok (.bipush 10, 2) := sdX3_readLine_33.2.2.2.2.2.2.2.1
theorem sdX3_readLine_51 : dz_Seg cX3_readLine [(51, .if_icmp .ge 10, 3), (54, .aload_n 0, 1), (55, .invokevirtual 154, 3), (58, .goto 8, 3), (61, .aload_n 0, 1), (62, .iconst 2, 1), (63, .invokevirtual 148, 3), (66, .ireturn, 1)] := dz_sg _ 51 (by decide +kernel)
theorem dX3_readLine_51 : decode cX3_readLine 51 = .ok (.if_icmp .ge 10, 3) := sdX3_readLine_51.1
theorem dX3_readLine_54 : decode cX3_readLine 54 = .ok (.aload_n 0, 1) := sdX3_readLine_51.2.1
theorem dX3_readLine_55 : decode cX3_readLine 55 = .ok (.invokevirtual 154, 3) := sdX3_readLine_51.2.2.1
theorem dX3_readLine_58 : decode cX3_readLine 58 = .ok (.goto 8, 3) := sdX3_readLine_51.2.2.2.1
theorem dX3_readLine_61 : decode cX3_readLine 61 = .ok (.aload_n 0, 1) := sdX3_readLine_51.2.2.2.2.1
theorem dX3_readLine_62 : decode cX3_readLine 62 = .ok (.iconst 2, 1) := sdX3_readLine_51.2.2.2.2.2.1
theorem dX3_readLine_63 : decode cX3_readLine 63 = .ok (.invokevirtual 148, 3) := sdX3_readLine_51.2.2.2.2.2.2.1
theorem dX3_readLine_66 : decode cX3_readLine 66 = .ok (.ireturn, 1) := sdX3_readLine_51.2.2.2.2.2.2.2.1
theorem sdX3_readLine_67 : dz_Seg cX3_readLine [(67, .aload_n 0, 1), (68, .ldc 132, 2), (70, .invokevirtual 124, 3), (73, .ifCond .eq 27, 3), (76, .aload_n 0, 1), (77, .getfield 12, 3), (80, .getfield 157, 3), (83, .iconst 4, 1)] := dz_sg _ 67 (by decide +kernel)
theorem dX3_readLine_67 : decode cX3_readLine 67 = .ok (.aload_n 0, 1) := sdX3_readLine_67.1
theorem dX3_readLine_68 : decode cX3_readLine 68 = .ok (.ldc 132, 2) := sdX3_readLine_67.2.1
theorem dX3_readLine_70 : decode cX3_readLine 70 = .ok (.invokevirtual 124, 3) := sdX3_readLine_67.2.2.1
theorem dX3_readLine_73 : decode cX3_readLine 73 = .ok (.ifCond .eq 27, 3) := sdX3_readLine_67.2.2.2.1
theorem dX3_readLine_76 : decode cX3_readLine 76 = .ok (.aload_n 0, 1) := sdX3_readLine_67.2.2.2.2.1
theorem dX3_readLine_77 : decode cX3_readLine 77 = .ok (.getfield 12, 3) := sdX3_readLine_67.2.2.2.2.2.1
theorem dX3_readLine_80 : decode cX3_readLine 80 = .ok (.getfield 157, 3) := sdX3_readLine_67.2.2.2.2.2.2.1
theorem dX3_readLine_83 : decode cX3_readLine 83 = .ok (.iconst 4, 1) := sdX3_readLine_67.2.2.2.2.2.2.2.1
theorem sdX3_readLine_84 : dz_Seg cX3_readLine [(84, .if_icmp .ge 10, 3), (87, .aload_n 0, 1), (88, .invokevirtual 160, 3), (91, .goto 8, 3), (94, .aload_n 0, 1), (95, .iconst 2, 1), (96, .invokevirtual 148, 3), (99, .ireturn, 1)] := dz_sg _ 84 (by decide +kernel)
theorem dX3_readLine_84 : decode cX3_readLine 84 = .ok (.if_icmp .ge 10, 3) := sdX3_readLine_84.1
theorem dX3_readLine_87 : decode cX3_readLine 87 = .ok (.aload_n 0, 1) := sdX3_readLine_84.2.1
theorem dX3_readLine_88 : decode cX3_readLine 88 = .ok (.invokevirtual 160, 3) := sdX3_readLine_84.2.2.1
theorem dX3_readLine_91 : decode cX3_readLine 91 = .ok (.goto 8, 3) := sdX3_readLine_84.2.2.2.1
theorem dX3_readLine_94 : decode cX3_readLine 94 = .ok (.aload_n 0, 1) := sdX3_readLine_84.2.2.2.2.1
theorem dX3_readLine_95 : decode cX3_readLine 95 = .ok (.iconst 2, 1) := sdX3_readLine_84.2.2.2.2.2.1
theorem dX3_readLine_96 : decode cX3_readLine 96 = .ok (.invokevirtual 148, 3) := sdX3_readLine_84.2.2.2.2.2.2.1
theorem dX3_readLine_99 : decode cX3_readLine 99 = .ok (.ireturn, 1) := sdX3_readLine_84.2.2.2.2.2.2.2.1
theorem sdX3_readLine_100 : dz_Seg cX3_readLine [(100, .aload_n 0, 1), (101, .ldc 134, 2), (103, .invokevirtual 124, 3), (106, .ifCond .eq 8, 3), (109, .aload_n 0, 1), (110, .invokevirtual 163, 3), (113, .ireturn, 1), (114, .aload_n 0, 1)] := dz_sg _ 100 (by decide +kernel)
theorem dX3_readLine_100 : decode cX3_readLine 100 = .ok (.aload_n 0, 1) := sdX3_readLine_100.1
theorem dX3_readLine_101 : decode cX3_readLine 101 = .ok (.ldc 134, 2) := sdX3_readLine_100.2.1
theorem dX3_readLine_103 : decode cX3_readLine 103 = .ok (.invokevirtual 124, 3) := sdX3_readLine_100.2.2.1
theorem dX3_readLine_106 : decode cX3_readLine 106 = .ok (.ifCond .eq 8, 3) := sdX3_readLine_100.2.2.2.1
theorem dX3_readLine_109 : decode cX3_readLine 109 = .ok (.aload_n 0, 1) := sdX3_readLine_100.2.2.2.2.1
theorem dX3_readLine_110 : decode cX3_readLine 110 = .ok (.invokevirtual 163, 3) := sdX3_readLine_100.2.2.2.2.2.1
theorem dX3_readLine_113 : decode cX3_readLine 113 = .ok (.ireturn, 1) := sdX3_readLine_100.2.2.2.2.2.2.1
theorem dX3_readLine_114 : decode cX3_readLine 114 = .ok (.aload_n 0, 1) := sdX3_readLine_100.2.2.2.2.2.2.2.1
theorem sdX3_readLine_115 : dz_Seg cX3_readLine [(115, .ldc 136, 2), (117, .invokevirtual 124, 3), (120, .ifCond .eq 23, 3), (123, .aload_n 0, 1), (124, .getfield 58, 3), (127, .ifCond .eq 11, 3), (130, .aload_n 0, 1), (131, .iconst 2, 1)] := dz_sg _ 115 (by decide +kernel)
theorem dX3_readLine_115 : decode cX3_readLine 115 = .ok (.ldc 136, 2) := sdX3_readLine_115.1
theorem dX3_readLine_117 : decode cX3_readLine 117 = .ok (.invokevirtual 124, 3) := sdX3_readLine_115.2.1
theorem dX3_readLine_120 : decode cX3_readLine 120 = .ok (.ifCond .eq 23, 3) := sdX3_readLine_115.2.2.1
theorem dX3_readLine_123 : decode cX3_readLine 123 = .ok (.aload_n 0, 1) := sdX3_readLine_115.2.2.2.1
theorem dX3_readLine_124 : decode cX3_readLine 124 = .ok (.getfield 58, 3) := sdX3_readLine_115.2.2.2.2.1
theorem dX3_readLine_127 : decode cX3_readLine 127 = .ok (.ifCond .eq 11, 3) := sdX3_readLine_115.2.2.2.2.2.1
theorem dX3_readLine_130 : decode cX3_readLine 130 = .ok (.aload_n 0, 1) := sdX3_readLine_115.2.2.2.2.2.2.1
theorem dX3_readLine_131 : decode cX3_readLine 131 = .ok (.iconst 2, 1) := sdX3_readLine_115.2.2.2.2.2.2.2.1
theorem sdX3_readLine_132 : dz_Seg cX3_readLine [(132, .invokevirtual 148, 3), (135, .goto 7, 3), (138, .aload_n 0, 1), (139, .invokevirtual 166, 3), (142, .ireturn, 1), (143, .aload_n 0, 1), (144, .ldc 138, 2), (146, .invokevirtual 124, 3)] := dz_sg _ 132 (by decide +kernel)
theorem dX3_readLine_132 : decode cX3_readLine 132 = .ok (.invokevirtual 148, 3) := sdX3_readLine_132.1
theorem dX3_readLine_135 : decode cX3_readLine 135 = .ok (.goto 7, 3) := sdX3_readLine_132.2.1
theorem dX3_readLine_138 : decode cX3_readLine 138 = .ok (.aload_n 0, 1) := sdX3_readLine_132.2.2.1
theorem dX3_readLine_139 : decode cX3_readLine 139 = .ok (.invokevirtual 166, 3) := sdX3_readLine_132.2.2.2.1
theorem dX3_readLine_142 : decode cX3_readLine 142 = .ok (.ireturn, 1) := sdX3_readLine_132.2.2.2.2.1
theorem dX3_readLine_143 : decode cX3_readLine 143 = .ok (.aload_n 0, 1) := sdX3_readLine_132.2.2.2.2.2.1
theorem dX3_readLine_144 : decode cX3_readLine 144 = .ok (.ldc 138, 2) := sdX3_readLine_132.2.2.2.2.2.2.1
theorem dX3_readLine_146 : decode cX3_readLine 146 = .ok (.invokevirtual 124, 3) := sdX3_readLine_132.2.2.2.2.2.2.2.1
theorem sdX3_readLine_149 : dz_Seg cX3_readLine [(149, .ifCond .eq 23, 3), (152, .aload_n 0, 1), (153, .getfield 62, 3), (156, .ifCond .eq 11, 3), (159, .aload_n 0, 1), (160, .iconst 2, 1), (161, .invokevirtual 148, 3), (164, .goto 7, 3)] := dz_sg _ 149 (by decide +kernel)
theorem dX3_readLine_149 : decode cX3_readLine 149 = .ok (.ifCond .eq 23, 3) := sdX3_readLine_149.1
theorem dX3_readLine_152 : decode cX3_readLine 152 = .ok (.aload_n 0, 1) := sdX3_readLine_149.2.1
theorem dX3_readLine_153 : decode cX3_readLine 153 = .ok (.getfield 62, 3) := sdX3_readLine_149.2.2.1
theorem dX3_readLine_156 : decode cX3_readLine 156 = .ok (.ifCond .eq 11, 3) := sdX3_readLine_149.2.2.2.1
theorem dX3_readLine_159 : decode cX3_readLine 159 = .ok (.aload_n 0, 1) := sdX3_readLine_149.2.2.2.2.1
theorem dX3_readLine_160 : decode cX3_readLine 160 = .ok (.iconst 2, 1) := sdX3_readLine_149.2.2.2.2.2.1
theorem dX3_readLine_161 : decode cX3_readLine 161 = .ok (.invokevirtual 148, 3) := sdX3_readLine_149.2.2.2.2.2.2.1
theorem dX3_readLine_164 : decode cX3_readLine 164 = .ok (.goto 7, 3) := sdX3_readLine_149.2.2.2.2.2.2.2.1
theorem sdX3_readLine_167 : dz_Seg cX3_readLine [(167, .aload_n 0, 1), (168, .invokevirtual 169, 3), (171, .ireturn, 1), (172, .aload_n 0, 1), (173, .ldc 140, 2), (175, .invokevirtual 124, 3), (178, .ifCond .eq 23, 3), (181, .aload_n 0, 1)] := dz_sg _ 167 (by decide +kernel)
theorem dX3_readLine_167 : decode cX3_readLine 167 = .ok (.aload_n 0, 1) := sdX3_readLine_167.1
theorem dX3_readLine_168 : decode cX3_readLine 168 = .ok (.invokevirtual 169, 3) := sdX3_readLine_167.2.1
theorem dX3_readLine_171 : decode cX3_readLine 171 = .ok (.ireturn, 1) := sdX3_readLine_167.2.2.1
theorem dX3_readLine_172 : decode cX3_readLine 172 = .ok (.aload_n 0, 1) := sdX3_readLine_167.2.2.2.1
theorem dX3_readLine_173 : decode cX3_readLine 173 = .ok (.ldc 140, 2) := sdX3_readLine_167.2.2.2.2.1
theorem dX3_readLine_175 : decode cX3_readLine 175 = .ok (.invokevirtual 124, 3) := sdX3_readLine_167.2.2.2.2.2.1
theorem dX3_readLine_178 : decode cX3_readLine 178 = .ok (.ifCond .eq 23, 3) := sdX3_readLine_167.2.2.2.2.2.2.1
theorem dX3_readLine_181 : decode cX3_readLine 181 = .ok (.aload_n 0, 1) := sdX3_readLine_167.2.2.2.2.2.2.2.1
theorem sdX3_readLine_182 : dz_Seg cX3_readLine [(182, .getfield 65, 3), (185, .ifCond .eq 11, 3), (188, .aload_n 0, 1), (189, .iconst 2, 1), (190, .invokevirtual 148, 3), (193, .goto 7, 3), (196, .aload_n 0, 1), (197, .invokevirtual 172, 3)] := dz_sg _ 182 (by decide +kernel)
theorem dX3_readLine_182 : decode cX3_readLine 182 = .ok (.getfield 65, 3) := sdX3_readLine_182.1
theorem dX3_readLine_185 : decode cX3_readLine 185 = .ok (.ifCond .eq 11, 3) := sdX3_readLine_182.2.1
theorem dX3_readLine_188 : decode cX3_readLine 188 = .ok (.aload_n 0, 1) := sdX3_readLine_182.2.2.1
theorem dX3_readLine_189 : decode cX3_readLine 189 = .ok (.iconst 2, 1) := sdX3_readLine_182.2.2.2.1
theorem dX3_readLine_190 : decode cX3_readLine 190 = .ok (.invokevirtual 148, 3) := sdX3_readLine_182.2.2.2.2.1
theorem dX3_readLine_193 : decode cX3_readLine 193 = .ok (.goto 7, 3) := sdX3_readLine_182.2.2.2.2.2.1
theorem dX3_readLine_196 : decode cX3_readLine 196 = .ok (.aload_n 0, 1) := sdX3_readLine_182.2.2.2.2.2.2.1
theorem dX3_readLine_197 : decode cX3_readLine 197 = .ok (.invokevirtual 172, 3) := sdX3_readLine_182.2.2.2.2.2.2.2.1
theorem sdX3_readLine_200 : dz_Seg cX3_readLine [(200, .ireturn, 1), (201, .aload_n 0, 1), (202, .iconst 2, 1), (203, .invokevirtual 148, 3), (206, .ireturn, 1)] := dz_sg _ 200 (by decide +kernel)
theorem dX3_readLine_200 : decode cX3_readLine 200 = .ok (.ireturn, 1) := sdX3_readLine_200.1
theorem dX3_readLine_201 : decode cX3_readLine 201 = .ok (.aload_n 0, 1) := sdX3_readLine_200.2.1
theorem dX3_readLine_202 : decode cX3_readLine 202 = .ok (.iconst 2, 1) := sdX3_readLine_200.2.2.1
theorem dX3_readLine_203 : decode cX3_readLine 203 = .ok (.invokevirtual 148, 3) := sdX3_readLine_200.2.2.2.1
theorem dX3_readLine_206 : decode cX3_readLine 206 = .ok (.ireturn, 1) := sdX3_readLine_200.2.2.2.2.1
theorem sdX3_readUnit_0 : dz_Seg cX3_readUnit [(0, .aload_n 0, 1), (1, .invokevirtual 71, 3), (4, .aload_n 0, 1), (5, .invokevirtual 175, 3), (8, .ifCond .ne 5, 3), (11, .iconst 0, 1), (12, .ireturn, 1), (13, .aload_n 0, 1)] := dz_sg _ 0 (by decide +kernel)
theorem dX3_readUnit_0 : decode cX3_readUnit 0 = .ok (.aload_n 0, 1) := sdX3_readUnit_0.1
theorem dX3_readUnit_1 : decode cX3_readUnit 1 = .ok (.invokevirtual 71, 3) := sdX3_readUnit_0.2.1
theorem dX3_readUnit_4 : decode cX3_readUnit 4 = .ok (.aload_n 0, 1) := sdX3_readUnit_0.2.2.1
theorem dX3_readUnit_5 : decode cX3_readUnit 5 = .ok (.invokevirtual 175, 3) := sdX3_readUnit_0.2.2.2.1
theorem dX3_readUnit_8 : decode cX3_readUnit 8 = .ok (.ifCond .ne 5, 3) := sdX3_readUnit_0.2.2.2.2.1
theorem dX3_readUnit_11 : decode cX3_readUnit 11 = .ok (.iconst 0, 1) := sdX3_readUnit_0.2.2.2.2.2.1
theorem dX3_readUnit_12 : decode cX3_readUnit 12 = .ok (.ireturn, 1) := sdX3_readUnit_0.2.2.2.2.2.2.1
theorem dX3_readUnit_13 : decode cX3_readUnit 13 = .ok (.aload_n 0, 1) := sdX3_readUnit_0.2.2.2.2.2.2.2.1
theorem sdX3_readUnit_14 : dz_Seg cX3_readUnit [(14, .bipush 20, 2), (16, .invokevirtual 178, 3), (19, .ifCond .eq 10, 3), (22, .aload_n 0, 1), (23, .invokevirtual 181, 3), (26, .ifCond .ne 5, 3), (29, .iconst 0, 1), (30, .ireturn, 1)] := dz_sg _ 14 (by decide +kernel)
theorem dX3_readUnit_14 : decode cX3_readUnit 14 = .ok (.bipush 20, 2) := sdX3_readUnit_14.1
theorem dX3_readUnit_16 : decode cX3_readUnit 16 = .ok (.invokevirtual 178, 3) := sdX3_readUnit_14.2.1
theorem dX3_readUnit_19 : decode cX3_readUnit 19 = .ok (.ifCond .eq 10, 3) := sdX3_readUnit_14.2.2.1
theorem dX3_readUnit_22 : decode cX3_readUnit 22 = .ok (.aload_n 0, 1) := sdX3_readUnit_14.2.2.2.1
theorem dX3_readUnit_23 : decode cX3_readUnit 23 = .ok (.invokevirtual 181, 3) := sdX3_readUnit_14.2.2.2.2.1
theorem dX3_readUnit_26 : decode cX3_readUnit 26 = .ok (.ifCond .ne 5, 3) := sdX3_readUnit_14.2.2.2.2.2.1
theorem dX3_readUnit_29 : decode cX3_readUnit 29 = .ok (.iconst 0, 1) := sdX3_readUnit_14.2.2.2.2.2.2.1
theorem dX3_readUnit_30 : decode cX3_readUnit 30 = .ok (.ireturn, 1) := sdX3_readUnit_14.2.2.2.2.2.2.2.1
theorem sdX3_readUnit_31 : dz_Seg cX3_readUnit [(31, .aload_n 0, 1), (32, .getfield 29, 3), (35, .aload_n 0, 1), (36, .getfield 12, 3), (39, .getfield 142, 3), (42, .aload_n 0, 1), (43, .getfield 184, 3), (46, .invokestatic 187, 3)] := dz_sg _ 31 (by decide +kernel)
theorem dX3_readUnit_31 : decode cX3_readUnit 31 = .ok (.aload_n 0, 1) := sdX3_readUnit_31.1
theorem dX3_readUnit_32 : decode cX3_readUnit 32 = .ok (.getfield 29, 3) := sdX3_readUnit_31.2.1
theorem dX3_readUnit_35 : decode cX3_readUnit 35 = .ok (.aload_n 0, 1) := sdX3_readUnit_31.2.2.1
theorem dX3_readUnit_36 : decode cX3_readUnit 36 = .ok (.getfield 12, 3) := sdX3_readUnit_31.2.2.2.1
theorem dX3_readUnit_39 : decode cX3_readUnit 39 = .ok (.getfield 142, 3) := sdX3_readUnit_31.2.2.2.2.1
theorem dX3_readUnit_42 : decode cX3_readUnit 42 = .ok (.aload_n 0, 1) := sdX3_readUnit_31.2.2.2.2.2.1
theorem dX3_readUnit_43 : decode cX3_readUnit 43 = .ok (.getfield 184, 3) := sdX3_readUnit_31.2.2.2.2.2.2.1
theorem dX3_readUnit_46 : decode cX3_readUnit 46 = .ok (.invokestatic 187, 3) := sdX3_readUnit_31.2.2.2.2.2.2.2.1
theorem sdX3_readUnit_49 : dz_Seg cX3_readUnit [(49, .aload_n 0, 1), (50, .getfield 12, 3), (53, .aload_n 0, 1), (54, .getfield 110, 3), (57, .invokevirtual 191, 3), (60, .iconst 1, 1), (61, .ireturn, 1)] := dz_sg _ 49 (by decide +kernel)
theorem dX3_readUnit_49 : decode cX3_readUnit 49 = .ok (.aload_n 0, 1) := sdX3_readUnit_49.1
theorem dX3_readUnit_50 : decode cX3_readUnit 50 = .ok (.getfield 12, 3) := sdX3_readUnit_49.2.1
theorem dX3_readUnit_53 : decode cX3_readUnit 53 = .ok (.aload_n 0, 1) := sdX3_readUnit_49.2.2.1
theorem dX3_readUnit_54 : decode cX3_readUnit 54 = .ok (.getfield 110, 3) := sdX3_readUnit_49.2.2.2.1
theorem dX3_readUnit_57 : decode cX3_readUnit 57 = .ok (.invokevirtual 191, 3) := sdX3_readUnit_49.2.2.2.2.1
theorem dX3_readUnit_60 : decode cX3_readUnit 60 = .ok (.iconst 1, 1) := sdX3_readUnit_49.2.2.2.2.2.1
theorem dX3_readUnit_61 : decode cX3_readUnit 61 = .ok (.ireturn, 1) := sdX3_readUnit_49.2.2.2.2.2.2.1
theorem sdX3_readHunter_0 : dz_Seg cX3_readHunter [(0, .aload_n 0, 1), (1, .invokevirtual 71, 3), (4, .aload_n 0, 1), (5, .invokevirtual 175, 3), (8, .ifCond .ne 5, 3), (11, .iconst 0, 1), (12, .ireturn, 1), (13, .aload_n 0, 1)] := dz_sg _ 0 (by decide +kernel)
theorem dX3_readHunter_0 : decode cX3_readHunter 0 = .ok (.aload_n 0, 1) := sdX3_readHunter_0.1
theorem dX3_readHunter_1 : decode cX3_readHunter 1 = .ok (.invokevirtual 71, 3) := sdX3_readHunter_0.2.1
theorem dX3_readHunter_4 : decode cX3_readHunter 4 = .ok (.aload_n 0, 1) := sdX3_readHunter_0.2.2.1
theorem dX3_readHunter_5 : decode cX3_readHunter 5 = .ok (.invokevirtual 175, 3) := sdX3_readHunter_0.2.2.2.1
theorem dX3_readHunter_8 : decode cX3_readHunter 8 = .ok (.ifCond .ne 5, 3) := sdX3_readHunter_0.2.2.2.2.1
theorem dX3_readHunter_11 : decode cX3_readHunter 11 = .ok (.iconst 0, 1) := sdX3_readHunter_0.2.2.2.2.2.1
theorem dX3_readHunter_12 : decode cX3_readHunter 12 = .ok (.ireturn, 1) := sdX3_readHunter_0.2.2.2.2.2.2.1
theorem dX3_readHunter_13 : decode cX3_readHunter 13 = .ok (.aload_n 0, 1) := sdX3_readHunter_0.2.2.2.2.2.2.2.1
theorem sdX3_readHunter_14 : dz_Seg cX3_readHunter [(14, .bipush 20, 2), (16, .invokevirtual 178, 3), (19, .ifCond .ne 5, 3), (22, .iconst 0, 1), (23, .ireturn, 1), (24, .aload_n 0, 1), (25, .ldc 130, 2), (27, .invokevirtual 124, 3)] := dz_sg _ 14 (by decide +kernel)
theorem dX3_readHunter_14 : decode cX3_readHunter 14 = .ok (.bipush 20, 2) := sdX3_readHunter_14.1
theorem dX3_readHunter_16 : decode cX3_readHunter 16 = .ok (.invokevirtual 178, 3) := sdX3_readHunter_14.2.1
theorem dX3_readHunter_19 : decode cX3_readHunter 19 = .ok (.ifCond .ne 5, 3) := sdX3_readHunter_14.2.2.1
theorem dX3_readHunter_22 : decode cX3_readHunter 22 = .ok (.iconst 0, 1) := sdX3_readHunter_14.2.2.2.1
theorem dX3_readHunter_23 : decode cX3_readHunter 23 = .ok (.ireturn, 1) := sdX3_readHunter_14.2.2.2.2.1
theorem dX3_readHunter_24 : decode cX3_readHunter 24 = .ok (.aload_n 0, 1) := sdX3_readHunter_14.2.2.2.2.2.1
theorem dX3_readHunter_25 : decode cX3_readHunter 25 = .ok (.ldc 130, 2) := sdX3_readHunter_14.2.2.2.2.2.2.1
theorem dX3_readHunter_27 : decode cX3_readHunter 27 = .ok (.invokevirtual 124, 3) := sdX3_readHunter_14.2.2.2.2.2.2.2.1
theorem sdX3_readHunter_30 : dz_Seg cX3_readHunter [(30, .istore_n 1, 1), (31, .iload_n 1, 1), (32, .ifCond .eq 7, 3), (35, .aload_n 0, 1), (36, .invokevirtual 71, 3), (39, .aload_n 0, 1), (40, .invokevirtual 181, 3), (43, .ifCond .ne 5, 3)] := dz_sg _ 30 (by decide +kernel)
theorem dX3_readHunter_30 : decode cX3_readHunter 30 = .ok (.istore_n 1, 1) := sdX3_readHunter_30.1
theorem dX3_readHunter_31 : decode cX3_readHunter 31 = .ok (.iload_n 1, 1) := sdX3_readHunter_30.2.1
theorem dX3_readHunter_32 : decode cX3_readHunter 32 = .ok (.ifCond .eq 7, 3) := sdX3_readHunter_30.2.2.1
theorem dX3_readHunter_35 : decode cX3_readHunter 35 = .ok (.aload_n 0, 1) := sdX3_readHunter_30.2.2.2.1
theorem dX3_readHunter_36 : decode cX3_readHunter 36 = .ok (.invokevirtual 71, 3) := sdX3_readHunter_30.2.2.2.2.1
theorem dX3_readHunter_39 : decode cX3_readHunter 39 = .ok (.aload_n 0, 1) := sdX3_readHunter_30.2.2.2.2.2.1
theorem dX3_readHunter_40 : decode cX3_readHunter 40 = .ok (.invokevirtual 181, 3) := sdX3_readHunter_30.2.2.2.2.2.2.1
theorem dX3_readHunter_43 : decode cX3_readHunter 43 = .ok (.ifCond .ne 5, 3) := sdX3_readHunter_30.2.2.2.2.2.2.2.1
theorem sdX3_readHunter_46 : dz_Seg cX3_readHunter [(46, .iconst 0, 1), (47, .ireturn, 1), (48, .aload_n 0, 1), (49, .getfield 33, 3), (52, .aload_n 0, 1), (53, .getfield 12, 3), (56, .getfield 151, 3), (59, .aload_n 0, 1)] := dz_sg _ 46 (by decide +kernel)
theorem dX3_readHunter_46 : decode cX3_readHunter 46 = .ok (.iconst 0, 1) := sdX3_readHunter_46.1
theorem dX3_readHunter_47 : decode cX3_readHunter 47 = .ok (.ireturn, 1) := sdX3_readHunter_46.2.1
theorem dX3_readHunter_48 : decode cX3_readHunter 48 = .ok (.aload_n 0, 1) := sdX3_readHunter_46.2.2.1
theorem dX3_readHunter_49 : decode cX3_readHunter 49 = .ok (.getfield 33, 3) := sdX3_readHunter_46.2.2.2.1
theorem dX3_readHunter_52 : decode cX3_readHunter 52 = .ok (.aload_n 0, 1) := sdX3_readHunter_46.2.2.2.2.1
theorem dX3_readHunter_53 : decode cX3_readHunter 53 = .ok (.getfield 12, 3) := sdX3_readHunter_46.2.2.2.2.2.1
theorem dX3_readHunter_56 : decode cX3_readHunter 56 = .ok (.getfield 151, 3) := sdX3_readHunter_46.2.2.2.2.2.2.1
theorem dX3_readHunter_59 : decode cX3_readHunter 59 = .ok (.aload_n 0, 1) := sdX3_readHunter_46.2.2.2.2.2.2.2.1
theorem sdX3_readHunter_60 : dz_Seg cX3_readHunter [(60, .getfield 184, 3), (63, .invokestatic 187, 3), (66, .aload_n 0, 1), (67, .getfield 12, 3), (70, .aload_n 0, 1), (71, .getfield 110, 3), (74, .iload_n 1, 1), (75, .invokevirtual 195, 3)] := dz_sg _ 60 (by decide +kernel)
theorem dX3_readHunter_60 : decode cX3_readHunter 60 = .ok (.getfield 184, 3) := sdX3_readHunter_60.1
theorem dX3_readHunter_63 : decode cX3_readHunter 63 = .ok (.invokestatic 187, 3) := sdX3_readHunter_60.2.1
theorem dX3_readHunter_66 : decode cX3_readHunter 66 = .ok (.aload_n 0, 1) := sdX3_readHunter_60.2.2.1
theorem dX3_readHunter_67 : decode cX3_readHunter 67 = .ok (.getfield 12, 3) := sdX3_readHunter_60.2.2.2.1
theorem dX3_readHunter_70 : decode cX3_readHunter 70 = .ok (.aload_n 0, 1) := sdX3_readHunter_60.2.2.2.2.1
theorem dX3_readHunter_71 : decode cX3_readHunter 71 = .ok (.getfield 110, 3) := sdX3_readHunter_60.2.2.2.2.2.1
theorem dX3_readHunter_74 : decode cX3_readHunter 74 = .ok (.iload_n 1, 1) := sdX3_readHunter_60.2.2.2.2.2.2.1
theorem dX3_readHunter_75 : decode cX3_readHunter 75 = .ok (.invokevirtual 195, 3) := sdX3_readHunter_60.2.2.2.2.2.2.2.1
theorem sdX3_readHunter_78 : dz_Seg cX3_readHunter [(78, .iconst 1, 1), (79, .ireturn, 1)] := dz_sg _ 78 (by decide +kernel)
theorem dX3_readHunter_78 : decode cX3_readHunter 78 = .ok (.iconst 1, 1) := sdX3_readHunter_78.1
theorem dX3_readHunter_79 : decode cX3_readHunter 79 = .ok (.ireturn, 1) := sdX3_readHunter_78.2.1
theorem sdX3_readParty_0 : dz_Seg cX3_readParty [(0, .aload_n 0, 1), (1, .invokevirtual 71, 3), (4, .aload_n 0, 1), (5, .invokevirtual 175, 3), (8, .ifCond .ne 5, 3), (11, .iconst 0, 1), (12, .ireturn, 1), (13, .iconst 0, 1)] := dz_sg _ 0 (by decide +kernel)
theorem dX3_readParty_0 : decode cX3_readParty 0 = .ok (.aload_n 0, 1) := sdX3_readParty_0.1
theorem dX3_readParty_1 : decode cX3_readParty 1 = .ok (.invokevirtual 71, 3) := sdX3_readParty_0.2.1
theorem dX3_readParty_4 : decode cX3_readParty 4 = .ok (.aload_n 0, 1) := sdX3_readParty_0.2.2.1
theorem dX3_readParty_5 : decode cX3_readParty 5 = .ok (.invokevirtual 175, 3) := sdX3_readParty_0.2.2.2.1
theorem dX3_readParty_8 : decode cX3_readParty 8 = .ok (.ifCond .ne 5, 3) := sdX3_readParty_0.2.2.2.2.1
theorem dX3_readParty_11 : decode cX3_readParty 11 = .ok (.iconst 0, 1) := sdX3_readParty_0.2.2.2.2.2.1
theorem dX3_readParty_12 : decode cX3_readParty 12 = .ok (.ireturn, 1) := sdX3_readParty_0.2.2.2.2.2.2.1
theorem dX3_readParty_13 : decode cX3_readParty 13 = .ok (.iconst 0, 1) := sdX3_readParty_0.2.2.2.2.2.2.2.1
theorem sdX3_readParty_14 : dz_Seg cX3_readParty [(14, .istore_n 1, 1), (15, .iconst 0, 1), (16, .istore_n 2, 1), (17, .iload_n 2, 1), (18, .iconst 4, 1), (19, .if_icmp .ge 87, 3), (22, .iload_n 2, 1), (23, .iconst 2, 1)] := dz_sg _ 14 (by decide +kernel)
theorem dX3_readParty_14 : decode cX3_readParty 14 = .ok (.istore_n 1, 1) := sdX3_readParty_14.1
theorem dX3_readParty_15 : decode cX3_readParty 15 = .ok (.iconst 0, 1) := sdX3_readParty_14.2.1
theorem dX3_readParty_16 : decode cX3_readParty 16 = .ok (.istore_n 2, 1) := sdX3_readParty_14.2.2.1
theorem dX3_readParty_17 : decode cX3_readParty 17 = .ok (.iload_n 2, 1) := sdX3_readParty_14.2.2.2.1
theorem dX3_readParty_18 : decode cX3_readParty 18 = .ok (.iconst 4, 1) := sdX3_readParty_14.2.2.2.2.1
theorem dX3_readParty_19 : decode cX3_readParty 19 = .ok (.if_icmp .ge 87, 3) := sdX3_readParty_14.2.2.2.2.2.1
theorem dX3_readParty_22 : decode cX3_readParty 22 = .ok (.iload_n 2, 1) := sdX3_readParty_14.2.2.2.2.2.2.1
theorem dX3_readParty_23 : decode cX3_readParty 23 = .ok (.iconst 2, 1) := sdX3_readParty_14.2.2.2.2.2.2.2.1
theorem sdX3_readParty_24 : dz_Seg cX3_readParty [(24, .if_icmp .lt 11, 3), (27, .aload_n 0, 1), (28, .getfield 74, 3), (31, .iconst 3, 1), (32, .if_icmp .eq 74, 3), (35, .aload_n 0, 1), (36, .invokevirtual 199, 3), (39, .ifCond .ne 9, 3)] := dz_sg _ 24 (by decide +kernel)
theorem dX3_readParty_24 : decode cX3_readParty 24 = .ok (.if_icmp .lt 11, 3) := sdX3_readParty_24.1
theorem dX3_readParty_27 : decode cX3_readParty 27 = .ok (.aload_n 0, 1) := sdX3_readParty_24.2.1
theorem dX3_readParty_28 : decode cX3_readParty 28 = .ok (.getfield 74, 3) := sdX3_readParty_24.2.2.1
theorem dX3_readParty_31 : decode cX3_readParty 31 = .ok (.iconst 3, 1) := sdX3_readParty_24.2.2.2.1
theorem dX3_readParty_32 : decode cX3_readParty 32 = .ok (.if_icmp .eq 74, 3) := sdX3_readParty_24.2.2.2.2.1
theorem dX3_readParty_35 : decode cX3_readParty 35 = .ok (.aload_n 0, 1) := sdX3_readParty_24.2.2.2.2.2.1
theorem dX3_readParty_36 : decode cX3_readParty 36 = .ok (.invokevirtual 199, 3) := sdX3_readParty_24.2.2.2.2.2.2.1
theorem dX3_readParty_39 : decode cX3_readParty 39 = .ok (.ifCond .ne 9, 3) := sdX3_readParty_24.2.2.2.2.2.2.2.1
theorem sdX3_readParty_42 : dz_Seg cX3_readParty [(42, .aload_n 0, 1), (43, .iconst 2, 1), (44, .invokevirtual 148, 3), (47, .ireturn, 1), (48, .aload_n 0, 1), (49, .getfield 33, 3), (52, .aload_n 0, 1), (53, .getfield 12, 3)] := dz_sg _ 42 (by decide +kernel)
theorem dX3_readParty_42 : decode cX3_readParty 42 = .ok (.aload_n 0, 1) := sdX3_readParty_42.1
theorem dX3_readParty_43 : decode cX3_readParty 43 = .ok (.iconst 2, 1) := sdX3_readParty_42.2.1
theorem dX3_readParty_44 : decode cX3_readParty 44 = .ok (.invokevirtual 148, 3) := sdX3_readParty_42.2.2.1
theorem dX3_readParty_47 : decode cX3_readParty 47 = .ok (.ireturn, 1) := sdX3_readParty_42.2.2.2.1
theorem dX3_readParty_48 : decode cX3_readParty 48 = .ok (.aload_n 0, 1) := sdX3_readParty_42.2.2.2.2.1
theorem dX3_readParty_49 : decode cX3_readParty 49 = .ok (.getfield 33, 3) := sdX3_readParty_42.2.2.2.2.2.1
theorem dX3_readParty_52 : decode cX3_readParty 52 = .ok (.aload_n 0, 1) := sdX3_readParty_42.2.2.2.2.2.2.1
theorem dX3_readParty_53 : decode cX3_readParty 53 = .ok (.getfield 12, 3) := sdX3_readParty_42.2.2.2.2.2.2.2.1
theorem sdX3_readParty_56 : dz_Seg cX3_readParty [(56, .getfield 151, 3), (59, .aload_n 0, 1), (60, .getfield 104, 3), (63, .invokestatic 202, 3), (66, .istore_n 3, 1), (67, .aload_n 0, 1), (68, .iload_n 3, 1), (69, .invokevirtual 206, 3)] := dz_sg _ 56 (by decide +kernel)
theorem dX3_readParty_56 : decode cX3_readParty 56 = .ok (.getfield 151, 3) := sdX3_readParty_56.1
theorem dX3_readParty_59 : decode cX3_readParty 59 = .ok (.aload_n 0, 1) := sdX3_readParty_56.2.1
theorem dX3_readParty_60 : decode cX3_readParty 60 = .ok (.getfield 104, 3) := sdX3_readParty_56.2.2.1
theorem dX3_readParty_63 : decode cX3_readParty 63 = .ok (.invokestatic 202, 3) := sdX3_readParty_56.2.2.2.1
theorem dX3_readParty_66 : decode cX3_readParty 66 = .ok (.istore_n 3, 1) := sdX3_readParty_56.2.2.2.2.1
theorem dX3_readParty_67 : decode cX3_readParty 67 = .ok (.aload_n 0, 1) := sdX3_readParty_56.2.2.2.2.2.1
theorem dX3_readParty_68 : decode cX3_readParty 68 = .ok (.iload_n 3, 1) := sdX3_readParty_56.2.2.2.2.2.2.1
theorem dX3_readParty_69 : decode cX3_readParty 69 = .ok (.invokevirtual 206, 3) := sdX3_readParty_56.2.2.2.2.2.2.2.1
theorem sdX3_readParty_72 : dz_Seg cX3_readParty [(72, .ifCond .eq 12, 3), (75, .iload_n 1, 1), (76, .iload_n 3, 1), (77, .ishr, 1), (78, .iconst 1, 1), (79, .iand, 1), (80, .iconst 1, 1), (81, .if_icmp .ne 9, 3)] := dz_sg _ 72 (by decide +kernel)
theorem dX3_readParty_72 : decode cX3_readParty 72 = .ok (.ifCond .eq 12, 3) := sdX3_readParty_72.1
theorem dX3_readParty_75 : decode cX3_readParty 75 = .ok (.iload_n 1, 1) := sdX3_readParty_72.2.1
theorem dX3_readParty_76 : decode cX3_readParty 76 = .ok (.iload_n 3, 1) := sdX3_readParty_72.2.2.1
theorem dX3_readParty_77 : decode cX3_readParty 77 = .ok (.ishr, 1) := sdX3_readParty_72.2.2.2.1
theorem dX3_readParty_78 : decode cX3_readParty 78 = .ok (.iconst 1, 1) := sdX3_readParty_72.2.2.2.2.1
theorem dX3_readParty_79 : decode cX3_readParty 79 = .ok (.iand, 1) := sdX3_readParty_72.2.2.2.2.2.1
theorem dX3_readParty_80 : decode cX3_readParty 80 = .ok (.iconst 1, 1) := sdX3_readParty_72.2.2.2.2.2.2.1
theorem dX3_readParty_81 : decode cX3_readParty 81 = .ok (.if_icmp .ne 9, 3) := sdX3_readParty_72.2.2.2.2.2.2.2.1
theorem sdX3_readParty_84 : dz_Seg cX3_readParty [(84, .aload_n 0, 1), (85, .iconst 4, 1), (86, .invokevirtual 148, 3), (89, .ireturn, 1), (90, .iload_n 1, 1), (91, .iconst 1, 1), (92, .iload_n 3, 1), (93, .ishl, 1)] := dz_sg _ 84 (by decide +kernel)
theorem dX3_readParty_84 : decode cX3_readParty 84 = .ok (.aload_n 0, 1) := sdX3_readParty_84.1
theorem dX3_readParty_85 : decode cX3_readParty 85 = .ok (.iconst 4, 1) := sdX3_readParty_84.2.1
theorem dX3_readParty_86 : decode cX3_readParty 86 = .ok (.invokevirtual 148, 3) := sdX3_readParty_84.2.2.1
theorem dX3_readParty_89 : decode cX3_readParty 89 = .ok (.ireturn, 1) := sdX3_readParty_84.2.2.2.1
theorem dX3_readParty_90 : decode cX3_readParty 90 = .ok (.iload_n 1, 1) := sdX3_readParty_84.2.2.2.2.1
theorem dX3_readParty_91 : decode cX3_readParty 91 = .ok (.iconst 1, 1) := sdX3_readParty_84.2.2.2.2.2.1
theorem dX3_readParty_92 : decode cX3_readParty 92 = .ok (.iload_n 3, 1) := sdX3_readParty_84.2.2.2.2.2.2.1
theorem dX3_readParty_93 : decode cX3_readParty 93 = .ok (.ishl, 1) := sdX3_readParty_84.2.2.2.2.2.2.2.1
theorem sdX3_readParty_94 : dz_Seg cX3_readParty [(94, .ior, 1), (95, .istore_n 1, 1), (96, .aload_n 0, 1), (97, .invokevirtual 71, 3), (100, .iinc 2 1, 3), (103, .goto (-86), 3), (106, .aload_n 0, 1), (107, .invokevirtual 181, 3)] := dz_sg _ 94 (by decide +kernel)
theorem dX3_readParty_94 : decode cX3_readParty 94 = .ok (.ior, 1) := sdX3_readParty_94.1
theorem dX3_readParty_95 : decode cX3_readParty 95 = .ok (.istore_n 1, 1) := sdX3_readParty_94.2.1
theorem dX3_readParty_96 : decode cX3_readParty 96 = .ok (.aload_n 0, 1) := sdX3_readParty_94.2.2.1
theorem dX3_readParty_97 : decode cX3_readParty 97 = .ok (.invokevirtual 71, 3) := sdX3_readParty_94.2.2.2.1
theorem dX3_readParty_100 : decode cX3_readParty 100 = .ok (.iinc 2 1, 3) := sdX3_readParty_94.2.2.2.2.1
theorem dX3_readParty_103 : decode cX3_readParty 103 = .ok (.goto (-86), 3) := sdX3_readParty_94.2.2.2.2.2.1
theorem dX3_readParty_106 : decode cX3_readParty 106 = .ok (.aload_n 0, 1) := sdX3_readParty_94.2.2.2.2.2.2.1
theorem dX3_readParty_107 : decode cX3_readParty 107 = .ok (.invokevirtual 181, 3) := sdX3_readParty_94.2.2.2.2.2.2.2.1
theorem sdX3_readParty_110 : dz_Seg cX3_readParty [(110, .ifCond .ne 5, 3), (113, .iconst 0, 1), (114, .ireturn, 1), (115, .aload_n 0, 1), (116, .getfield 36, 3), (119, .aload_n 0, 1), (120, .getfield 12, 3), (123, .getfield 157, 3)] := dz_sg _ 110 (by decide +kernel)
theorem dX3_readParty_110 : decode cX3_readParty 110 = .ok (.ifCond .ne 5, 3) := sdX3_readParty_110.1
theorem dX3_readParty_113 : decode cX3_readParty 113 = .ok (.iconst 0, 1) := sdX3_readParty_110.2.1
theorem dX3_readParty_114 : decode cX3_readParty 114 = .ok (.ireturn, 1) := sdX3_readParty_110.2.2.1
theorem dX3_readParty_115 : decode cX3_readParty 115 = .ok (.aload_n 0, 1) := sdX3_readParty_110.2.2.2.1
theorem dX3_readParty_116 : decode cX3_readParty 116 = .ok (.getfield 36, 3) := sdX3_readParty_110.2.2.2.2.1
theorem dX3_readParty_119 : decode cX3_readParty 119 = .ok (.aload_n 0, 1) := sdX3_readParty_110.2.2.2.2.2.1
theorem dX3_readParty_120 : decode cX3_readParty 120 = .ok (.getfield 12, 3) := sdX3_readParty_110.2.2.2.2.2.2.1
theorem dX3_readParty_123 : decode cX3_readParty 123 = .ok (.getfield 157, 3) := sdX3_readParty_110.2.2.2.2.2.2.2.1
theorem sdX3_readParty_126 : dz_Seg cX3_readParty [(126, .aload_n 0, 1), (127, .getfield 184, 3), (130, .invokestatic 187, 3), (133, .aload_n 0, 1), (134, .getfield 12, 3), (137, .iload_n 1, 1), (138, .invokevirtual 209, 3), (141, .iconst 1, 1)] := dz_sg _ 126 (by decide +kernel)
theorem dX3_readParty_126 : decode cX3_readParty 126 = .ok (.aload_n 0, 1) := sdX3_readParty_126.1
theorem dX3_readParty_127 : decode cX3_readParty 127 = .ok (.getfield 184, 3) := sdX3_readParty_126.2.1
theorem dX3_readParty_130 : decode cX3_readParty 130 = .ok (.invokestatic 187, 3) := sdX3_readParty_126.2.2.1
theorem dX3_readParty_133 : decode cX3_readParty 133 = .ok (.aload_n 0, 1) := sdX3_readParty_126.2.2.2.1
theorem dX3_readParty_134 : decode cX3_readParty 134 = .ok (.getfield 12, 3) := sdX3_readParty_126.2.2.2.2.1
theorem dX3_readParty_137 : decode cX3_readParty 137 = .ok (.iload_n 1, 1) := sdX3_readParty_126.2.2.2.2.2.1
theorem dX3_readParty_138 : decode cX3_readParty 138 = .ok (.invokevirtual 209, 3) := sdX3_readParty_126.2.2.2.2.2.2.1
theorem dX3_readParty_141 : decode cX3_readParty 141 = .ok (.iconst 1, 1) := sdX3_readParty_126.2.2.2.2.2.2.2.1
theorem sdX3_readParty_142 : dz_Seg cX3_readParty [(142, .ireturn, 1)] := dz_sg _ 142 (by decide +kernel)
theorem dX3_readParty_142 : decode cX3_readParty 142 = .ok (.ireturn, 1) := sdX3_readParty_142.1
theorem sdX3_readAsks_0 : dz_Seg cX3_readAsks [(0, .aload_n 0, 1), (1, .invokevirtual 71, 3), (4, .aload_n 0, 1), (5, .invokevirtual 199, 3), (8, .ifCond .ne 9, 3), (11, .aload_n 0, 1), (12, .iconst 2, 1), (13, .invokevirtual 148, 3)] := dz_sg _ 0 (by decide +kernel)
theorem dX3_readAsks_0 : decode cX3_readAsks 0 = .ok (.aload_n 0, 1) := sdX3_readAsks_0.1
theorem dX3_readAsks_1 : decode cX3_readAsks 1 = .ok (.invokevirtual 71, 3) := sdX3_readAsks_0.2.1
theorem dX3_readAsks_4 : decode cX3_readAsks 4 = .ok (.aload_n 0, 1) := sdX3_readAsks_0.2.2.1
theorem dX3_readAsks_5 : decode cX3_readAsks 5 = .ok (.invokevirtual 199, 3) := sdX3_readAsks_0.2.2.2.1
theorem dX3_readAsks_8 : decode cX3_readAsks 8 = .ok (.ifCond .ne 9, 3) := sdX3_readAsks_0.2.2.2.2.1
theorem dX3_readAsks_11 : decode cX3_readAsks 11 = .ok (.aload_n 0, 1) := sdX3_readAsks_0.2.2.2.2.2.1
theorem dX3_readAsks_12 : decode cX3_readAsks 12 = .ok (.iconst 2, 1) := sdX3_readAsks_0.2.2.2.2.2.2.1
theorem dX3_readAsks_13 : decode cX3_readAsks 13 = .ok (.invokevirtual 148, 3) := sdX3_readAsks_0.2.2.2.2.2.2.2.1
theorem sdX3_readAsks_16 : dz_Seg cX3_readAsks [(16, .ireturn, 1), (17, .aload_n 0, 1), (18, .invokevirtual 212, 3), (21, .istore_n 1, 1), (22, .iload_n 1, 1), (23, .ifCond .ne 9, 3), (26, .aload_n 0, 1), (27, .iconst 4, 1)] := dz_sg _ 16 (by decide +kernel)
theorem dX3_readAsks_16 : decode cX3_readAsks 16 = .ok (.ireturn, 1) := sdX3_readAsks_16.1
theorem dX3_readAsks_17 : decode cX3_readAsks 17 = .ok (.aload_n 0, 1) := sdX3_readAsks_16.2.1
theorem dX3_readAsks_18 : decode cX3_readAsks 18 = .ok (.invokevirtual 212, 3) := sdX3_readAsks_16.2.2.1
theorem dX3_readAsks_21 : decode cX3_readAsks 21 = .ok (.istore_n 1, 1) := sdX3_readAsks_16.2.2.2.1
theorem dX3_readAsks_22 : decode cX3_readAsks 22 = .ok (.iload_n 1, 1) := sdX3_readAsks_16.2.2.2.2.1
theorem dX3_readAsks_23 : decode cX3_readAsks 23 = .ok (.ifCond .ne 9, 3) := sdX3_readAsks_16.2.2.2.2.2.1
theorem dX3_readAsks_26 : decode cX3_readAsks 26 = .ok (.aload_n 0, 1) := sdX3_readAsks_16.2.2.2.2.2.2.1
theorem dX3_readAsks_27 : decode cX3_readAsks 27 = .ok (.iconst 4, 1) := sdX3_readAsks_16.2.2.2.2.2.2.2.1
theorem sdX3_readAsks_28 : dz_Seg cX3_readAsks [(28, .invokevirtual 148, 3), (31, .ireturn, 1), (32, .aload_n 0, 1), (33, .invokevirtual 71, 3), (36, .aload_n 0, 1), (37, .getfield 39, 3), (40, .iconst (-1), 1), (41, .invokestatic 215, 3)] := dz_sg _ 28 (by decide +kernel)
theorem dX3_readAsks_28 : decode cX3_readAsks 28 = .ok (.invokevirtual 148, 3) := sdX3_readAsks_28.1
theorem dX3_readAsks_31 : decode cX3_readAsks 31 = .ok (.ireturn, 1) := sdX3_readAsks_28.2.1
theorem dX3_readAsks_32 : decode cX3_readAsks 32 = .ok (.aload_n 0, 1) := sdX3_readAsks_28.2.2.1
theorem dX3_readAsks_33 : decode cX3_readAsks 33 = .ok (.invokevirtual 71, 3) := sdX3_readAsks_28.2.2.2.1
theorem dX3_readAsks_36 : decode cX3_readAsks 36 = .ok (.aload_n 0, 1) := sdX3_readAsks_28.2.2.2.2.1
theorem dX3_readAsks_37 : decode cX3_readAsks 37 = .ok (.getfield 39, 3) := sdX3_readAsks_28.2.2.2.2.2.1
theorem dX3_readAsks_40 : decode cX3_readAsks 40 = .ok (.iconst (-1), 1) := sdX3_readAsks_28.2.2.2.2.2.2.1
theorem dX3_readAsks_41 : decode cX3_readAsks 41 = .ok (.invokestatic 215, 3) := sdX3_readAsks_28.2.2.2.2.2.2.2.1
theorem sdX3_readAsks_44 : dz_Seg cX3_readAsks [(44, .iconst 0, 1), (45, .istore_n 2, 1), (46, .iload_n 2, 1), (47, .iconst 3, 1), (48, .if_icmp .ge 102, 3), (51, .iload_n 2, 1), (52, .iconst 1, 1), (53, .if_icmp .lt 11, 3)] := dz_sg _ 44 (by decide +kernel)
theorem dX3_readAsks_44 : decode cX3_readAsks 44 = .ok (.iconst 0, 1) := sdX3_readAsks_44.1
theorem dX3_readAsks_45 : decode cX3_readAsks 45 = .ok (.istore_n 2, 1) := sdX3_readAsks_44.2.1
theorem dX3_readAsks_46 : decode cX3_readAsks 46 = .ok (.iload_n 2, 1) := sdX3_readAsks_44.2.2.1
theorem dX3_readAsks_47 : decode cX3_readAsks 47 = .ok (.iconst 3, 1) := sdX3_readAsks_44.2.2.2.1
theorem dX3_readAsks_48 : decode cX3_readAsks 48 = .ok (.if_icmp .ge 102, 3) := sdX3_readAsks_44.2.2.2.2.1
theorem dX3_readAsks_51 : decode cX3_readAsks 51 = .ok (.iload_n 2, 1) := sdX3_readAsks_44.2.2.2.2.2.1
theorem dX3_readAsks_52 : decode cX3_readAsks 52 = .ok (.iconst 1, 1) := sdX3_readAsks_44.2.2.2.2.2.2.1
theorem dX3_readAsks_53 : decode cX3_readAsks 53 = .ok (.if_icmp .lt 11, 3) := sdX3_readAsks_44.2.2.2.2.2.2.2.1
theorem sdX3_readAsks_56 : dz_Seg cX3_readAsks [(56, .aload_n 0, 1), (57, .getfield 74, 3), (60, .iconst 3, 1), (61, .if_icmp .eq 89, 3), (64, .aload_n 0, 1), (65, .invokevirtual 199, 3), (68, .ifCond .ne 9, 3), (71, .aload_n 0, 1)] := dz_sg _ 56 (by decide +kernel)
theorem dX3_readAsks_56 : decode cX3_readAsks 56 = .ok (.aload_n 0, 1) := sdX3_readAsks_56.1
theorem dX3_readAsks_57 : decode cX3_readAsks 57 = .ok (.getfield 74, 3) := sdX3_readAsks_56.2.1
theorem dX3_readAsks_60 : decode cX3_readAsks 60 = .ok (.iconst 3, 1) := sdX3_readAsks_56.2.2.1
theorem dX3_readAsks_61 : decode cX3_readAsks 61 = .ok (.if_icmp .eq 89, 3) := sdX3_readAsks_56.2.2.2.1
theorem dX3_readAsks_64 : decode cX3_readAsks 64 = .ok (.aload_n 0, 1) := sdX3_readAsks_56.2.2.2.2.1
theorem dX3_readAsks_65 : decode cX3_readAsks 65 = .ok (.invokevirtual 199, 3) := sdX3_readAsks_56.2.2.2.2.2.1
theorem dX3_readAsks_68 : decode cX3_readAsks 68 = .ok (.ifCond .ne 9, 3) := sdX3_readAsks_56.2.2.2.2.2.2.1
theorem dX3_readAsks_71 : decode cX3_readAsks 71 = .ok (.aload_n 0, 1) := sdX3_readAsks_56.2.2.2.2.2.2.2.1
theorem sdX3_readAsks_72 : dz_Seg cX3_readAsks [(72, .iconst 2, 1), (73, .invokevirtual 148, 3), (76, .ireturn, 1), (77, .aload_n 0, 1), (78, .getfield 29, 3), (81, .aload_n 0, 1), (82, .getfield 12, 3), (85, .getfield 142, 3)] := dz_sg _ 72 (by decide +kernel)
theorem dX3_readAsks_72 : decode cX3_readAsks 72 = .ok (.iconst 2, 1) := sdX3_readAsks_72.1
theorem dX3_readAsks_73 : decode cX3_readAsks 73 = .ok (.invokevirtual 148, 3) := sdX3_readAsks_72.2.1
theorem dX3_readAsks_76 : decode cX3_readAsks 76 = .ok (.ireturn, 1) := sdX3_readAsks_72.2.2.1
theorem dX3_readAsks_77 : decode cX3_readAsks 77 = .ok (.aload_n 0, 1) := sdX3_readAsks_72.2.2.2.1
theorem dX3_readAsks_78 : decode cX3_readAsks 78 = .ok (.getfield 29, 3) := sdX3_readAsks_72.2.2.2.2.1
theorem dX3_readAsks_81 : decode cX3_readAsks 81 = .ok (.aload_n 0, 1) := sdX3_readAsks_72.2.2.2.2.2.1
theorem dX3_readAsks_82 : decode cX3_readAsks 82 = .ok (.getfield 12, 3) := sdX3_readAsks_72.2.2.2.2.2.2.1
theorem dX3_readAsks_85 : decode cX3_readAsks 85 = .ok (.getfield 142, 3) := sdX3_readAsks_72.2.2.2.2.2.2.2.1
theorem sdX3_readAsks_88 : dz_Seg cX3_readAsks [(88, .aload_n 0, 1), (89, .getfield 104, 3), (92, .invokestatic 202, 3), (95, .istore_n 3, 1), (96, .iload_n 3, 1), (97, .iconst (-1), 1), (98, .if_icmp .eq 27, 3), (101, .aload_n 0, 1)] := dz_sg _ 88 (by decide +kernel)
theorem dX3_readAsks_88 : decode cX3_readAsks 88 = .ok (.aload_n 0, 1) := sdX3_readAsks_88.1
theorem dX3_readAsks_89 : decode cX3_readAsks 89 = .ok (.getfield 104, 3) := sdX3_readAsks_88.2.1
theorem dX3_readAsks_92 : decode cX3_readAsks 92 = .ok (.invokestatic 202, 3) := sdX3_readAsks_88.2.2.1
theorem dX3_readAsks_95 : decode cX3_readAsks 95 = .ok (.istore_n 3, 1) := sdX3_readAsks_88.2.2.2.1
theorem dX3_readAsks_96 : decode cX3_readAsks 96 = .ok (.iload_n 3, 1) := sdX3_readAsks_88.2.2.2.2.1
theorem dX3_readAsks_97 : decode cX3_readAsks 97 = .ok (.iconst (-1), 1) := sdX3_readAsks_88.2.2.2.2.2.1
theorem dX3_readAsks_98 : decode cX3_readAsks 98 = .ok (.if_icmp .eq 27, 3) := sdX3_readAsks_88.2.2.2.2.2.2.1
theorem dX3_readAsks_101 : decode cX3_readAsks 101 = .ok (.aload_n 0, 1) := sdX3_readAsks_88.2.2.2.2.2.2.2.1
theorem sdX3_readAsks_102 : dz_Seg cX3_readAsks [(102, .getfield 39, 3), (105, .iconst 0, 1), (106, .invokestatic 81, 3), (109, .iload_n 3, 1), (110, .if_icmp .eq 15, 3), (113, .aload_n 0, 1), (114, .getfield 39, 3), (117, .iconst 1, 1)] := dz_sg _ 102 (by decide +kernel)
theorem dX3_readAsks_102 : decode cX3_readAsks 102 = .ok (.getfield 39, 3) := sdX3_readAsks_102.1
theorem dX3_readAsks_105 : decode cX3_readAsks 105 = .ok (.iconst 0, 1) := sdX3_readAsks_102.2.1
theorem dX3_readAsks_106 : decode cX3_readAsks 106 = .ok (.invokestatic 81, 3) := sdX3_readAsks_102.2.2.1
theorem dX3_readAsks_109 : decode cX3_readAsks 109 = .ok (.iload_n 3, 1) := sdX3_readAsks_102.2.2.2.1
theorem dX3_readAsks_110 : decode cX3_readAsks 110 = .ok (.if_icmp .eq 15, 3) := sdX3_readAsks_102.2.2.2.2.1
theorem dX3_readAsks_113 : decode cX3_readAsks 113 = .ok (.aload_n 0, 1) := sdX3_readAsks_102.2.2.2.2.2.1
theorem dX3_readAsks_114 : decode cX3_readAsks 114 = .ok (.getfield 39, 3) := sdX3_readAsks_102.2.2.2.2.2.2.1
theorem dX3_readAsks_117 : decode cX3_readAsks 117 = .ok (.iconst 1, 1) := sdX3_readAsks_102.2.2.2.2.2.2.2.1
theorem sdX3_readAsks_118 : dz_Seg cX3_readAsks [(118, .invokestatic 81, 3), (121, .iload_n 3, 1), (122, .if_icmp .ne 9, 3), (125, .aload_n 0, 1), (126, .iconst 4, 1), (127, .invokevirtual 148, 3), (130, .ireturn, 1), (131, .aload_n 0, 1)] := dz_sg _ 118 (by decide +kernel)
theorem dX3_readAsks_118 : decode cX3_readAsks 118 = .ok (.invokestatic 81, 3) := sdX3_readAsks_118.1
theorem dX3_readAsks_121 : decode cX3_readAsks 121 = .ok (.iload_n 3, 1) := sdX3_readAsks_118.2.1
theorem dX3_readAsks_122 : decode cX3_readAsks 122 = .ok (.if_icmp .ne 9, 3) := sdX3_readAsks_118.2.2.1
theorem dX3_readAsks_125 : decode cX3_readAsks 125 = .ok (.aload_n 0, 1) := sdX3_readAsks_118.2.2.2.1
theorem dX3_readAsks_126 : decode cX3_readAsks 126 = .ok (.iconst 4, 1) := sdX3_readAsks_118.2.2.2.2.1
theorem dX3_readAsks_127 : decode cX3_readAsks 127 = .ok (.invokevirtual 148, 3) := sdX3_readAsks_118.2.2.2.2.2.1
theorem dX3_readAsks_130 : decode cX3_readAsks 130 = .ok (.ireturn, 1) := sdX3_readAsks_118.2.2.2.2.2.2.1
theorem dX3_readAsks_131 : decode cX3_readAsks 131 = .ok (.aload_n 0, 1) := sdX3_readAsks_118.2.2.2.2.2.2.2.1
theorem sdX3_readAsks_132 : dz_Seg cX3_readAsks [(132, .getfield 39, 3), (135, .iload_n 2, 1), (136, .iload_n 3, 1), (137, .invokestatic 219, 3), (140, .aload_n 0, 1), (141, .invokevirtual 71, 3), (144, .iinc 2 1, 3), (147, .goto (-101), 3)] := dz_sg _ 132 (by decide +kernel)
theorem dX3_readAsks_132 : decode cX3_readAsks 132 = .ok (.getfield 39, 3) := sdX3_readAsks_132.1
theorem dX3_readAsks_135 : decode cX3_readAsks 135 = .ok (.iload_n 2, 1) := sdX3_readAsks_132.2.1
theorem dX3_readAsks_136 : decode cX3_readAsks 136 = .ok (.iload_n 3, 1) := sdX3_readAsks_132.2.2.1
theorem dX3_readAsks_137 : decode cX3_readAsks 137 = .ok (.invokestatic 219, 3) := sdX3_readAsks_132.2.2.2.1
theorem dX3_readAsks_140 : decode cX3_readAsks 140 = .ok (.aload_n 0, 1) := sdX3_readAsks_132.2.2.2.2.1
theorem dX3_readAsks_141 : decode cX3_readAsks 141 = .ok (.invokevirtual 71, 3) := sdX3_readAsks_132.2.2.2.2.2.1
theorem dX3_readAsks_144 : decode cX3_readAsks 144 = .ok (.iinc 2 1, 3) := sdX3_readAsks_132.2.2.2.2.2.2.1
theorem dX3_readAsks_147 : decode cX3_readAsks 147 = .ok (.goto (-101), 3) := sdX3_readAsks_132.2.2.2.2.2.2.2.1
theorem sdX3_readAsks_150 : dz_Seg cX3_readAsks [(150, .aload_n 0, 1), (151, .invokevirtual 181, 3), (154, .ifCond .ne 5, 3), (157, .iconst 0, 1), (158, .ireturn, 1), (159, .aload_n 0, 1), (160, .getfield 12, 3), (163, .iload_n 1, 1)] := dz_sg _ 150 (by decide +kernel)
theorem dX3_readAsks_150 : decode cX3_readAsks 150 = .ok (.aload_n 0, 1) := sdX3_readAsks_150.1
theorem dX3_readAsks_151 : decode cX3_readAsks 151 = .ok (.invokevirtual 181, 3) := sdX3_readAsks_150.2.1
theorem dX3_readAsks_154 : decode cX3_readAsks 154 = .ok (.ifCond .ne 5, 3) := sdX3_readAsks_150.2.2.1
theorem dX3_readAsks_157 : decode cX3_readAsks 157 = .ok (.iconst 0, 1) := sdX3_readAsks_150.2.2.2.1
theorem dX3_readAsks_158 : decode cX3_readAsks 158 = .ok (.ireturn, 1) := sdX3_readAsks_150.2.2.2.2.1
theorem dX3_readAsks_159 : decode cX3_readAsks 159 = .ok (.aload_n 0, 1) := sdX3_readAsks_150.2.2.2.2.2.1
theorem dX3_readAsks_160 : decode cX3_readAsks 160 = .ok (.getfield 12, 3) := sdX3_readAsks_150.2.2.2.2.2.2.1
theorem dX3_readAsks_163 : decode cX3_readAsks 163 = .ok (.iload_n 1, 1) := sdX3_readAsks_150.2.2.2.2.2.2.2.1
theorem sdX3_readAsks_164 : dz_Seg cX3_readAsks [(164, .aload_n 0, 1), (165, .getfield 39, 3), (168, .iconst 0, 1), (169, .invokestatic 81, 3), (172, .aload_n 0, 1), (173, .getfield 39, 3), (176, .iconst 1, 1), (177, .invokestatic 81, 3)] := dz_sg _ 164 (by decide +kernel)
theorem dX3_readAsks_164 : decode cX3_readAsks 164 = .ok (.aload_n 0, 1) := sdX3_readAsks_164.1
theorem dX3_readAsks_165 : decode cX3_readAsks 165 = .ok (.getfield 39, 3) := sdX3_readAsks_164.2.1
theorem dX3_readAsks_168 : decode cX3_readAsks 168 = .ok (.iconst 0, 1) := sdX3_readAsks_164.2.2.1
theorem dX3_readAsks_169 : decode cX3_readAsks 169 = .ok (.invokestatic 81, 3) := sdX3_readAsks_164.2.2.2.1
theorem dX3_readAsks_172 : decode cX3_readAsks 172 = .ok (.aload_n 0, 1) := sdX3_readAsks_164.2.2.2.2.1
theorem dX3_readAsks_173 : decode cX3_readAsks 173 = .ok (.getfield 39, 3) := sdX3_readAsks_164.2.2.2.2.2.1
theorem dX3_readAsks_176 : decode cX3_readAsks 176 = .ok (.iconst 1, 1) := sdX3_readAsks_164.2.2.2.2.2.2.1
theorem dX3_readAsks_177 : decode cX3_readAsks 177 = .ok (.invokestatic 81, 3) := sdX3_readAsks_164.2.2.2.2.2.2.2.1
theorem sdX3_readAsks_180 : dz_Seg cX3_readAsks [(180, .aload_n 0, 1), (181, .getfield 39, 3), (184, .iconst 2, 1), (185, .invokestatic 81, 3), (188, .invokevirtual 223, 3), (191, .iconst 1, 1), (192, .ireturn, 1)] := dz_sg _ 180 (by decide +kernel)
theorem dX3_readAsks_180 : decode cX3_readAsks 180 = .ok (.aload_n 0, 1) := sdX3_readAsks_180.1
theorem dX3_readAsks_181 : decode cX3_readAsks 181 = .ok (.getfield 39, 3) := sdX3_readAsks_180.2.1
theorem dX3_readAsks_184 : decode cX3_readAsks 184 = .ok (.iconst 2, 1) := sdX3_readAsks_180.2.2.1
theorem dX3_readAsks_185 : decode cX3_readAsks 185 = .ok (.invokestatic 81, 3) := sdX3_readAsks_180.2.2.2.1
theorem dX3_readAsks_188 : decode cX3_readAsks 188 = .ok (.invokevirtual 223, 3) := sdX3_readAsks_180.2.2.2.2.1
theorem dX3_readAsks_191 : decode cX3_readAsks 191 = .ok (.iconst 1, 1) := sdX3_readAsks_180.2.2.2.2.2.1
theorem dX3_readAsks_192 : decode cX3_readAsks 192 = .ok (.ireturn, 1) := sdX3_readAsks_180.2.2.2.2.2.2.1
theorem sdX3_readLaw_0 : dz_Seg cX3_readLaw [(0, .aload_n 0, 1), (1, .invokevirtual 71, 3), (4, .aload_n 0, 1), (5, .ldc 227, 2), (7, .invokevirtual 124, 3), (10, .ifCond .eq 14, 3), (13, .aload_n 0, 1), (14, .getfield 12, 3)] := dz_sg _ 0 (by decide +kernel)
theorem dX3_readLaw_0 : decode cX3_readLaw 0 = .ok (.aload_n 0, 1) := sdX3_readLaw_0.1
theorem dX3_readLaw_1 : decode cX3_readLaw 1 = .ok (.invokevirtual 71, 3) := sdX3_readLaw_0.2.1
theorem dX3_readLaw_4 : decode cX3_readLaw 4 = .ok (.aload_n 0, 1) := sdX3_readLaw_0.2.2.1
theorem dX3_readLaw_5 : decode cX3_readLaw 5 = .ok (.ldc 227, 2) := sdX3_readLaw_0.2.2.2.1
theorem dX3_readLaw_7 : decode cX3_readLaw 7 = .ok (.invokevirtual 124, 3) := sdX3_readLaw_0.2.2.2.2.1
theorem dX3_readLaw_10 : decode cX3_readLaw 10 = .ok (.ifCond .eq 14, 3) := sdX3_readLaw_0.2.2.2.2.2.1
theorem dX3_readLaw_13 : decode cX3_readLaw 13 = .ok (.aload_n 0, 1) := sdX3_readLaw_0.2.2.2.2.2.2.1
theorem dX3_readLaw_14 : decode cX3_readLaw 14 = .ok (.getfield 12, 3) := sdX3_readLaw_0.2.2.2.2.2.2.2.1
theorem sdX3_readLaw_17 : dz_Seg cX3_readLaw [(17, .iconst 1, 1), (18, .putfield 229, 3), (21, .goto 38, 3), (24, .aload_n 0, 1), (25, .ldc 232, 2), (27, .invokevirtual 124, 3), (30, .ifCond .eq 14, 3), (33, .aload_n 0, 1)] := dz_sg _ 17 (by decide +kernel)
theorem dX3_readLaw_17 : decode cX3_readLaw 17 = .ok (.iconst 1, 1) := sdX3_readLaw_17.1
theorem dX3_readLaw_18 : decode cX3_readLaw 18 = .ok (.putfield 229, 3) := sdX3_readLaw_17.2.1
theorem dX3_readLaw_21 : decode cX3_readLaw 21 = .ok (.goto 38, 3) := sdX3_readLaw_17.2.2.1
theorem dX3_readLaw_24 : decode cX3_readLaw 24 = .ok (.aload_n 0, 1) := sdX3_readLaw_17.2.2.2.1
theorem dX3_readLaw_25 : decode cX3_readLaw 25 = .ok (.ldc 232, 2) := sdX3_readLaw_17.2.2.2.2.1
theorem dX3_readLaw_27 : decode cX3_readLaw 27 = .ok (.invokevirtual 124, 3) := sdX3_readLaw_17.2.2.2.2.2.1
theorem dX3_readLaw_30 : decode cX3_readLaw 30 = .ok (.ifCond .eq 14, 3) := sdX3_readLaw_17.2.2.2.2.2.2.1
theorem dX3_readLaw_33 : decode cX3_readLaw 33 = .ok (.aload_n 0, 1) := sdX3_readLaw_17.2.2.2.2.2.2.2.1
theorem sdX3_readLaw_34 : dz_Seg cX3_readLaw [(34, .getfield 12, 3), (37, .iconst 2, 1), (38, .putfield 229, 3), (41, .goto 18, 3), (44, .aload_n 0, 1), (45, .ldc 234, 2), (47, .invokevirtual 124, 3), (50, .ifCond .ne 9, 3)] := dz_sg _ 34 (by decide +kernel)
theorem dX3_readLaw_34 : decode cX3_readLaw 34 = .ok (.getfield 12, 3) := sdX3_readLaw_34.1
theorem dX3_readLaw_37 : decode cX3_readLaw 37 = .ok (.iconst 2, 1) := sdX3_readLaw_34.2.1
theorem dX3_readLaw_38 : decode cX3_readLaw 38 = .ok (.putfield 229, 3) := sdX3_readLaw_34.2.2.1
theorem dX3_readLaw_41 : decode cX3_readLaw 41 = .ok (.goto 18, 3) := sdX3_readLaw_34.2.2.2.1
theorem dX3_readLaw_44 : decode cX3_readLaw 44 = .ok (.aload_n 0, 1) := sdX3_readLaw_34.2.2.2.2.1
theorem dX3_readLaw_45 : decode cX3_readLaw 45 = .ok (.ldc 234, 2) := sdX3_readLaw_34.2.2.2.2.2.1
theorem dX3_readLaw_47 : decode cX3_readLaw 47 = .ok (.invokevirtual 124, 3) := sdX3_readLaw_34.2.2.2.2.2.2.1
theorem dX3_readLaw_50 : decode cX3_readLaw 50 = .ok (.ifCond .ne 9, 3) := sdX3_readLaw_34.2.2.2.2.2.2.2.1
theorem sdX3_readLaw_53 : dz_Seg cX3_readLaw [(53, .aload_n 0, 1), (54, .iconst 2, 1), (55, .invokevirtual 148, 3), (58, .ireturn, 1), (59, .aload_n 0, 1), (60, .iconst 1, 1), (61, .putfield 58, 3), (64, .aload_n 0, 1)] := dz_sg _ 53 (by decide +kernel)
theorem dX3_readLaw_53 : decode cX3_readLaw 53 = .ok (.aload_n 0, 1) := sdX3_readLaw_53.1
theorem dX3_readLaw_54 : decode cX3_readLaw 54 = .ok (.iconst 2, 1) := sdX3_readLaw_53.2.1
theorem dX3_readLaw_55 : decode cX3_readLaw 55 = .ok (.invokevirtual 148, 3) := sdX3_readLaw_53.2.2.1
theorem dX3_readLaw_58 : decode cX3_readLaw 58 = .ok (.ireturn, 1) := sdX3_readLaw_53.2.2.2.1
theorem dX3_readLaw_59 : decode cX3_readLaw 59 = .ok (.aload_n 0, 1) := sdX3_readLaw_53.2.2.2.2.1
theorem dX3_readLaw_60 : decode cX3_readLaw 60 = .ok (.iconst 1, 1) := sdX3_readLaw_53.2.2.2.2.2.1
theorem dX3_readLaw_61 : decode cX3_readLaw 61 = .ok (.putfield 58, 3) := sdX3_readLaw_53.2.2.2.2.2.2.1
theorem dX3_readLaw_64 : decode cX3_readLaw 64 = .ok (.aload_n 0, 1) := sdX3_readLaw_53.2.2.2.2.2.2.2.1
theorem sdX3_readLaw_65 : dz_Seg cX3_readLaw [(65, .invokevirtual 71, 3), (68, .aload_n 0, 1), (69, .invokevirtual 181, 3), (72, .ireturn, 1)] := dz_sg _ 65 (by decide +kernel)
theorem dX3_readLaw_65 : decode cX3_readLaw 65 = .ok (.invokevirtual 71, 3) := sdX3_readLaw_65.1
theorem dX3_readLaw_68 : decode cX3_readLaw 68 = .ok (.aload_n 0, 1) := sdX3_readLaw_65.2.1
theorem dX3_readLaw_69 : decode cX3_readLaw 69 = .ok (.invokevirtual 181, 3) := sdX3_readLaw_65.2.2.1
theorem dX3_readLaw_72 : decode cX3_readLaw 72 = .ok (.ireturn, 1) := sdX3_readLaw_65.2.2.2.1
theorem sdX3_readPrefer_0 : dz_Seg cX3_readPrefer [(0, .aload_n 0, 1), (1, .invokevirtual 71, 3), (4, .aload_n 0, 1), (5, .bipush 100, 2), (7, .invokevirtual 178, 3), (10, .ifCond .ne 5, 3), (13, .iconst 0, 1), (14, .ireturn, 1)] := dz_sg _ 0 (by decide +kernel)
theorem dX3_readPrefer_0 : decode cX3_readPrefer 0 = .ok (.aload_n 0, 1) := sdX3_readPrefer_0.1
theorem dX3_readPrefer_1 : decode cX3_readPrefer 1 = .ok (.invokevirtual 71, 3) := sdX3_readPrefer_0.2.1
theorem dX3_readPrefer_4 : decode cX3_readPrefer 4 = .ok (.aload_n 0, 1) := sdX3_readPrefer_0.2.2.1
theorem dX3_readPrefer_5 : decode cX3_readPrefer 5 = .ok (.bipush 100, 2) := sdX3_readPrefer_0.2.2.2.1
theorem dX3_readPrefer_7 : decode cX3_readPrefer 7 = .ok (.invokevirtual 178, 3) := sdX3_readPrefer_0.2.2.2.2.1
theorem dX3_readPrefer_10 : decode cX3_readPrefer 10 = .ok (.ifCond .ne 5, 3) := sdX3_readPrefer_0.2.2.2.2.2.1
theorem dX3_readPrefer_13 : decode cX3_readPrefer 13 = .ok (.iconst 0, 1) := sdX3_readPrefer_0.2.2.2.2.2.2.1
theorem dX3_readPrefer_14 : decode cX3_readPrefer 14 = .ok (.ireturn, 1) := sdX3_readPrefer_0.2.2.2.2.2.2.2.1
theorem sdX3_readPrefer_15 : dz_Seg cX3_readPrefer [(15, .aload_n 0, 1), (16, .iconst 1, 1), (17, .putfield 62, 3), (20, .aload_n 0, 1), (21, .getfield 12, 3), (24, .aload_n 0, 1), (25, .getfield 110, 3), (28, .putfield 236, 3)] := dz_sg _ 15 (by decide +kernel)
theorem dX3_readPrefer_15 : decode cX3_readPrefer 15 = .ok (.aload_n 0, 1) := sdX3_readPrefer_15.1
theorem dX3_readPrefer_16 : decode cX3_readPrefer 16 = .ok (.iconst 1, 1) := sdX3_readPrefer_15.2.1
theorem dX3_readPrefer_17 : decode cX3_readPrefer 17 = .ok (.putfield 62, 3) := sdX3_readPrefer_15.2.2.1
theorem dX3_readPrefer_20 : decode cX3_readPrefer 20 = .ok (.aload_n 0, 1) := sdX3_readPrefer_15.2.2.2.1
theorem dX3_readPrefer_21 : decode cX3_readPrefer 21 = .ok (.getfield 12, 3) := sdX3_readPrefer_15.2.2.2.2.1
theorem dX3_readPrefer_24 : decode cX3_readPrefer 24 = .ok (.aload_n 0, 1) := sdX3_readPrefer_15.2.2.2.2.2.1
theorem dX3_readPrefer_25 : decode cX3_readPrefer 25 = .ok (.getfield 110, 3) := sdX3_readPrefer_15.2.2.2.2.2.2.1
theorem dX3_readPrefer_28 : decode cX3_readPrefer 28 = .ok (.putfield 236, 3) := sdX3_readPrefer_15.2.2.2.2.2.2.2.1
theorem sdX3_readPrefer_31 : dz_Seg cX3_readPrefer [(31, .aload_n 0, 1), (32, .invokevirtual 181, 3), (35, .ireturn, 1)] := dz_sg _ 31 (by decide +kernel)
theorem dX3_readPrefer_31 : decode cX3_readPrefer 31 = .ok (.aload_n 0, 1) := sdX3_readPrefer_31.1
theorem dX3_readPrefer_32 : decode cX3_readPrefer 32 = .ok (.invokevirtual 181, 3) := sdX3_readPrefer_31.2.1
theorem dX3_readPrefer_35 : decode cX3_readPrefer 35 = .ok (.ireturn, 1) := sdX3_readPrefer_31.2.2.1
theorem sdX3_readGuests_0 : dz_Seg cX3_readGuests [(0, .aload_n 0, 1), (1, .invokevirtual 71, 3), (4, .aload_n 0, 1), (5, .bipush 100, 2), (7, .invokevirtual 178, 3), (10, .ifCond .ne 5, 3), (13, .iconst 0, 1), (14, .ireturn, 1)] := dz_sg _ 0 (by decide +kernel)
theorem dX3_readGuests_0 : decode cX3_readGuests 0 = .ok (.aload_n 0, 1) := sdX3_readGuests_0.1
theorem dX3_readGuests_1 : decode cX3_readGuests 1 = .ok (.invokevirtual 71, 3) := sdX3_readGuests_0.2.1
theorem dX3_readGuests_4 : decode cX3_readGuests 4 = .ok (.aload_n 0, 1) := sdX3_readGuests_0.2.2.1
theorem dX3_readGuests_5 : decode cX3_readGuests 5 = .ok (.bipush 100, 2) := sdX3_readGuests_0.2.2.2.1
theorem dX3_readGuests_7 : decode cX3_readGuests 7 = .ok (.invokevirtual 178, 3) := sdX3_readGuests_0.2.2.2.2.1
theorem dX3_readGuests_10 : decode cX3_readGuests 10 = .ok (.ifCond .ne 5, 3) := sdX3_readGuests_0.2.2.2.2.2.1
theorem dX3_readGuests_13 : decode cX3_readGuests 13 = .ok (.iconst 0, 1) := sdX3_readGuests_0.2.2.2.2.2.2.1
theorem dX3_readGuests_14 : decode cX3_readGuests 14 = .ok (.ireturn, 1) := sdX3_readGuests_0.2.2.2.2.2.2.2.1
theorem sdX3_readGuests_15 : dz_Seg cX3_readGuests [(15, .aload_n 0, 1), (16, .iconst 1, 1), (17, .putfield 65, 3), (20, .aload_n 0, 1), (21, .getfield 12, 3), (24, .aload_n 0, 1), (25, .getfield 110, 3), (28, .putfield 239, 3)] := dz_sg _ 15 (by decide +kernel)
theorem dX3_readGuests_15 : decode cX3_readGuests 15 = .ok (.aload_n 0, 1) := sdX3_readGuests_15.1
theorem dX3_readGuests_16 : decode cX3_readGuests 16 = .ok (.iconst 1, 1) := sdX3_readGuests_15.2.1
theorem dX3_readGuests_17 : decode cX3_readGuests 17 = .ok (.putfield 65, 3) := sdX3_readGuests_15.2.2.1
theorem dX3_readGuests_20 : decode cX3_readGuests 20 = .ok (.aload_n 0, 1) := sdX3_readGuests_15.2.2.2.1
theorem dX3_readGuests_21 : decode cX3_readGuests 21 = .ok (.getfield 12, 3) := sdX3_readGuests_15.2.2.2.2.1
theorem dX3_readGuests_24 : decode cX3_readGuests 24 = .ok (.aload_n 0, 1) := sdX3_readGuests_15.2.2.2.2.2.1
theorem dX3_readGuests_25 : decode cX3_readGuests 25 = .ok (.getfield 110, 3) := sdX3_readGuests_15.2.2.2.2.2.2.1
theorem dX3_readGuests_28 : decode cX3_readGuests 28 = .ok (.putfield 239, 3) := sdX3_readGuests_15.2.2.2.2.2.2.2.1
theorem sdX3_readGuests_31 : dz_Seg cX3_readGuests [(31, .aload_n 0, 1), (32, .invokevirtual 181, 3), (35, .ireturn, 1)] := dz_sg _ 31 (by decide +kernel)
theorem dX3_readGuests_31 : decode cX3_readGuests 31 = .ok (.aload_n 0, 1) := sdX3_readGuests_31.1
theorem dX3_readGuests_32 : decode cX3_readGuests 32 = .ok (.invokevirtual 181, 3) := sdX3_readGuests_31.2.1
theorem dX3_readGuests_35 : decode cX3_readGuests 35 = .ok (.ireturn, 1) := sdX3_readGuests_31.2.2.1
theorem sdX3_readNewName_0 : dz_Seg cX3_readNewName [(0, .aload_n 0, 1), (1, .invokevirtual 199, 3), (4, .ifCond .ne 9, 3), (7, .aload_n 0, 1), (8, .iconst 2, 1), (9, .invokevirtual 148, 3), (12, .ireturn, 1), (13, .aload_n 0, 1)] := dz_sg _ 0 (by decide +kernel)
theorem dX3_readNewName_0 : decode cX3_readNewName 0 = .ok (.aload_n 0, 1) := sdX3_readNewName_0.1
theorem dX3_readNewName_1 : decode cX3_readNewName 1 = .ok (.invokevirtual 199, 3) := sdX3_readNewName_0.2.1
theorem dX3_readNewName_4 : decode cX3_readNewName 4 = .ok (.ifCond .ne 9, 3) := sdX3_readNewName_0.2.2.1
theorem dX3_readNewName_7 : decode cX3_readNewName 7 = .ok (.aload_n 0, 1) := sdX3_readNewName_0.2.2.2.1
theorem dX3_readNewName_8 : decode cX3_readNewName 8 = .ok (.iconst 2, 1) := sdX3_readNewName_0.2.2.2.2.1
theorem dX3_readNewName_9 : decode cX3_readNewName 9 = .ok (.invokevirtual 148, 3) := sdX3_readNewName_0.2.2.2.2.2.1
theorem dX3_readNewName_12 : decode cX3_readNewName 12 = .ok (.ireturn, 1) := sdX3_readNewName_0.2.2.2.2.2.2.1
theorem dX3_readNewName_13 : decode cX3_readNewName 13 = .ok (.aload_n 0, 1) := sdX3_readNewName_0.2.2.2.2.2.2.2.1
theorem sdX3_readNewName_14 : dz_Seg cX3_readNewName [(14, .aload_n 0, 1), (15, .getfield 104, 3), (18, .invokevirtual 242, 3), (21, .ifCond .eq 9, 3), (24, .aload_n 0, 1), (25, .iconst 4, 1), (26, .invokevirtual 148, 3), (29, .ireturn, 1)] := dz_sg _ 14 (by decide +kernel)
theorem dX3_readNewName_14 : decode cX3_readNewName 14 = .ok (.aload_n 0, 1) := sdX3_readNewName_14.1
theorem dX3_readNewName_15 : decode cX3_readNewName 15 = .ok (.getfield 104, 3) := sdX3_readNewName_14.2.1
theorem dX3_readNewName_18 : decode cX3_readNewName 18 = .ok (.invokevirtual 242, 3) := sdX3_readNewName_14.2.2.1
theorem dX3_readNewName_21 : decode cX3_readNewName 21 = .ok (.ifCond .eq 9, 3) := sdX3_readNewName_14.2.2.2.1
theorem dX3_readNewName_24 : decode cX3_readNewName 24 = .ok (.aload_n 0, 1) := sdX3_readNewName_14.2.2.2.2.1
theorem dX3_readNewName_25 : decode cX3_readNewName 25 = .ok (.iconst 4, 1) := sdX3_readNewName_14.2.2.2.2.2.1
theorem dX3_readNewName_26 : decode cX3_readNewName 26 = .ok (.invokevirtual 148, 3) := sdX3_readNewName_14.2.2.2.2.2.2.1
theorem dX3_readNewName_29 : decode cX3_readNewName 29 = .ok (.ireturn, 1) := sdX3_readNewName_14.2.2.2.2.2.2.2.1
theorem sdX3_readNewName_30 : dz_Seg cX3_readNewName [(30, .aload_n 0, 1), (31, .aload_n 0, 1), (32, .getfield 104, 3), (35, .putfield 184, 3), (38, .aload_n 0, 1), (39, .invokevirtual 71, 3), (42, .iconst 1, 1), (43, .ireturn, 1)] := dz_sg _ 30 (by decide +kernel)
theorem dX3_readNewName_30 : decode cX3_readNewName 30 = .ok (.aload_n 0, 1) := sdX3_readNewName_30.1
theorem dX3_readNewName_31 : decode cX3_readNewName 31 = .ok (.aload_n 0, 1) := sdX3_readNewName_30.2.1
theorem dX3_readNewName_32 : decode cX3_readNewName 32 = .ok (.getfield 104, 3) := sdX3_readNewName_30.2.2.1
theorem dX3_readNewName_35 : decode cX3_readNewName 35 = .ok (.putfield 184, 3) := sdX3_readNewName_30.2.2.2.1
theorem dX3_readNewName_38 : decode cX3_readNewName 38 = .ok (.aload_n 0, 1) := sdX3_readNewName_30.2.2.2.2.1
theorem dX3_readNewName_39 : decode cX3_readNewName 39 = .ok (.invokevirtual 71, 3) := sdX3_readNewName_30.2.2.2.2.2.1
theorem dX3_readNewName_42 : decode cX3_readNewName 42 = .ok (.iconst 1, 1) := sdX3_readNewName_30.2.2.2.2.2.2.1
theorem dX3_readNewName_43 : decode cX3_readNewName 43 = .ok (.ireturn, 1) := sdX3_readNewName_30.2.2.2.2.2.2.2.1
theorem sdX3_numberUpTo_0 : dz_Seg cX3_numberUpTo [(0, .aload_n 0, 1), (1, .getfield 74, 3), (4, .iconst 2, 1), (5, .if_icmp .eq 9, 3), (8, .aload_n 0, 1), (9, .iconst 2, 1), (10, .invokevirtual 148, 3), (13, .ireturn, 1)] := dz_sg _ 0 (by decide +kernel)
theorem dX3_numberUpTo_0 : decode cX3_numberUpTo 0 = .ok (.aload_n 0, 1) := sdX3_numberUpTo_0.1
theorem dX3_numberUpTo_1 : decode cX3_numberUpTo 1 = .ok (.getfield 74, 3) := sdX3_numberUpTo_0.2.1
theorem dX3_numberUpTo_4 : decode cX3_numberUpTo 4 = .ok (.iconst 2, 1) := sdX3_numberUpTo_0.2.2.1
theorem dX3_numberUpTo_5 : decode cX3_numberUpTo 5 = .ok (.if_icmp .eq 9, 3) := sdX3_numberUpTo_0.2.2.2.1
theorem dX3_numberUpTo_8 : decode cX3_numberUpTo 8 = .ok (.aload_n 0, 1) := sdX3_numberUpTo_0.2.2.2.2.1
theorem dX3_numberUpTo_9 : decode cX3_numberUpTo 9 = .ok (.iconst 2, 1) := sdX3_numberUpTo_0.2.2.2.2.2.1
theorem dX3_numberUpTo_10 : decode cX3_numberUpTo 10 = .ok (.invokevirtual 148, 3) := sdX3_numberUpTo_0.2.2.2.2.2.2.1
theorem dX3_numberUpTo_13 : decode cX3_numberUpTo 13 = .ok (.ireturn, 1) := sdX3_numberUpTo_0.2.2.2.2.2.2.2.1
theorem sdX3_numberUpTo_14 : dz_Seg cX3_numberUpTo [(14, .aload_n 0, 1), (15, .getfield 110, 3), (18, .iload_n 1, 1), (19, .if_icmp .le 9, 3), (22, .aload_n 0, 1), (23, .iconst 3, 1), (24, .invokevirtual 148, 3), (27, .ireturn, 1)] := dz_sg _ 14 (by decide +kernel)
theorem dX3_numberUpTo_14 : decode cX3_numberUpTo 14 = .ok (.aload_n 0, 1) := sdX3_numberUpTo_14.1
theorem dX3_numberUpTo_15 : decode cX3_numberUpTo 15 = .ok (.getfield 110, 3) := sdX3_numberUpTo_14.2.1
theorem dX3_numberUpTo_18 : decode cX3_numberUpTo 18 = .ok (.iload_n 1, 1) := sdX3_numberUpTo_14.2.2.1
theorem dX3_numberUpTo_19 : decode cX3_numberUpTo 19 = .ok (.if_icmp .le 9, 3) := sdX3_numberUpTo_14.2.2.2.1
theorem dX3_numberUpTo_22 : decode cX3_numberUpTo 22 = .ok (.aload_n 0, 1) := sdX3_numberUpTo_14.2.2.2.2.1
theorem dX3_numberUpTo_23 : decode cX3_numberUpTo 23 = .ok (.iconst 3, 1) := sdX3_numberUpTo_14.2.2.2.2.2.1
theorem dX3_numberUpTo_24 : decode cX3_numberUpTo 24 = .ok (.invokevirtual 148, 3) := sdX3_numberUpTo_14.2.2.2.2.2.2.1
theorem dX3_numberUpTo_27 : decode cX3_numberUpTo 27 = .ok (.ireturn, 1) := sdX3_numberUpTo_14.2.2.2.2.2.2.2.1
theorem sdX3_numberUpTo_28 : dz_Seg cX3_numberUpTo [(28, .aload_n 0, 1), (29, .invokevirtual 71, 3), (32, .iconst 1, 1), (33, .ireturn, 1)] := dz_sg _ 28 (by decide +kernel)
theorem dX3_numberUpTo_28 : decode cX3_numberUpTo 28 = .ok (.aload_n 0, 1) := sdX3_numberUpTo_28.1
theorem dX3_numberUpTo_29 : decode cX3_numberUpTo 29 = .ok (.invokevirtual 71, 3) := sdX3_numberUpTo_28.2.1
theorem dX3_numberUpTo_32 : decode cX3_numberUpTo 32 = .ok (.iconst 1, 1) := sdX3_numberUpTo_28.2.2.1
theorem dX3_numberUpTo_33 : decode cX3_numberUpTo 33 = .ok (.ireturn, 1) := sdX3_numberUpTo_28.2.2.2.1
theorem sdX3_endOfLine_0 : dz_Seg cX3_endOfLine [(0, .aload_n 0, 1), (1, .getfield 74, 3), (4, .iconst 3, 1), (5, .if_icmp .eq 9, 3), (8, .aload_n 0, 1), (9, .iconst 2, 1), (10, .invokevirtual 148, 3), (13, .ireturn, 1)] := dz_sg _ 0 (by decide +kernel)
theorem dX3_endOfLine_0 : decode cX3_endOfLine 0 = .ok (.aload_n 0, 1) := sdX3_endOfLine_0.1
theorem dX3_endOfLine_1 : decode cX3_endOfLine 1 = .ok (.getfield 74, 3) := sdX3_endOfLine_0.2.1
theorem dX3_endOfLine_4 : decode cX3_endOfLine 4 = .ok (.iconst 3, 1) := sdX3_endOfLine_0.2.2.1
theorem dX3_endOfLine_5 : decode cX3_endOfLine 5 = .ok (.if_icmp .eq 9, 3) := sdX3_endOfLine_0.2.2.2.1
theorem dX3_endOfLine_8 : decode cX3_endOfLine 8 = .ok (.aload_n 0, 1) := sdX3_endOfLine_0.2.2.2.2.1
theorem dX3_endOfLine_9 : decode cX3_endOfLine 9 = .ok (.iconst 2, 1) := sdX3_endOfLine_0.2.2.2.2.2.1
theorem dX3_endOfLine_10 : decode cX3_endOfLine 10 = .ok (.invokevirtual 148, 3) := sdX3_endOfLine_0.2.2.2.2.2.2.1
theorem dX3_endOfLine_13 : decode cX3_endOfLine 13 = .ok (.ireturn, 1) := sdX3_endOfLine_0.2.2.2.2.2.2.2.1
theorem sdX3_endOfLine_14 : dz_Seg cX3_endOfLine [(14, .aload_n 0, 1), (15, .invokevirtual 71, 3), (18, .iconst 1, 1), (19, .ireturn, 1)] := dz_sg _ 14 (by decide +kernel)
theorem dX3_endOfLine_14 : decode cX3_endOfLine 14 = .ok (.aload_n 0, 1) := sdX3_endOfLine_14.1
theorem dX3_endOfLine_15 : decode cX3_endOfLine 15 = .ok (.invokevirtual 71, 3) := sdX3_endOfLine_14.2.1
theorem dX3_endOfLine_18 : decode cX3_endOfLine 18 = .ok (.iconst 1, 1) := sdX3_endOfLine_14.2.2.1
theorem dX3_endOfLine_19 : decode cX3_endOfLine 19 = .ok (.ireturn, 1) := sdX3_endOfLine_14.2.2.2.1
theorem sdX3_find_0 : dz_Seg cX3_find [(0, .iconst 0, 1), (1, .istore 4, 2), (3, .iload 4, 2), (5, .iload_n 1, 1), (6, .if_icmp .ge 23, 3), (9, .aload_n 0, 1), (10, .iload 4, 2), (12, .invokestatic 246, 3)] := dz_sg _ 0 (by decide +kernel)
theorem dX3_find_0 : decode cX3_find 0 = .ok (.iconst 0, 1) := sdX3_find_0.1
theorem dX3_find_1 : decode cX3_find 1 = .ok (.istore 4, 2) := sdX3_find_0.2.1
theorem dX3_find_3 : decode cX3_find 3 = .ok (.iload 4, 2) := sdX3_find_0.2.2.1
theorem dX3_find_5 : decode cX3_find 5 = .ok (.iload_n 1, 1) := sdX3_find_0.2.2.2.1
theorem dX3_find_6 : decode cX3_find 6 = .ok (.if_icmp .ge 23, 3) := sdX3_find_0.2.2.2.2.1
theorem dX3_find_9 : decode cX3_find 9 = .ok (.aload_n 0, 1) := sdX3_find_0.2.2.2.2.2.1
theorem dX3_find_10 : decode cX3_find 10 = .ok (.iload 4, 2) := sdX3_find_0.2.2.2.2.2.2.1
theorem dX3_find_12 : decode cX3_find 12 = .ok (.invokestatic 246, 3) := sdX3_find_0.2.2.2.2.2.2.2.1
theorem sdX3_find_15 : dz_Seg cX3_find [(15, .lload_n 2, 1), (16, .lcmp, 1), (17, .ifCond .ne 6, 3), (20, .iload 4, 2), (22, .ireturn, 1), (23, .iinc 4 1, 3), (26, .goto (-23), 3), (29, .iconst (-1), 1)] := dz_sg _ 15 (by decide +kernel)
theorem dX3_find_15 : decode cX3_find 15 = .ok (.lload_n 2, 1) := sdX3_find_15.1
theorem dX3_find_16 : decode cX3_find 16 = .ok (.lcmp, 1) := sdX3_find_15.2.1
theorem dX3_find_17 : decode cX3_find 17 = .ok (.ifCond .ne 6, 3) := sdX3_find_15.2.2.1
theorem dX3_find_20 : decode cX3_find 20 = .ok (.iload 4, 2) := sdX3_find_15.2.2.2.1
theorem dX3_find_22 : decode cX3_find 22 = .ok (.ireturn, 1) := sdX3_find_15.2.2.2.2.1
theorem dX3_find_23 : decode cX3_find 23 = .ok (.iinc 4 1, 3) := sdX3_find_15.2.2.2.2.2.1
theorem dX3_find_26 : decode cX3_find 26 = .ok (.goto (-23), 3) := sdX3_find_15.2.2.2.2.2.2.1
theorem dX3_find_29 : decode cX3_find 29 = .ok (.iconst (-1), 1) := sdX3_find_15.2.2.2.2.2.2.2.1
theorem sdX3_find_30 : dz_Seg cX3_find [(30, .ireturn, 1)] := dz_sg _ 30 (by decide +kernel)
theorem dX3_find_30 : decode cX3_find 30 = .ok (.ireturn, 1) := sdX3_find_30.1
theorem sdX3_isTaken_0 : dz_Seg cX3_isTaken [(0, .aload_n 0, 1), (1, .getfield 29, 3), (4, .aload_n 0, 1), (5, .getfield 12, 3), (8, .getfield 142, 3), (11, .lload_n 1, 1), (12, .invokestatic 202, 3), (15, .iconst (-1), 1)] := dz_sg _ 0 (by decide +kernel)
theorem dX3_isTaken_0 : decode cX3_isTaken 0 = .ok (.aload_n 0, 1) := sdX3_isTaken_0.1
theorem dX3_isTaken_1 : decode cX3_isTaken 1 = .ok (.getfield 29, 3) := sdX3_isTaken_0.2.1
theorem dX3_isTaken_4 : decode cX3_isTaken 4 = .ok (.aload_n 0, 1) := sdX3_isTaken_0.2.2.1
theorem dX3_isTaken_5 : decode cX3_isTaken 5 = .ok (.getfield 12, 3) := sdX3_isTaken_0.2.2.2.1
theorem dX3_isTaken_8 : decode cX3_isTaken 8 = .ok (.getfield 142, 3) := sdX3_isTaken_0.2.2.2.2.1
theorem dX3_isTaken_11 : decode cX3_isTaken 11 = .ok (.lload_n 1, 1) := sdX3_isTaken_0.2.2.2.2.2.1
theorem dX3_isTaken_12 : decode cX3_isTaken 12 = .ok (.invokestatic 202, 3) := sdX3_isTaken_0.2.2.2.2.2.2.1
theorem dX3_isTaken_15 : decode cX3_isTaken 15 = .ok (.iconst (-1), 1) := sdX3_isTaken_0.2.2.2.2.2.2.2.1
theorem sdX3_isTaken_16 : dz_Seg cX3_isTaken [(16, .if_icmp .ne 41, 3), (19, .aload_n 0, 1), (20, .getfield 33, 3), (23, .aload_n 0, 1), (24, .getfield 12, 3), (27, .getfield 151, 3), (30, .lload_n 1, 1), (31, .invokestatic 202, 3)] := dz_sg _ 16 (by decide +kernel)
theorem dX3_isTaken_16 : decode cX3_isTaken 16 = .ok (.if_icmp .ne 41, 3) := sdX3_isTaken_16.1
theorem dX3_isTaken_19 : decode cX3_isTaken 19 = .ok (.aload_n 0, 1) := sdX3_isTaken_16.2.1
theorem dX3_isTaken_20 : decode cX3_isTaken 20 = .ok (.getfield 33, 3) := sdX3_isTaken_16.2.2.1
theorem dX3_isTaken_23 : decode cX3_isTaken 23 = .ok (.aload_n 0, 1) := sdX3_isTaken_16.2.2.2.1
theorem dX3_isTaken_24 : decode cX3_isTaken 24 = .ok (.getfield 12, 3) := sdX3_isTaken_16.2.2.2.2.1
theorem dX3_isTaken_27 : decode cX3_isTaken 27 = .ok (.getfield 151, 3) := sdX3_isTaken_16.2.2.2.2.2.1
theorem dX3_isTaken_30 : decode cX3_isTaken 30 = .ok (.lload_n 1, 1) := sdX3_isTaken_16.2.2.2.2.2.2.1
theorem dX3_isTaken_31 : decode cX3_isTaken 31 = .ok (.invokestatic 202, 3) := sdX3_isTaken_16.2.2.2.2.2.2.2.1
theorem sdX3_isTaken_34 : dz_Seg cX3_isTaken [(34, .iconst (-1), 1), (35, .if_icmp .ne 22, 3), (38, .aload_n 0, 1), (39, .getfield 36, 3), (42, .aload_n 0, 1), (43, .getfield 12, 3), (46, .getfield 157, 3), (49, .lload_n 1, 1)] := dz_sg _ 34 (by decide +kernel)
theorem dX3_isTaken_34 : decode cX3_isTaken 34 = .ok (.iconst (-1), 1) := sdX3_isTaken_34.1
theorem dX3_isTaken_35 : decode cX3_isTaken 35 = .ok (.if_icmp .ne 22, 3) := sdX3_isTaken_34.2.1
theorem dX3_isTaken_38 : decode cX3_isTaken 38 = .ok (.aload_n 0, 1) := sdX3_isTaken_34.2.2.1
theorem dX3_isTaken_39 : decode cX3_isTaken 39 = .ok (.getfield 36, 3) := sdX3_isTaken_34.2.2.2.1
theorem dX3_isTaken_42 : decode cX3_isTaken 42 = .ok (.aload_n 0, 1) := sdX3_isTaken_34.2.2.2.2.1
theorem dX3_isTaken_43 : decode cX3_isTaken 43 = .ok (.getfield 12, 3) := sdX3_isTaken_34.2.2.2.2.2.1
theorem dX3_isTaken_46 : decode cX3_isTaken 46 = .ok (.getfield 157, 3) := sdX3_isTaken_34.2.2.2.2.2.2.1
theorem dX3_isTaken_49 : decode cX3_isTaken 49 = .ok (.lload_n 1, 1) := sdX3_isTaken_34.2.2.2.2.2.2.2.1
theorem sdX3_isTaken_50 : dz_Seg cX3_isTaken [(50, .invokestatic 202, 3), (53, .iconst (-1), 1), (54, .if_icmp .eq 7, 3), (57, .iconst 1, 1), (58, .goto 4, 3), (61, .iconst 0, 1), (62, .ireturn, 1)] := dz_sg _ 50 (by decide +kernel)
theorem dX3_isTaken_50 : decode cX3_isTaken 50 = .ok (.invokestatic 202, 3) := sdX3_isTaken_50.1
theorem dX3_isTaken_53 : decode cX3_isTaken 53 = .ok (.iconst (-1), 1) := sdX3_isTaken_50.2.1
theorem dX3_isTaken_54 : decode cX3_isTaken 54 = .ok (.if_icmp .eq 7, 3) := sdX3_isTaken_50.2.2.1
theorem dX3_isTaken_57 : decode cX3_isTaken 57 = .ok (.iconst 1, 1) := sdX3_isTaken_50.2.2.2.1
theorem dX3_isTaken_58 : decode cX3_isTaken 58 = .ok (.goto 4, 3) := sdX3_isTaken_50.2.2.2.2.1
theorem dX3_isTaken_61 : decode cX3_isTaken 61 = .ok (.iconst 0, 1) := sdX3_isTaken_50.2.2.2.2.2.1
theorem dX3_isTaken_62 : decode cX3_isTaken 62 = .ok (.ireturn, 1) := sdX3_isTaken_50.2.2.2.2.2.2.1
theorem sdX3_isFree_0 : dz_Seg cX3_isFree [(0, .iload_n 1, 1), (1, .iconst (-1), 1), (2, .if_icmp .eq 36, 3), (5, .aload_n 0, 1), (6, .getfield 12, 3), (9, .getfield 250, 3), (12, .iload_n 1, 1), (13, .invokestatic 81, 3)] := dz_sg _ 0 (by decide +kernel)
theorem dX3_isFree_0 : decode cX3_isFree 0 = .ok (.iload_n 1, 1) := sdX3_isFree_0.1
theorem dX3_isFree_1 : decode cX3_isFree 1 = .ok (.iconst (-1), 1) := sdX3_isFree_0.2.1
theorem dX3_isFree_2 : decode cX3_isFree 2 = .ok (.if_icmp .eq 36, 3) := sdX3_isFree_0.2.2.1
theorem dX3_isFree_5 : decode cX3_isFree 5 = .ok (.aload_n 0, 1) := sdX3_isFree_0.2.2.2.1
theorem dX3_isFree_6 : decode cX3_isFree 6 = .ok (.getfield 12, 3) := sdX3_isFree_0.2.2.2.2.1
theorem dX3_isFree_9 : decode cX3_isFree 9 = .ok (.getfield 250, 3) := sdX3_isFree_0.2.2.2.2.2.1
theorem dX3_isFree_12 : decode cX3_isFree 12 = .ok (.iload_n 1, 1) := sdX3_isFree_0.2.2.2.2.2.2.1
theorem dX3_isFree_13 : decode cX3_isFree 13 = .ok (.invokestatic 81, 3) := sdX3_isFree_0.2.2.2.2.2.2.2.1
theorem sdX3_isFree_16 : dz_Seg cX3_isFree [(16, .iconst (-1), 1), (17, .if_icmp .ne 21, 3), (20, .aload_n 0, 1), (21, .getfield 12, 3), (24, .getfield 252, 3), (27, .iload_n 1, 1), (28, .invokestatic 81, 3), (31, .ifCond .ne 7, 3)] := dz_sg _ 16 (by decide +kernel)
theorem dX3_isFree_16 : decode cX3_isFree 16 = .ok (.iconst (-1), 1) := sdX3_isFree_16.1
theorem dX3_isFree_17 : decode cX3_isFree 17 = .ok (.if_icmp .ne 21, 3) := sdX3_isFree_16.2.1
theorem dX3_isFree_20 : decode cX3_isFree 20 = .ok (.aload_n 0, 1) := sdX3_isFree_16.2.2.1
theorem dX3_isFree_21 : decode cX3_isFree 21 = .ok (.getfield 12, 3) := sdX3_isFree_16.2.2.2.1
theorem dX3_isFree_24 : decode cX3_isFree 24 = .ok (.getfield 252, 3) := sdX3_isFree_16.2.2.2.2.1
theorem dX3_isFree_27 : decode cX3_isFree 27 = .ok (.iload_n 1, 1) := sdX3_isFree_16.2.2.2.2.2.1
theorem dX3_isFree_28 : decode cX3_isFree 28 = .ok (.invokestatic 81, 3) := sdX3_isFree_16.2.2.2.2.2.2.1
theorem dX3_isFree_31 : decode cX3_isFree 31 = .ok (.ifCond .ne 7, 3) := sdX3_isFree_16.2.2.2.2.2.2.2.1
theorem sdX3_isFree_34 : dz_Seg cX3_isFree [(34, .iconst 1, 1), (35, .goto 4, 3), (38, .iconst 0, 1), (39, .ireturn, 1)] := dz_sg _ 34 (by decide +kernel)
theorem dX3_isFree_34 : decode cX3_isFree 34 = .ok (.iconst 1, 1) := sdX3_isFree_34.1
theorem dX3_isFree_35 : decode cX3_isFree 35 = .ok (.goto 4, 3) := sdX3_isFree_34.2.1
theorem dX3_isFree_38 : decode cX3_isFree 38 = .ok (.iconst 0, 1) := sdX3_isFree_34.2.2.1
theorem dX3_isFree_39 : decode cX3_isFree 39 = .ok (.ireturn, 1) := sdX3_isFree_34.2.2.2.1
theorem sdX3_asker_0 : dz_Seg cX3_asker [(0, .aload_n 0, 1), (1, .getfield 33, 3), (4, .aload_n 0, 1), (5, .getfield 12, 3), (8, .getfield 151, 3), (11, .aload_n 0, 1), (12, .getfield 104, 3), (15, .invokestatic 202, 3)] := dz_sg _ 0 (by decide +kernel)
theorem dX3_asker_0 : decode cX3_asker 0 = .ok (.aload_n 0, 1) := sdX3_asker_0.1
theorem dX3_asker_1 : decode cX3_asker 1 = .ok (.getfield 33, 3) := sdX3_asker_0.2.1
theorem dX3_asker_4 : decode cX3_asker 4 = .ok (.aload_n 0, 1) := sdX3_asker_0.2.2.1
theorem dX3_asker_5 : decode cX3_asker 5 = .ok (.getfield 12, 3) := sdX3_asker_0.2.2.2.1
theorem dX3_asker_8 : decode cX3_asker 8 = .ok (.getfield 151, 3) := sdX3_asker_0.2.2.2.2.1
theorem dX3_asker_11 : decode cX3_asker 11 = .ok (.aload_n 0, 1) := sdX3_asker_0.2.2.2.2.2.1
theorem dX3_asker_12 : decode cX3_asker 12 = .ok (.getfield 104, 3) := sdX3_asker_0.2.2.2.2.2.2.1
theorem dX3_asker_15 : decode cX3_asker 15 = .ok (.invokestatic 202, 3) := sdX3_asker_0.2.2.2.2.2.2.2.1
theorem sdX3_asker_18 : dz_Seg cX3_asker [(18, .istore_n 1, 1), (19, .aload_n 0, 1), (20, .iload_n 1, 1), (21, .invokevirtual 206, 3), (24, .ifCond .eq 7, 3), (27, .iconst 1, 1), (28, .iload_n 1, 1), (29, .ishl, 1)] := dz_sg _ 18 (by decide +kernel)
theorem dX3_asker_18 : decode cX3_asker 18 = .ok (.istore_n 1, 1) := sdX3_asker_18.1
theorem dX3_asker_19 : decode cX3_asker 19 = .ok (.aload_n 0, 1) := sdX3_asker_18.2.1
theorem dX3_asker_20 : decode cX3_asker 20 = .ok (.iload_n 1, 1) := sdX3_asker_18.2.2.1
theorem dX3_asker_21 : decode cX3_asker 21 = .ok (.invokevirtual 206, 3) := sdX3_asker_18.2.2.2.1
theorem dX3_asker_24 : decode cX3_asker 24 = .ok (.ifCond .eq 7, 3) := sdX3_asker_18.2.2.2.2.1
theorem dX3_asker_27 : decode cX3_asker 27 = .ok (.iconst 1, 1) := sdX3_asker_18.2.2.2.2.2.1
theorem dX3_asker_28 : decode cX3_asker 28 = .ok (.iload_n 1, 1) := sdX3_asker_18.2.2.2.2.2.2.1
theorem dX3_asker_29 : decode cX3_asker 29 = .ok (.ishl, 1) := sdX3_asker_18.2.2.2.2.2.2.2.1
theorem sdX3_asker_30 : dz_Seg cX3_asker [(30, .ireturn, 1), (31, .aload_n 0, 1), (32, .getfield 36, 3), (35, .aload_n 0, 1), (36, .getfield 12, 3), (39, .getfield 157, 3), (42, .aload_n 0, 1), (43, .getfield 104, 3)] := dz_sg _ 30 (by decide +kernel)
theorem dX3_asker_30 : decode cX3_asker 30 = .ok (.ireturn, 1) := sdX3_asker_30.1
theorem dX3_asker_31 : decode cX3_asker 31 = .ok (.aload_n 0, 1) := sdX3_asker_30.2.1
theorem dX3_asker_32 : decode cX3_asker 32 = .ok (.getfield 36, 3) := sdX3_asker_30.2.2.1
theorem dX3_asker_35 : decode cX3_asker 35 = .ok (.aload_n 0, 1) := sdX3_asker_30.2.2.2.1
theorem dX3_asker_36 : decode cX3_asker 36 = .ok (.getfield 12, 3) := sdX3_asker_30.2.2.2.2.1
theorem dX3_asker_39 : decode cX3_asker 39 = .ok (.getfield 157, 3) := sdX3_asker_30.2.2.2.2.2.1
theorem dX3_asker_42 : decode cX3_asker 42 = .ok (.aload_n 0, 1) := sdX3_asker_30.2.2.2.2.2.2.1
theorem dX3_asker_43 : decode cX3_asker 43 = .ok (.getfield 104, 3) := sdX3_asker_30.2.2.2.2.2.2.2.1
theorem sdX3_asker_46 : dz_Seg cX3_asker [(46, .invokestatic 202, 3), (49, .istore_n 2, 1), (50, .iconst 0, 1), (51, .istore_n 3, 1), (52, .iconst 0, 1), (53, .istore 4, 2), (55, .iload_n 2, 1), (56, .iconst (-1), 1)] := dz_sg _ 46 (by decide +kernel)
theorem dX3_asker_46 : decode cX3_asker 46 = .ok (.invokestatic 202, 3) := sdX3_asker_46.1
theorem dX3_asker_49 : decode cX3_asker 49 = .ok (.istore_n 2, 1) := sdX3_asker_46.2.1
theorem dX3_asker_50 : decode cX3_asker 50 = .ok (.iconst 0, 1) := sdX3_asker_46.2.2.1
theorem dX3_asker_51 : decode cX3_asker 51 = .ok (.istore_n 3, 1) := sdX3_asker_46.2.2.2.1
theorem dX3_asker_52 : decode cX3_asker 52 = .ok (.iconst 0, 1) := sdX3_asker_46.2.2.2.2.1
theorem dX3_asker_53 : decode cX3_asker 53 = .ok (.istore 4, 2) := sdX3_asker_46.2.2.2.2.2.1
theorem dX3_asker_55 : decode cX3_asker 55 = .ok (.iload_n 2, 1) := sdX3_asker_46.2.2.2.2.2.2.1
theorem dX3_asker_56 : decode cX3_asker 56 = .ok (.iconst (-1), 1) := sdX3_asker_46.2.2.2.2.2.2.2.1
theorem sdX3_asker_57 : dz_Seg cX3_asker [(57, .if_icmp .eq 59, 3), (60, .iload 4, 2), (62, .aload_n 0, 1), (63, .getfield 12, 3), (66, .getfield 151, 3), (69, .if_icmp .ge 47, 3), (72, .aload_n 0, 1), (73, .getfield 12, 3)] := dz_sg _ 57 (by decide +kernel)
theorem dX3_asker_57 : decode cX3_asker 57 = .ok (.if_icmp .eq 59, 3) := sdX3_asker_57.1
theorem dX3_asker_60 : decode cX3_asker 60 = .ok (.iload 4, 2) := sdX3_asker_57.2.1
theorem dX3_asker_62 : decode cX3_asker 62 = .ok (.aload_n 0, 1) := sdX3_asker_57.2.2.1
theorem dX3_asker_63 : decode cX3_asker 63 = .ok (.getfield 12, 3) := sdX3_asker_57.2.2.2.1
theorem dX3_asker_66 : decode cX3_asker 66 = .ok (.getfield 151, 3) := sdX3_asker_57.2.2.2.2.1
theorem dX3_asker_69 : decode cX3_asker 69 = .ok (.if_icmp .ge 47, 3) := sdX3_asker_57.2.2.2.2.2.1
theorem dX3_asker_72 : decode cX3_asker 72 = .ok (.aload_n 0, 1) := sdX3_asker_57.2.2.2.2.2.2.1
theorem dX3_asker_73 : decode cX3_asker 73 = .ok (.getfield 12, 3) := sdX3_asker_57.2.2.2.2.2.2.2.1
theorem sdX3_asker_76 : dz_Seg cX3_asker [(76, .getfield 250, 3), (79, .iload 4, 2), (81, .invokestatic 81, 3), (84, .iload_n 2, 1), (85, .if_icmp .ne 25, 3), (88, .aload_n 0, 1), (89, .getfield 12, 3), (92, .getfield 252, 3)] := dz_sg _ 76 (by decide +kernel)
theorem dX3_asker_76 : decode cX3_asker 76 = .ok (.getfield 250, 3) := sdX3_asker_76.1
theorem dX3_asker_79 : decode cX3_asker 79 = .ok (.iload 4, 2) := sdX3_asker_76.2.1
theorem dX3_asker_81 : decode cX3_asker 81 = .ok (.invokestatic 81, 3) := sdX3_asker_76.2.2.1
theorem dX3_asker_84 : decode cX3_asker 84 = .ok (.iload_n 2, 1) := sdX3_asker_76.2.2.2.1
theorem dX3_asker_85 : decode cX3_asker 85 = .ok (.if_icmp .ne 25, 3) := sdX3_asker_76.2.2.2.2.1
theorem dX3_asker_88 : decode cX3_asker 88 = .ok (.aload_n 0, 1) := sdX3_asker_76.2.2.2.2.2.1
theorem dX3_asker_89 : decode cX3_asker 89 = .ok (.getfield 12, 3) := sdX3_asker_76.2.2.2.2.2.2.1
theorem dX3_asker_92 : decode cX3_asker 92 = .ok (.getfield 252, 3) := sdX3_asker_76.2.2.2.2.2.2.2.1
theorem sdX3_asker_95 : dz_Seg cX3_asker [(95, .iload 4, 2), (97, .invokestatic 81, 3), (100, .ifCond .ne 10, 3), (103, .iload_n 3, 1), (104, .iconst 1, 1), (105, .iload 4, 2), (107, .ishl, 1), (108, .ior, 1)] := dz_sg _ 95 (by decide +kernel)
theorem dX3_asker_95 : decode cX3_asker 95 = .ok (.iload 4, 2) := sdX3_asker_95.1
theorem dX3_asker_97 : decode cX3_asker 97 = .ok (.invokestatic 81, 3) := sdX3_asker_95.2.1
theorem dX3_asker_100 : decode cX3_asker 100 = .ok (.ifCond .ne 10, 3) := sdX3_asker_95.2.2.1
theorem dX3_asker_103 : decode cX3_asker 103 = .ok (.iload_n 3, 1) := sdX3_asker_95.2.2.2.1
theorem dX3_asker_104 : decode cX3_asker 104 = .ok (.iconst 1, 1) := sdX3_asker_95.2.2.2.2.1
theorem dX3_asker_105 : decode cX3_asker 105 = .ok (.iload 4, 2) := sdX3_asker_95.2.2.2.2.2.1
theorem dX3_asker_107 : decode cX3_asker 107 = .ok (.ishl, 1) := sdX3_asker_95.2.2.2.2.2.2.1
theorem dX3_asker_108 : decode cX3_asker 108 = .ok (.ior, 1) := sdX3_asker_95.2.2.2.2.2.2.2.1
theorem sdX3_asker_109 : dz_Seg cX3_asker [(109, .istore_n 3, 1), (110, .iinc 4 1, 3), (113, .goto (-58), 3), (116, .iload_n 3, 1), (117, .ireturn, 1)] := dz_sg _ 109 (by decide +kernel)
theorem dX3_asker_109 : decode cX3_asker 109 = .ok (.istore_n 3, 1) := sdX3_asker_109.1
theorem dX3_asker_110 : decode cX3_asker 110 = .ok (.iinc 4 1, 3) := sdX3_asker_109.2.1
theorem dX3_asker_113 : decode cX3_asker 113 = .ok (.goto (-58), 3) := sdX3_asker_109.2.2.1
theorem dX3_asker_116 : decode cX3_asker 116 = .ok (.iload_n 3, 1) := sdX3_asker_109.2.2.2.1
theorem dX3_asker_117 : decode cX3_asker 117 = .ok (.ireturn, 1) := sdX3_asker_109.2.2.2.2.1
theorem sdX4_init_0 : dz_Seg cX4_init [(0, .aload_n 0, 1), (1, .invokespecial 3, 3), (4, .aload_n 0, 1), (5, .iconst 5, 1), (6, .newarray .int, 2), (8, .putfield 9, 3), (11, .aload_n 0, 1), (12, .bipush 10, 2)] := dz_sg _ 0 (by decide +kernel)
theorem dX4_init_0 : decode cX4_init 0 = .ok (.aload_n 0, 1) := sdX4_init_0.1
theorem dX4_init_1 : decode cX4_init 1 = .ok (.invokespecial 3, 3) := sdX4_init_0.2.1
theorem dX4_init_4 : decode cX4_init 4 = .ok (.aload_n 0, 1) := sdX4_init_0.2.2.1
theorem dX4_init_5 : decode cX4_init 5 = .ok (.iconst 5, 1) := sdX4_init_0.2.2.2.1
theorem dX4_init_6 : decode cX4_init 6 = .ok (.newarray .int, 2) := sdX4_init_0.2.2.2.2.1
theorem dX4_init_8 : decode cX4_init 8 = .ok (.putfield 9, 3) := sdX4_init_0.2.2.2.2.2.1
theorem dX4_init_11 : decode cX4_init 11 = .ok (.aload_n 0, 1) := sdX4_init_0.2.2.2.2.2.2.1
theorem dX4_init_12 : decode cX4_init 12 = .ok (.bipush 10, 2) := sdX4_init_0.2.2.2.2.2.2.2.1
theorem sdX4_init_14 : dz_Seg cX4_init [(14, .newarray .int, 2), (16, .putfield 15, 3), (19, .aload_n 0, 1), (20, .bipush 10, 2), (22, .newarray .int, 2), (24, .putfield 18, 3), (27, .aload_n 0, 1), (28, .bipush 10, 2)] := dz_sg _ 14 (by decide +kernel)
theorem dX4_init_14 : decode cX4_init 14 = .ok (.newarray .int, 2) := sdX4_init_14.1
theorem dX4_init_16 : decode cX4_init 16 = .ok (.putfield 15, 3) := sdX4_init_14.2.1
theorem dX4_init_19 : decode cX4_init 19 = .ok (.aload_n 0, 1) := sdX4_init_14.2.2.1
theorem dX4_init_20 : decode cX4_init 20 = .ok (.bipush 10, 2) := sdX4_init_14.2.2.2.1
theorem dX4_init_22 : decode cX4_init 22 = .ok (.newarray .int, 2) := sdX4_init_14.2.2.2.2.1
theorem dX4_init_24 : decode cX4_init 24 = .ok (.putfield 18, 3) := sdX4_init_14.2.2.2.2.2.1
theorem dX4_init_27 : decode cX4_init 27 = .ok (.aload_n 0, 1) := sdX4_init_14.2.2.2.2.2.2.1
theorem dX4_init_28 : decode cX4_init 28 = .ok (.bipush 10, 2) := sdX4_init_14.2.2.2.2.2.2.2.1
theorem sdX4_init_30 : dz_Seg cX4_init [(30, .newarray .int, 2), (32, .putfield 21, 3), (35, .aload_n 0, 1), (36, .bipush 10, 2), (38, .newarray .int, 2), (40, .putfield 24, 3), (43, .aload_n 0, 1), (44, .bipush 30, 2)] := dz_sg _ 30 (by decide +kernel)
theorem dX4_init_30 : decode cX4_init 30 = .ok (.newarray .int, 2) := sdX4_init_30.1
theorem dX4_init_32 : decode cX4_init 32 = .ok (.putfield 21, 3) := sdX4_init_30.2.1
theorem dX4_init_35 : decode cX4_init 35 = .ok (.aload_n 0, 1) := sdX4_init_30.2.2.1
theorem dX4_init_36 : decode cX4_init 36 = .ok (.bipush 10, 2) := sdX4_init_30.2.2.2.1
theorem dX4_init_38 : decode cX4_init 38 = .ok (.newarray .int, 2) := sdX4_init_30.2.2.2.2.1
theorem dX4_init_40 : decode cX4_init 40 = .ok (.putfield 24, 3) := sdX4_init_30.2.2.2.2.2.1
theorem dX4_init_43 : decode cX4_init 43 = .ok (.aload_n 0, 1) := sdX4_init_30.2.2.2.2.2.2.1
theorem dX4_init_44 : decode cX4_init 44 = .ok (.bipush 30, 2) := sdX4_init_30.2.2.2.2.2.2.2.1
theorem sdX4_init_46 : dz_Seg cX4_init [(46, .newarray .int, 2), (48, .putfield 27, 3), (51, .aload_n 0, 1), (52, .bipush 10, 2), (54, .newarray .int, 2), (56, .putfield 30, 3), (59, .return_, 1)] := dz_sg _ 46 (by decide +kernel)
theorem dX4_init_46 : decode cX4_init 46 = .ok (.newarray .int, 2) := sdX4_init_46.1
theorem dX4_init_48 : decode cX4_init 48 = .ok (.putfield 27, 3) := sdX4_init_46.2.1
theorem dX4_init_51 : decode cX4_init 51 = .ok (.aload_n 0, 1) := sdX4_init_46.2.2.1
theorem dX4_init_52 : decode cX4_init 52 = .ok (.bipush 10, 2) := sdX4_init_46.2.2.2.1
theorem dX4_init_54 : decode cX4_init 54 = .ok (.newarray .int, 2) := sdX4_init_46.2.2.2.2.1
theorem dX4_init_56 : decode cX4_init 56 = .ok (.putfield 30, 3) := sdX4_init_46.2.2.2.2.2.1
theorem dX4_init_59 : decode cX4_init 59 = .ok (.return_, 1) := sdX4_init_46.2.2.2.2.2.2.1
theorem sdX4_clear_0 : dz_Seg cX4_clear [(0, .aload_n 0, 1), (1, .iconst 0, 1), (2, .putfield 33, 3), (5, .aload_n 0, 1), (6, .iconst 0, 1), (7, .putfield 37, 3), (10, .aload_n 0, 1), (11, .iconst 0, 1)] := dz_sg _ 0 (by decide +kernel)
theorem dX4_clear_0 : decode cX4_clear 0 = .ok (.aload_n 0, 1) := sdX4_clear_0.1
theorem dX4_clear_1 : decode cX4_clear 1 = .ok (.iconst 0, 1) := sdX4_clear_0.2.1
theorem dX4_clear_2 : decode cX4_clear 2 = .ok (.putfield 33, 3) := sdX4_clear_0.2.2.1
theorem dX4_clear_5 : decode cX4_clear 5 = .ok (.aload_n 0, 1) := sdX4_clear_0.2.2.2.1
theorem dX4_clear_6 : decode cX4_clear 6 = .ok (.iconst 0, 1) := sdX4_clear_0.2.2.2.2.1
theorem dX4_clear_7 : decode cX4_clear 7 = .ok (.putfield 37, 3) := sdX4_clear_0.2.2.2.2.2.1
theorem dX4_clear_10 : decode cX4_clear 10 = .ok (.aload_n 0, 1) := sdX4_clear_0.2.2.2.2.2.2.1
theorem dX4_clear_11 : decode cX4_clear 11 = .ok (.iconst 0, 1) := sdX4_clear_0.2.2.2.2.2.2.2.1
theorem sdX4_clear_12 : dz_Seg cX4_clear [(12, .putfield 40, 3), (15, .aload_n 0, 1), (16, .iconst 0, 1), (17, .putfield 43, 3), (20, .aload_n 0, 1), (21, .iconst 0, 1), (22, .putfield 46, 3), (25, .aload_n 0, 1)] := dz_sg _ 12 (by decide +kernel)
theorem dX4_clear_12 : decode cX4_clear 12 = .ok (.putfield 40, 3) := sdX4_clear_12.1
theorem dX4_clear_15 : decode cX4_clear 15 = .ok (.aload_n 0, 1) := sdX4_clear_12.2.1
theorem dX4_clear_16 : decode cX4_clear 16 = .ok (.iconst 0, 1) := sdX4_clear_12.2.2.1
theorem dX4_clear_17 : decode cX4_clear 17 = .ok (.putfield 43, 3) := sdX4_clear_12.2.2.2.1
theorem dX4_clear_20 : decode cX4_clear 20 = .ok (.aload_n 0, 1) := sdX4_clear_12.2.2.2.2.1
theorem dX4_clear_21 : decode cX4_clear 21 = .ok (.iconst 0, 1) := sdX4_clear_12.2.2.2.2.2.1
theorem dX4_clear_22 : decode cX4_clear 22 = .ok (.putfield 46, 3) := sdX4_clear_12.2.2.2.2.2.2.1
theorem dX4_clear_25 : decode cX4_clear 25 = .ok (.aload_n 0, 1) := sdX4_clear_12.2.2.2.2.2.2.2.1
theorem sdX4_clear_26 : dz_Seg cX4_clear [(26, .bipush 100, 2), (28, .putfield 49, 3), (31, .aload_n 0, 1), (32, .iconst 0, 1), (33, .putfield 52, 3), (36, .aload_n 0, 1), (37, .getfield 9, 3), (40, .iconst 0, 1)] := dz_sg _ 26 (by decide +kernel)
theorem dX4_clear_26 : decode cX4_clear 26 = .ok (.bipush 100, 2) := sdX4_clear_26.1
theorem dX4_clear_28 : decode cX4_clear 28 = .ok (.putfield 49, 3) := sdX4_clear_26.2.1
theorem dX4_clear_31 : decode cX4_clear 31 = .ok (.aload_n 0, 1) := sdX4_clear_26.2.2.1
theorem dX4_clear_32 : decode cX4_clear 32 = .ok (.iconst 0, 1) := sdX4_clear_26.2.2.2.1
theorem dX4_clear_33 : decode cX4_clear 33 = .ok (.putfield 52, 3) := sdX4_clear_26.2.2.2.2.1
theorem dX4_clear_36 : decode cX4_clear 36 = .ok (.aload_n 0, 1) := sdX4_clear_26.2.2.2.2.2.1
theorem dX4_clear_37 : decode cX4_clear 37 = .ok (.getfield 9, 3) := sdX4_clear_26.2.2.2.2.2.2.1
theorem dX4_clear_40 : decode cX4_clear 40 = .ok (.iconst 0, 1) := sdX4_clear_26.2.2.2.2.2.2.2.1
theorem sdX4_clear_41 : dz_Seg cX4_clear [(41, .invokestatic 55, 3), (44, .aload_n 0, 1), (45, .getfield 15, 3), (48, .iconst 0, 1), (49, .invokestatic 55, 3), (52, .aload_n 0, 1), (53, .getfield 18, 3), (56, .iconst 0, 1)] := dz_sg _ 41 (by decide +kernel)
theorem dX4_clear_41 : decode cX4_clear 41 = .ok (.invokestatic 55, 3) := sdX4_clear_41.1
theorem dX4_clear_44 : decode cX4_clear 44 = .ok (.aload_n 0, 1) := sdX4_clear_41.2.1
theorem dX4_clear_45 : decode cX4_clear 45 = .ok (.getfield 15, 3) := sdX4_clear_41.2.2.1
theorem dX4_clear_48 : decode cX4_clear 48 = .ok (.iconst 0, 1) := sdX4_clear_41.2.2.2.1
theorem dX4_clear_49 : decode cX4_clear 49 = .ok (.invokestatic 55, 3) := sdX4_clear_41.2.2.2.2.1
theorem dX4_clear_52 : decode cX4_clear 52 = .ok (.aload_n 0, 1) := sdX4_clear_41.2.2.2.2.2.1
theorem dX4_clear_53 : decode cX4_clear 53 = .ok (.getfield 18, 3) := sdX4_clear_41.2.2.2.2.2.2.1
theorem dX4_clear_56 : decode cX4_clear 56 = .ok (.iconst 0, 1) := sdX4_clear_41.2.2.2.2.2.2.2.1
theorem sdX4_clear_57 : dz_Seg cX4_clear [(57, .invokestatic 55, 3), (60, .aload_n 0, 1), (61, .getfield 21, 3), (64, .iconst (-1), 1), (65, .invokestatic 55, 3), (68, .aload_n 0, 1), (69, .getfield 24, 3), (72, .iconst 0, 1)] := dz_sg _ 57 (by decide +kernel)
theorem dX4_clear_57 : decode cX4_clear 57 = .ok (.invokestatic 55, 3) := sdX4_clear_57.1
theorem dX4_clear_60 : decode cX4_clear 60 = .ok (.aload_n 0, 1) := sdX4_clear_57.2.1
theorem dX4_clear_61 : decode cX4_clear 61 = .ok (.getfield 21, 3) := sdX4_clear_57.2.2.1
theorem dX4_clear_64 : decode cX4_clear 64 = .ok (.iconst (-1), 1) := sdX4_clear_57.2.2.2.1
theorem dX4_clear_65 : decode cX4_clear 65 = .ok (.invokestatic 55, 3) := sdX4_clear_57.2.2.2.2.1
theorem dX4_clear_68 : decode cX4_clear 68 = .ok (.aload_n 0, 1) := sdX4_clear_57.2.2.2.2.2.1
theorem dX4_clear_69 : decode cX4_clear 69 = .ok (.getfield 24, 3) := sdX4_clear_57.2.2.2.2.2.2.1
theorem dX4_clear_72 : decode cX4_clear 72 = .ok (.iconst 0, 1) := sdX4_clear_57.2.2.2.2.2.2.2.1
theorem sdX4_clear_73 : dz_Seg cX4_clear [(73, .invokestatic 55, 3), (76, .aload_n 0, 1), (77, .getfield 27, 3), (80, .iconst (-1), 1), (81, .invokestatic 55, 3), (84, .aload_n 0, 1), (85, .getfield 30, 3), (88, .iconst (-1), 1)] := dz_sg _ 73 (by decide +kernel)
theorem dX4_clear_73 : decode cX4_clear 73 = .ok (.invokestatic 55, 3) := sdX4_clear_73.1
theorem dX4_clear_76 : decode cX4_clear 76 = .ok (.aload_n 0, 1) := sdX4_clear_73.2.1
theorem dX4_clear_77 : decode cX4_clear 77 = .ok (.getfield 27, 3) := sdX4_clear_73.2.2.1
theorem dX4_clear_80 : decode cX4_clear 80 = .ok (.iconst (-1), 1) := sdX4_clear_73.2.2.2.1
theorem dX4_clear_81 : decode cX4_clear 81 = .ok (.invokestatic 55, 3) := sdX4_clear_73.2.2.2.2.1
theorem dX4_clear_84 : decode cX4_clear 84 = .ok (.aload_n 0, 1) := sdX4_clear_73.2.2.2.2.2.1
theorem dX4_clear_85 : decode cX4_clear 85 = .ok (.getfield 30, 3) := sdX4_clear_73.2.2.2.2.2.2.1
theorem dX4_clear_88 : decode cX4_clear 88 = .ok (.iconst (-1), 1) := sdX4_clear_73.2.2.2.2.2.2.2.1
theorem sdX4_clear_89 : dz_Seg cX4_clear [(89, .invokestatic 55, 3), (92, .return_, 1)] := dz_sg _ 89 (by decide +kernel)
theorem dX4_clear_89 : decode cX4_clear 89 = .ok (.invokestatic 55, 3) := sdX4_clear_89.1
theorem dX4_clear_92 : decode cX4_clear 92 = .ok (.return_, 1) := sdX4_clear_89.2.1
theorem sdX4_take_0 : dz_Seg cX4_take [(0, .aload_n 0, 1), (1, .aload_n 1, 1), (2, .getfield 33, 3), (5, .putfield 33, 3), (8, .aload_n 0, 1), (9, .aload_n 1, 1), (10, .getfield 37, 3), (13, .putfield 37, 3)] := dz_sg _ 0 (by decide +kernel)
theorem dX4_take_0 : decode cX4_take 0 = .ok (.aload_n 0, 1) := sdX4_take_0.1
theorem dX4_take_1 : decode cX4_take 1 = .ok (.aload_n 1, 1) := sdX4_take_0.2.1
theorem dX4_take_2 : decode cX4_take 2 = .ok (.getfield 33, 3) := sdX4_take_0.2.2.1
theorem dX4_take_5 : decode cX4_take 5 = .ok (.putfield 33, 3) := sdX4_take_0.2.2.2.1
theorem dX4_take_8 : decode cX4_take 8 = .ok (.aload_n 0, 1) := sdX4_take_0.2.2.2.2.1
theorem dX4_take_9 : decode cX4_take 9 = .ok (.aload_n 1, 1) := sdX4_take_0.2.2.2.2.2.1
theorem dX4_take_10 : decode cX4_take 10 = .ok (.getfield 37, 3) := sdX4_take_0.2.2.2.2.2.2.1
theorem dX4_take_13 : decode cX4_take 13 = .ok (.putfield 37, 3) := sdX4_take_0.2.2.2.2.2.2.2.1
theorem sdX4_take_16 : dz_Seg cX4_take [(16, .aload_n 0, 1), (17, .aload_n 1, 1), (18, .getfield 40, 3), (21, .putfield 40, 3), (24, .aload_n 0, 1), (25, .aload_n 1, 1), (26, .getfield 43, 3), (29, .putfield 43, 3)] := dz_sg _ 16 (by decide +kernel)
theorem dX4_take_16 : decode cX4_take 16 = .ok (.aload_n 0, 1) := sdX4_take_16.1
theorem dX4_take_17 : decode cX4_take 17 = .ok (.aload_n 1, 1) := sdX4_take_16.2.1
theorem dX4_take_18 : decode cX4_take 18 = .ok (.getfield 40, 3) := sdX4_take_16.2.2.1
theorem dX4_take_21 : decode cX4_take 21 = .ok (.putfield 40, 3) := sdX4_take_16.2.2.2.1
theorem dX4_take_24 : decode cX4_take 24 = .ok (.aload_n 0, 1) := sdX4_take_16.2.2.2.2.1
theorem dX4_take_25 : decode cX4_take 25 = .ok (.aload_n 1, 1) := sdX4_take_16.2.2.2.2.2.1
theorem dX4_take_26 : decode cX4_take 26 = .ok (.getfield 43, 3) := sdX4_take_16.2.2.2.2.2.2.1
theorem dX4_take_29 : decode cX4_take 29 = .ok (.putfield 43, 3) := sdX4_take_16.2.2.2.2.2.2.2.1
theorem sdX4_take_32 : dz_Seg cX4_take [(32, .aload_n 0, 1), (33, .aload_n 1, 1), (34, .getfield 46, 3), (37, .putfield 46, 3), (40, .aload_n 0, 1), (41, .aload_n 1, 1), (42, .getfield 49, 3), (45, .putfield 49, 3)] := dz_sg _ 32 (by decide +kernel)
theorem dX4_take_32 : decode cX4_take 32 = .ok (.aload_n 0, 1) := sdX4_take_32.1
theorem dX4_take_33 : decode cX4_take 33 = .ok (.aload_n 1, 1) := sdX4_take_32.2.1
theorem dX4_take_34 : decode cX4_take 34 = .ok (.getfield 46, 3) := sdX4_take_32.2.2.1
theorem dX4_take_37 : decode cX4_take 37 = .ok (.putfield 46, 3) := sdX4_take_32.2.2.2.1
theorem dX4_take_40 : decode cX4_take 40 = .ok (.aload_n 0, 1) := sdX4_take_32.2.2.2.2.1
theorem dX4_take_41 : decode cX4_take 41 = .ok (.aload_n 1, 1) := sdX4_take_32.2.2.2.2.2.1
theorem dX4_take_42 : decode cX4_take 42 = .ok (.getfield 49, 3) := sdX4_take_32.2.2.2.2.2.2.1
theorem dX4_take_45 : decode cX4_take 45 = .ok (.putfield 49, 3) := sdX4_take_32.2.2.2.2.2.2.2.1
theorem sdX4_take_48 : dz_Seg cX4_take [(48, .aload_n 0, 1), (49, .aload_n 1, 1), (50, .getfield 52, 3), (53, .putfield 52, 3), (56, .aload_n 1, 1), (57, .getfield 9, 3), (60, .aload_n 0, 1), (61, .getfield 9, 3)] := dz_sg _ 48 (by decide +kernel)
theorem dX4_take_48 : decode cX4_take 48 = .ok (.aload_n 0, 1) := sdX4_take_48.1
theorem dX4_take_49 : decode cX4_take 49 = .ok (.aload_n 1, 1) := sdX4_take_48.2.1
theorem dX4_take_50 : decode cX4_take 50 = .ok (.getfield 52, 3) := sdX4_take_48.2.2.1
theorem dX4_take_53 : decode cX4_take 53 = .ok (.putfield 52, 3) := sdX4_take_48.2.2.2.1
theorem dX4_take_56 : decode cX4_take 56 = .ok (.aload_n 1, 1) := sdX4_take_48.2.2.2.2.1
theorem dX4_take_57 : decode cX4_take 57 = .ok (.getfield 9, 3) := sdX4_take_48.2.2.2.2.2.1
theorem dX4_take_60 : decode cX4_take 60 = .ok (.aload_n 0, 1) := sdX4_take_48.2.2.2.2.2.2.1
theorem dX4_take_61 : decode cX4_take 61 = .ok (.getfield 9, 3) := sdX4_take_48.2.2.2.2.2.2.2.1
theorem sdX4_take_64 : dz_Seg cX4_take [(64, .invokestatic 59, 3), (67, .aload_n 1, 1), (68, .getfield 15, 3), (71, .aload_n 0, 1), (72, .getfield 15, 3), (75, .invokestatic 59, 3), (78, .aload_n 1, 1), (79, .getfield 18, 3)] := dz_sg _ 64 (by decide +kernel)
theorem dX4_take_64 : decode cX4_take 64 = .ok (.invokestatic 59, 3) := sdX4_take_64.1
theorem dX4_take_67 : decode cX4_take 67 = .ok (.aload_n 1, 1) := sdX4_take_64.2.1
theorem dX4_take_68 : decode cX4_take 68 = .ok (.getfield 15, 3) := sdX4_take_64.2.2.1
theorem dX4_take_71 : decode cX4_take 71 = .ok (.aload_n 0, 1) := sdX4_take_64.2.2.2.1
theorem dX4_take_72 : decode cX4_take 72 = .ok (.getfield 15, 3) := sdX4_take_64.2.2.2.2.1
theorem dX4_take_75 : decode cX4_take 75 = .ok (.invokestatic 59, 3) := sdX4_take_64.2.2.2.2.2.1
theorem dX4_take_78 : decode cX4_take 78 = .ok (.aload_n 1, 1) := sdX4_take_64.2.2.2.2.2.2.1
theorem dX4_take_79 : decode cX4_take 79 = .ok (.getfield 18, 3) := sdX4_take_64.2.2.2.2.2.2.2.1
theorem sdX4_take_82 : dz_Seg cX4_take [(82, .aload_n 0, 1), (83, .getfield 18, 3), (86, .invokestatic 59, 3), (89, .aload_n 1, 1), (90, .getfield 21, 3), (93, .aload_n 0, 1), (94, .getfield 21, 3), (97, .invokestatic 59, 3)] := dz_sg _ 82 (by decide +kernel)
theorem dX4_take_82 : decode cX4_take 82 = .ok (.aload_n 0, 1) := sdX4_take_82.1
theorem dX4_take_83 : decode cX4_take 83 = .ok (.getfield 18, 3) := sdX4_take_82.2.1
theorem dX4_take_86 : decode cX4_take 86 = .ok (.invokestatic 59, 3) := sdX4_take_82.2.2.1
theorem dX4_take_89 : decode cX4_take 89 = .ok (.aload_n 1, 1) := sdX4_take_82.2.2.2.1
theorem dX4_take_90 : decode cX4_take 90 = .ok (.getfield 21, 3) := sdX4_take_82.2.2.2.2.1
theorem dX4_take_93 : decode cX4_take 93 = .ok (.aload_n 0, 1) := sdX4_take_82.2.2.2.2.2.1
theorem dX4_take_94 : decode cX4_take 94 = .ok (.getfield 21, 3) := sdX4_take_82.2.2.2.2.2.2.1
theorem dX4_take_97 : decode cX4_take 97 = .ok (.invokestatic 59, 3) := sdX4_take_82.2.2.2.2.2.2.2.1
theorem sdX4_take_100 : dz_Seg cX4_take [(100, .aload_n 1, 1), (101, .getfield 24, 3), (104, .aload_n 0, 1), (105, .getfield 24, 3), (108, .invokestatic 59, 3), (111, .aload_n 1, 1), (112, .getfield 27, 3), (115, .aload_n 0, 1)] := dz_sg _ 100 (by decide +kernel)
theorem dX4_take_100 : decode cX4_take 100 = .ok (.aload_n 1, 1) := sdX4_take_100.1
theorem dX4_take_101 : decode cX4_take 101 = .ok (.getfield 24, 3) := sdX4_take_100.2.1
theorem dX4_take_104 : decode cX4_take 104 = .ok (.aload_n 0, 1) := sdX4_take_100.2.2.1
theorem dX4_take_105 : decode cX4_take 105 = .ok (.getfield 24, 3) := sdX4_take_100.2.2.2.1
theorem dX4_take_108 : decode cX4_take 108 = .ok (.invokestatic 59, 3) := sdX4_take_100.2.2.2.2.1
theorem dX4_take_111 : decode cX4_take 111 = .ok (.aload_n 1, 1) := sdX4_take_100.2.2.2.2.2.1
theorem dX4_take_112 : decode cX4_take 112 = .ok (.getfield 27, 3) := sdX4_take_100.2.2.2.2.2.2.1
theorem dX4_take_115 : decode cX4_take 115 = .ok (.aload_n 0, 1) := sdX4_take_100.2.2.2.2.2.2.2.1
theorem sdX4_take_116 : dz_Seg cX4_take [(116, .getfield 27, 3), (119, .invokestatic 59, 3), (122, .aload_n 1, 1), (123, .getfield 30, 3), (126, .aload_n 0, 1), (127, .getfield 30, 3), (130, .invokestatic 59, 3), (133, .return_, 1)] := dz_sg _ 116 (by decide +kernel)
theorem dX4_take_116 : decode cX4_take 116 = .ok (.getfield 27, 3) := sdX4_take_116.1
theorem dX4_take_119 : decode cX4_take 119 = .ok (.invokestatic 59, 3) := sdX4_take_116.2.1
theorem dX4_take_122 : decode cX4_take 122 = .ok (.aload_n 1, 1) := sdX4_take_116.2.2.1
theorem dX4_take_123 : decode cX4_take 123 = .ok (.getfield 30, 3) := sdX4_take_116.2.2.2.1
theorem dX4_take_126 : decode cX4_take 126 = .ok (.aload_n 0, 1) := sdX4_take_116.2.2.2.2.1
theorem dX4_take_127 : decode cX4_take 127 = .ok (.getfield 30, 3) := sdX4_take_116.2.2.2.2.2.1
theorem dX4_take_130 : decode cX4_take 130 = .ok (.invokestatic 59, 3) := sdX4_take_116.2.2.2.2.2.2.1
theorem dX4_take_133 : decode cX4_take 133 = .ok (.return_, 1) := sdX4_take_116.2.2.2.2.2.2.2.1
theorem sdX4_addUnit_0 : dz_Seg cX4_addUnit [(0, .aload_n 0, 1), (1, .getfield 9, 3), (4, .aload_n 0, 1), (5, .getfield 33, 3), (8, .iload_n 1, 1), (9, .invokestatic 63, 3), (12, .aload_n 0, 1), (13, .dup, 1)] := dz_sg _ 0 (by decide +kernel)
theorem dX4_addUnit_0 : decode cX4_addUnit 0 = .ok (.aload_n 0, 1) := sdX4_addUnit_0.1
theorem dX4_addUnit_1 : decode cX4_addUnit 1 = .ok (.getfield 9, 3) := sdX4_addUnit_0.2.1
theorem dX4_addUnit_4 : decode cX4_addUnit 4 = .ok (.aload_n 0, 1) := sdX4_addUnit_0.2.2.1
theorem dX4_addUnit_5 : decode cX4_addUnit 5 = .ok (.getfield 33, 3) := sdX4_addUnit_0.2.2.2.1
theorem dX4_addUnit_8 : decode cX4_addUnit 8 = .ok (.iload_n 1, 1) := sdX4_addUnit_0.2.2.2.2.1
theorem dX4_addUnit_9 : decode cX4_addUnit 9 = .ok (.invokestatic 63, 3) := sdX4_addUnit_0.2.2.2.2.2.1
theorem dX4_addUnit_12 : decode cX4_addUnit 12 = .ok (.aload_n 0, 1) := sdX4_addUnit_0.2.2.2.2.2.2.1
theorem dX4_addUnit_13 : decode cX4_addUnit 13 = .ok (.dup, 1) := sdX4_addUnit_0.2.2.2.2.2.2.2.1
theorem sdX4_addUnit_14 : dz_Seg cX4_addUnit [(14, .getfield 33, 3), (17, .iconst 1, 1), (18, .iadd, 1), (19, .putfield 33, 3), (22, .return_, 1)] := dz_sg _ 14 (by decide +kernel)
theorem dX4_addUnit_14 : decode cX4_addUnit 14 = .ok (.getfield 33, 3) := sdX4_addUnit_14.1
theorem dX4_addUnit_17 : decode cX4_addUnit 17 = .ok (.iconst 1, 1) := sdX4_addUnit_14.2.1
theorem dX4_addUnit_18 : decode cX4_addUnit 18 = .ok (.iadd, 1) := sdX4_addUnit_14.2.2.1
theorem dX4_addUnit_19 : decode cX4_addUnit 19 = .ok (.putfield 33, 3) := sdX4_addUnit_14.2.2.2.1
theorem dX4_addUnit_22 : decode cX4_addUnit 22 = .ok (.return_, 1) := sdX4_addUnit_14.2.2.2.2.1
theorem sdX4_addHunter_0 : dz_Seg cX4_addHunter [(0, .aload_n 0, 1), (1, .getfield 15, 3), (4, .aload_n 0, 1), (5, .getfield 37, 3), (8, .iload_n 1, 1), (9, .invokestatic 63, 3), (12, .aload_n 0, 1), (13, .getfield 18, 3)] := dz_sg _ 0 (by decide +kernel)
theorem dX4_addHunter_0 : decode cX4_addHunter 0 = .ok (.aload_n 0, 1) := sdX4_addHunter_0.1
theorem dX4_addHunter_1 : decode cX4_addHunter 1 = .ok (.getfield 15, 3) := sdX4_addHunter_0.2.1
theorem dX4_addHunter_4 : decode cX4_addHunter 4 = .ok (.aload_n 0, 1) := sdX4_addHunter_0.2.2.1
theorem dX4_addHunter_5 : decode cX4_addHunter 5 = .ok (.getfield 37, 3) := sdX4_addHunter_0.2.2.2.1
theorem dX4_addHunter_8 : decode cX4_addHunter 8 = .ok (.iload_n 1, 1) := sdX4_addHunter_0.2.2.2.2.1
theorem dX4_addHunter_9 : decode cX4_addHunter 9 = .ok (.invokestatic 63, 3) := sdX4_addHunter_0.2.2.2.2.2.1
theorem dX4_addHunter_12 : decode cX4_addHunter 12 = .ok (.aload_n 0, 1) := sdX4_addHunter_0.2.2.2.2.2.2.1
theorem dX4_addHunter_13 : decode cX4_addHunter 13 = .ok (.getfield 18, 3) := sdX4_addHunter_0.2.2.2.2.2.2.2.1
theorem sdX4_addHunter_16 : dz_Seg cX4_addHunter [(16, .aload_n 0, 1), (17, .getfield 37, 3), (20, .iload_n 2, 1), (21, .ifCond .eq 7, 3), (24, .iconst 1, 1), (25, .goto 4, 3), (28, .iconst 0, 1), (29, .invokestatic 63, 3)] := dz_sg _ 16 (by decide +kernel)
theorem dX4_addHunter_16 : decode cX4_addHunter 16 = .ok (.aload_n 0, 1) := sdX4_addHunter_16.1
theorem dX4_addHunter_17 : decode cX4_addHunter 17 = .ok (.getfield 37, 3) := sdX4_addHunter_16.2.1
theorem dX4_addHunter_20 : decode cX4_addHunter 20 = .ok (.iload_n 2, 1) := sdX4_addHunter_16.2.2.1
theorem dX4_addHunter_21 : decode cX4_addHunter 21 = .ok (.ifCond .eq 7, 3) := sdX4_addHunter_16.2.2.2.1
theorem dX4_addHunter_24 : decode cX4_addHunter 24 = .ok (.iconst 1, 1) := sdX4_addHunter_16.2.2.2.2.1
theorem dX4_addHunter_25 : decode cX4_addHunter 25 = .ok (.goto 4, 3) := sdX4_addHunter_16.2.2.2.2.2.1
theorem dX4_addHunter_28 : decode cX4_addHunter 28 = .ok (.iconst 0, 1) := sdX4_addHunter_16.2.2.2.2.2.2.1
theorem dX4_addHunter_29 : decode cX4_addHunter 29 = .ok (.invokestatic 63, 3) := sdX4_addHunter_16.2.2.2.2.2.2.2.1
theorem sdX4_addHunter_32 : dz_Seg cX4_addHunter [(32, .aload_n 0, 1), (33, .dup, 1), (34, .getfield 37, 3), (37, .iconst 1, 1), (38, .iadd, 1), (39, .putfield 37, 3), (42, .return_, 1)] := dz_sg _ 32 (by decide +kernel)
theorem dX4_addHunter_32 : decode cX4_addHunter 32 = .ok (.aload_n 0, 1) := sdX4_addHunter_32.1
theorem dX4_addHunter_33 : decode cX4_addHunter 33 = .ok (.dup, 1) := sdX4_addHunter_32.2.1
theorem dX4_addHunter_34 : decode cX4_addHunter 34 = .ok (.getfield 37, 3) := sdX4_addHunter_32.2.2.1
theorem dX4_addHunter_37 : decode cX4_addHunter 37 = .ok (.iconst 1, 1) := sdX4_addHunter_32.2.2.2.1
theorem dX4_addHunter_38 : decode cX4_addHunter 38 = .ok (.iadd, 1) := sdX4_addHunter_32.2.2.2.2.1
theorem dX4_addHunter_39 : decode cX4_addHunter 39 = .ok (.putfield 37, 3) := sdX4_addHunter_32.2.2.2.2.2.1
theorem dX4_addHunter_42 : decode cX4_addHunter 42 = .ok (.return_, 1) := sdX4_addHunter_32.2.2.2.2.2.2.1
theorem sdX4_addParty_0 : dz_Seg cX4_addParty [(0, .iconst 0, 1), (1, .istore_n 2, 1), (2, .iload_n 2, 1), (3, .aload_n 0, 1), (4, .getfield 37, 3), (7, .if_icmp .ge 30, 3), (10, .iload_n 1, 1), (11, .iload_n 2, 1)] := dz_sg _ 0 (by decide +kernel)
theorem dX4_addParty_0 : decode cX4_addParty 0 = .ok (.iconst 0, 1) := sdX4_addParty_0.1
theorem dX4_addParty_1 : decode cX4_addParty 1 = .ok (.istore_n 2, 1) := sdX4_addParty_0.2.1
theorem dX4_addParty_2 : decode cX4_addParty 2 = .ok (.iload_n 2, 1) := sdX4_addParty_0.2.2.1
theorem dX4_addParty_3 : decode cX4_addParty 3 = .ok (.aload_n 0, 1) := sdX4_addParty_0.2.2.2.1
theorem dX4_addParty_4 : decode cX4_addParty 4 = .ok (.getfield 37, 3) := sdX4_addParty_0.2.2.2.2.1
theorem dX4_addParty_7 : decode cX4_addParty 7 = .ok (.if_icmp .ge 30, 3) := sdX4_addParty_0.2.2.2.2.2.1
theorem dX4_addParty_10 : decode cX4_addParty 10 = .ok (.iload_n 1, 1) := sdX4_addParty_0.2.2.2.2.2.2.1
theorem dX4_addParty_11 : decode cX4_addParty 11 = .ok (.iload_n 2, 1) := sdX4_addParty_0.2.2.2.2.2.2.2.1
theorem sdX4_addParty_12 : dz_Seg cX4_addParty [(12, .ishr, 1), (13, .iconst 1, 1), (14, .iand, 1), (15, .iconst 1, 1), (16, .if_icmp .ne 15, 3), (19, .aload_n 0, 1), (20, .getfield 21, 3), (23, .iload_n 2, 1)] := dz_sg _ 12 (by decide +kernel)
theorem dX4_addParty_12 : decode cX4_addParty 12 = .ok (.ishr, 1) := sdX4_addParty_12.1
theorem dX4_addParty_13 : decode cX4_addParty 13 = .ok (.iconst 1, 1) := sdX4_addParty_12.2.1
theorem dX4_addParty_14 : decode cX4_addParty 14 = .ok (.iand, 1) := sdX4_addParty_12.2.2.1
theorem dX4_addParty_15 : decode cX4_addParty 15 = .ok (.iconst 1, 1) := sdX4_addParty_12.2.2.2.1
theorem dX4_addParty_16 : decode cX4_addParty 16 = .ok (.if_icmp .ne 15, 3) := sdX4_addParty_12.2.2.2.2.1
theorem dX4_addParty_19 : decode cX4_addParty 19 = .ok (.aload_n 0, 1) := sdX4_addParty_12.2.2.2.2.2.1
theorem dX4_addParty_20 : decode cX4_addParty 20 = .ok (.getfield 21, 3) := sdX4_addParty_12.2.2.2.2.2.2.1
theorem dX4_addParty_23 : decode cX4_addParty 23 = .ok (.iload_n 2, 1) := sdX4_addParty_12.2.2.2.2.2.2.2.1
theorem sdX4_addParty_24 : dz_Seg cX4_addParty [(24, .aload_n 0, 1), (25, .getfield 40, 3), (28, .invokestatic 63, 3), (31, .iinc 2 1, 3), (34, .goto (-32), 3), (37, .aload_n 0, 1), (38, .dup, 1), (39, .getfield 40, 3)] := dz_sg _ 24 (by decide +kernel)
theorem dX4_addParty_24 : decode cX4_addParty 24 = .ok (.aload_n 0, 1) := sdX4_addParty_24.1
theorem dX4_addParty_25 : decode cX4_addParty 25 = .ok (.getfield 40, 3) := sdX4_addParty_24.2.1
theorem dX4_addParty_28 : decode cX4_addParty 28 = .ok (.invokestatic 63, 3) := sdX4_addParty_24.2.2.1
theorem dX4_addParty_31 : decode cX4_addParty 31 = .ok (.iinc 2 1, 3) := sdX4_addParty_24.2.2.2.1
theorem dX4_addParty_34 : decode cX4_addParty 34 = .ok (.goto (-32), 3) := sdX4_addParty_24.2.2.2.2.1
theorem dX4_addParty_37 : decode cX4_addParty 37 = .ok (.aload_n 0, 1) := sdX4_addParty_24.2.2.2.2.2.1
theorem dX4_addParty_38 : decode cX4_addParty 38 = .ok (.dup, 1) := sdX4_addParty_24.2.2.2.2.2.2.1
theorem dX4_addParty_39 : decode cX4_addParty 39 = .ok (.getfield 40, 3) := sdX4_addParty_24.2.2.2.2.2.2.2.1
theorem sdX4_addParty_42 : dz_Seg cX4_addParty [(42, .iconst 1, 1), (43, .iadd, 1), (44, .putfield 40, 3), (47, .return_, 1)] := dz_sg _ 42 (by decide +kernel)
theorem dX4_addParty_42 : decode cX4_addParty 42 = .ok (.iconst 1, 1) := sdX4_addParty_42.1
theorem dX4_addParty_43 : decode cX4_addParty 43 = .ok (.iadd, 1) := sdX4_addParty_42.2.1
theorem dX4_addParty_44 : decode cX4_addParty 44 = .ok (.putfield 40, 3) := sdX4_addParty_42.2.2.1
theorem dX4_addParty_47 : decode cX4_addParty 47 = .ok (.return_, 1) := sdX4_addParty_42.2.2.2.1
theorem sdX4_join_0 : dz_Seg cX4_join [(0, .iload_n 1, 1), (1, .iconst 3, 1), (2, .imul, 1), (3, .istore_n 3, 1), (4, .aload_n 0, 1), (5, .iconst 1, 1), (6, .iload_n 2, 1), (7, .ishl, 1)] := dz_sg _ 0 (by decide +kernel)
theorem dX4_join_0 : decode cX4_join 0 = .ok (.iload_n 1, 1) := sdX4_join_0.1
theorem dX4_join_1 : decode cX4_join 1 = .ok (.iconst 3, 1) := sdX4_join_0.2.1
theorem dX4_join_2 : decode cX4_join 2 = .ok (.imul, 1) := sdX4_join_0.2.2.1
theorem dX4_join_3 : decode cX4_join 3 = .ok (.istore_n 3, 1) := sdX4_join_0.2.2.2.1
theorem dX4_join_4 : decode cX4_join 4 = .ok (.aload_n 0, 1) := sdX4_join_0.2.2.2.2.1
theorem dX4_join_5 : decode cX4_join 5 = .ok (.iconst 1, 1) := sdX4_join_0.2.2.2.2.2.1
theorem dX4_join_6 : decode cX4_join 6 = .ok (.iload_n 2, 1) := sdX4_join_0.2.2.2.2.2.2.1
theorem dX4_join_7 : decode cX4_join 7 = .ok (.ishl, 1) := sdX4_join_0.2.2.2.2.2.2.2.1
theorem sdX4_join_8 : dz_Seg cX4_join [(8, .aload_n 0, 1), (9, .getfield 27, 3), (12, .iload_n 3, 1), (13, .invokestatic 67, 3), (16, .aload_n 0, 1), (17, .getfield 27, 3), (20, .iload_n 3, 1), (21, .iconst 1, 1)] := dz_sg _ 8 (by decide +kernel)
theorem dX4_join_8 : decode cX4_join 8 = .ok (.aload_n 0, 1) := sdX4_join_8.1
theorem dX4_join_9 : decode cX4_join 9 = .ok (.getfield 27, 3) := sdX4_join_8.2.1
theorem dX4_join_12 : decode cX4_join 12 = .ok (.iload_n 3, 1) := sdX4_join_8.2.2.1
theorem dX4_join_13 : decode cX4_join 13 = .ok (.invokestatic 67, 3) := sdX4_join_8.2.2.2.1
theorem dX4_join_16 : decode cX4_join 16 = .ok (.aload_n 0, 1) := sdX4_join_8.2.2.2.2.1
theorem dX4_join_17 : decode cX4_join 17 = .ok (.getfield 27, 3) := sdX4_join_8.2.2.2.2.2.1
theorem dX4_join_20 : decode cX4_join 20 = .ok (.iload_n 3, 1) := sdX4_join_8.2.2.2.2.2.2.1
theorem dX4_join_21 : decode cX4_join 21 = .ok (.iconst 1, 1) := sdX4_join_8.2.2.2.2.2.2.2.1
theorem sdX4_join_22 : dz_Seg cX4_join [(22, .iadd, 1), (23, .invokestatic 67, 3), (26, .aload_n 0, 1), (27, .getfield 27, 3), (30, .iload_n 3, 1), (31, .iconst 2, 1), (32, .iadd, 1), (33, .invokestatic 67, 3)] := dz_sg _ 22 (by decide +kernel)
theorem dX4_join_22 : decode cX4_join 22 = .ok (.iadd, 1) := sdX4_join_22.1
theorem dX4_join_23 : decode cX4_join 23 = .ok (.invokestatic 67, 3) := sdX4_join_22.2.1
theorem dX4_join_26 : decode cX4_join 26 = .ok (.aload_n 0, 1) := sdX4_join_22.2.2.1
theorem dX4_join_27 : decode cX4_join 27 = .ok (.getfield 27, 3) := sdX4_join_22.2.2.2.1
theorem dX4_join_30 : decode cX4_join 30 = .ok (.iload_n 3, 1) := sdX4_join_22.2.2.2.2.1
theorem dX4_join_31 : decode cX4_join 31 = .ok (.iconst 2, 1) := sdX4_join_22.2.2.2.2.2.1
theorem dX4_join_32 : decode cX4_join 32 = .ok (.iadd, 1) := sdX4_join_22.2.2.2.2.2.2.1
theorem dX4_join_33 : decode cX4_join 33 = .ok (.invokestatic 67, 3) := sdX4_join_22.2.2.2.2.2.2.2.1
theorem sdX4_join_36 : dz_Seg cX4_join [(36, .invokevirtual 71, 3), (39, .aload_n 0, 1), (40, .iconst 1, 1), (41, .iload_n 1, 1), (42, .ishl, 1), (43, .iconst 1, 1), (44, .iload_n 2, 1), (45, .ishl, 1)] := dz_sg _ 36 (by decide +kernel)
theorem dX4_join_36 : decode cX4_join 36 = .ok (.invokevirtual 71, 3) := sdX4_join_36.1
theorem dX4_join_39 : decode cX4_join 39 = .ok (.aload_n 0, 1) := sdX4_join_36.2.1
theorem dX4_join_40 : decode cX4_join 40 = .ok (.iconst 1, 1) := sdX4_join_36.2.2.1
theorem dX4_join_41 : decode cX4_join 41 = .ok (.iload_n 1, 1) := sdX4_join_36.2.2.2.1
theorem dX4_join_42 : decode cX4_join 42 = .ok (.ishl, 1) := sdX4_join_36.2.2.2.2.1
theorem dX4_join_43 : decode cX4_join 43 = .ok (.iconst 1, 1) := sdX4_join_36.2.2.2.2.2.1
theorem dX4_join_44 : decode cX4_join 44 = .ok (.iload_n 2, 1) := sdX4_join_36.2.2.2.2.2.2.1
theorem dX4_join_45 : decode cX4_join 45 = .ok (.ishl, 1) := sdX4_join_36.2.2.2.2.2.2.2.1
theorem sdX4_join_46 : dz_Seg cX4_join [(46, .ior, 1), (47, .invokevirtual 75, 3), (50, .return_, 1)] := dz_sg _ 46 (by decide +kernel)
theorem dX4_join_46 : decode cX4_join 46 = .ok (.ior, 1) := sdX4_join_46.1
theorem dX4_join_47 : decode cX4_join 47 = .ok (.invokevirtual 75, 3) := sdX4_join_46.2.1
theorem dX4_join_50 : decode cX4_join 50 = .ok (.return_, 1) := sdX4_join_46.2.2.1
theorem sdX4_dissolve_0 : dz_Seg cX4_dissolve [(0, .iconst 0, 1), (1, .istore_n 2, 1), (2, .iload_n 2, 1), (3, .aload_n 0, 1), (4, .getfield 37, 3), (7, .if_icmp .ge 51, 3), (10, .aload_n 0, 1), (11, .getfield 21, 3)] := dz_sg _ 0 (by decide +kernel)
theorem dX4_dissolve_0 : decode cX4_dissolve 0 = .ok (.iconst 0, 1) := sdX4_dissolve_0.1
theorem dX4_dissolve_1 : decode cX4_dissolve 1 = .ok (.istore_n 2, 1) := sdX4_dissolve_0.2.1
theorem dX4_dissolve_2 : decode cX4_dissolve 2 = .ok (.iload_n 2, 1) := sdX4_dissolve_0.2.2.1
theorem dX4_dissolve_3 : decode cX4_dissolve 3 = .ok (.aload_n 0, 1) := sdX4_dissolve_0.2.2.2.1
theorem dX4_dissolve_4 : decode cX4_dissolve 4 = .ok (.getfield 37, 3) := sdX4_dissolve_0.2.2.2.2.1
theorem dX4_dissolve_7 : decode cX4_dissolve 7 = .ok (.if_icmp .ge 51, 3) := sdX4_dissolve_0.2.2.2.2.2.1
theorem dX4_dissolve_10 : decode cX4_dissolve 10 = .ok (.aload_n 0, 1) := sdX4_dissolve_0.2.2.2.2.2.2.1
theorem dX4_dissolve_11 : decode cX4_dissolve 11 = .ok (.getfield 21, 3) := sdX4_dissolve_0.2.2.2.2.2.2.2.1
theorem sdX4_dissolve_14 : dz_Seg cX4_dissolve [(14, .iload_n 2, 1), (15, .invokestatic 67, 3), (18, .istore_n 3, 1), (19, .iload_n 3, 1), (20, .iload_n 1, 1), (21, .if_icmp .ne 15, 3), (24, .aload_n 0, 1), (25, .getfield 21, 3)] := dz_sg _ 14 (by decide +kernel)
theorem dX4_dissolve_14 : decode cX4_dissolve 14 = .ok (.iload_n 2, 1) := sdX4_dissolve_14.1
theorem dX4_dissolve_15 : decode cX4_dissolve 15 = .ok (.invokestatic 67, 3) := sdX4_dissolve_14.2.1
theorem dX4_dissolve_18 : decode cX4_dissolve 18 = .ok (.istore_n 3, 1) := sdX4_dissolve_14.2.2.1
theorem dX4_dissolve_19 : decode cX4_dissolve 19 = .ok (.iload_n 3, 1) := sdX4_dissolve_14.2.2.2.1
theorem dX4_dissolve_20 : decode cX4_dissolve 20 = .ok (.iload_n 1, 1) := sdX4_dissolve_14.2.2.2.2.1
theorem dX4_dissolve_21 : decode cX4_dissolve 21 = .ok (.if_icmp .ne 15, 3) := sdX4_dissolve_14.2.2.2.2.2.1
theorem dX4_dissolve_24 : decode cX4_dissolve 24 = .ok (.aload_n 0, 1) := sdX4_dissolve_14.2.2.2.2.2.2.1
theorem dX4_dissolve_25 : decode cX4_dissolve 25 = .ok (.getfield 21, 3) := sdX4_dissolve_14.2.2.2.2.2.2.2.1
theorem sdX4_dissolve_28 : dz_Seg cX4_dissolve [(28, .iload_n 2, 1), (29, .iconst (-1), 1), (30, .invokestatic 63, 3), (33, .goto 19, 3), (36, .iload_n 3, 1), (37, .iload_n 1, 1), (38, .if_icmp .le 14, 3), (41, .aload_n 0, 1)] := dz_sg _ 28 (by decide +kernel)
theorem dX4_dissolve_28 : decode cX4_dissolve 28 = .ok (.iload_n 2, 1) := sdX4_dissolve_28.1
theorem dX4_dissolve_29 : decode cX4_dissolve 29 = .ok (.iconst (-1), 1) := sdX4_dissolve_28.2.1
theorem dX4_dissolve_30 : decode cX4_dissolve 30 = .ok (.invokestatic 63, 3) := sdX4_dissolve_28.2.2.1
theorem dX4_dissolve_33 : decode cX4_dissolve 33 = .ok (.goto 19, 3) := sdX4_dissolve_28.2.2.2.1
theorem dX4_dissolve_36 : decode cX4_dissolve 36 = .ok (.iload_n 3, 1) := sdX4_dissolve_28.2.2.2.2.1
theorem dX4_dissolve_37 : decode cX4_dissolve 37 = .ok (.iload_n 1, 1) := sdX4_dissolve_28.2.2.2.2.2.1
theorem dX4_dissolve_38 : decode cX4_dissolve 38 = .ok (.if_icmp .le 14, 3) := sdX4_dissolve_28.2.2.2.2.2.2.1
theorem dX4_dissolve_41 : decode cX4_dissolve 41 = .ok (.aload_n 0, 1) := sdX4_dissolve_28.2.2.2.2.2.2.2.1
theorem sdX4_dissolve_42 : dz_Seg cX4_dissolve [(42, .getfield 21, 3), (45, .iload_n 2, 1), (46, .iload_n 3, 1), (47, .iconst 1, 1), (48, .isub, 1), (49, .invokestatic 63, 3), (52, .iinc 2 1, 3), (55, .goto (-53), 3)] := dz_sg _ 42 (by decide +kernel)
theorem dX4_dissolve_42 : decode cX4_dissolve 42 = .ok (.getfield 21, 3) := sdX4_dissolve_42.1
theorem dX4_dissolve_45 : decode cX4_dissolve 45 = .ok (.iload_n 2, 1) := sdX4_dissolve_42.2.1
theorem dX4_dissolve_46 : decode cX4_dissolve 46 = .ok (.iload_n 3, 1) := sdX4_dissolve_42.2.2.1
theorem dX4_dissolve_47 : decode cX4_dissolve 47 = .ok (.iconst 1, 1) := sdX4_dissolve_42.2.2.2.1
theorem dX4_dissolve_48 : decode cX4_dissolve 48 = .ok (.isub, 1) := sdX4_dissolve_42.2.2.2.2.1
theorem dX4_dissolve_49 : decode cX4_dissolve 49 = .ok (.invokestatic 63, 3) := sdX4_dissolve_42.2.2.2.2.2.1
theorem dX4_dissolve_52 : decode cX4_dissolve 52 = .ok (.iinc 2 1, 3) := sdX4_dissolve_42.2.2.2.2.2.2.1
theorem dX4_dissolve_55 : decode cX4_dissolve 55 = .ok (.goto (-53), 3) := sdX4_dissolve_42.2.2.2.2.2.2.2.1
theorem sdX4_dissolve_58 : dz_Seg cX4_dissolve [(58, .aload_n 0, 1), (59, .dup, 1), (60, .getfield 40, 3), (63, .iconst 1, 1), (64, .isub, 1), (65, .putfield 40, 3), (68, .return_, 1)] := dz_sg _ 58 (by decide +kernel)
theorem dX4_dissolve_58 : decode cX4_dissolve 58 = .ok (.aload_n 0, 1) := sdX4_dissolve_58.1
theorem dX4_dissolve_59 : decode cX4_dissolve 59 = .ok (.dup, 1) := sdX4_dissolve_58.2.1
theorem dX4_dissolve_60 : decode cX4_dissolve 60 = .ok (.getfield 40, 3) := sdX4_dissolve_58.2.2.1
theorem dX4_dissolve_63 : decode cX4_dissolve 63 = .ok (.iconst 1, 1) := sdX4_dissolve_58.2.2.2.1
theorem dX4_dissolve_64 : decode cX4_dissolve 64 = .ok (.isub, 1) := sdX4_dissolve_58.2.2.2.2.1
theorem dX4_dissolve_65 : decode cX4_dissolve 65 = .ok (.putfield 40, 3) := sdX4_dissolve_58.2.2.2.2.2.1
theorem dX4_dissolve_68 : decode cX4_dissolve 68 = .ok (.return_, 1) := sdX4_dissolve_58.2.2.2.2.2.2.1
theorem sdX4_wishFor_0 : dz_Seg cX4_wishFor [(0, .iload_n 2, 1), (1, .iconst (-1), 1), (2, .if_icmp .ne 7, 3), (5, .iconst 0, 1), (6, .goto 4, 3), (9, .iconst 1, 1), (10, .iload_n 3, 1), (11, .iconst (-1), 1)] := dz_sg _ 0 (by decide +kernel)
theorem dX4_wishFor_0 : decode cX4_wishFor 0 = .ok (.iload_n 2, 1) := sdX4_wishFor_0.1
theorem dX4_wishFor_1 : decode cX4_wishFor 1 = .ok (.iconst (-1), 1) := sdX4_wishFor_0.2.1
theorem dX4_wishFor_2 : decode cX4_wishFor 2 = .ok (.if_icmp .ne 7, 3) := sdX4_wishFor_0.2.2.1
theorem dX4_wishFor_5 : decode cX4_wishFor 5 = .ok (.iconst 0, 1) := sdX4_wishFor_0.2.2.2.1
theorem dX4_wishFor_6 : decode cX4_wishFor 6 = .ok (.goto 4, 3) := sdX4_wishFor_0.2.2.2.2.1
theorem dX4_wishFor_9 : decode cX4_wishFor 9 = .ok (.iconst 1, 1) := sdX4_wishFor_0.2.2.2.2.2.1
theorem dX4_wishFor_10 : decode cX4_wishFor 10 = .ok (.iload_n 3, 1) := sdX4_wishFor_0.2.2.2.2.2.2.1
theorem dX4_wishFor_11 : decode cX4_wishFor 11 = .ok (.iconst (-1), 1) := sdX4_wishFor_0.2.2.2.2.2.2.2.1
theorem sdX4_wishFor_12 : dz_Seg cX4_wishFor [(12, .if_icmp .ne 7, 3), (15, .iconst 0, 1), (16, .goto 4, 3), (19, .iconst 1, 1), (20, .iadd, 1), (21, .iload 4, 2), (23, .iconst (-1), 1), (24, .if_icmp .ne 7, 3)] := dz_sg _ 12 (by decide +kernel)
theorem dX4_wishFor_12 : decode cX4_wishFor 12 = .ok (.if_icmp .ne 7, 3) := sdX4_wishFor_12.1
theorem dX4_wishFor_15 : decode cX4_wishFor 15 = .ok (.iconst 0, 1) := sdX4_wishFor_12.2.1
theorem dX4_wishFor_16 : decode cX4_wishFor 16 = .ok (.goto 4, 3) := sdX4_wishFor_12.2.2.1
theorem dX4_wishFor_19 : decode cX4_wishFor 19 = .ok (.iconst 1, 1) := sdX4_wishFor_12.2.2.2.1
theorem dX4_wishFor_20 : decode cX4_wishFor 20 = .ok (.iadd, 1) := sdX4_wishFor_12.2.2.2.2.1
theorem dX4_wishFor_21 : decode cX4_wishFor 21 = .ok (.iload 4, 2) := sdX4_wishFor_12.2.2.2.2.2.1
theorem dX4_wishFor_23 : decode cX4_wishFor 23 = .ok (.iconst (-1), 1) := sdX4_wishFor_12.2.2.2.2.2.2.1
theorem dX4_wishFor_24 : decode cX4_wishFor 24 = .ok (.if_icmp .ne 7, 3) := sdX4_wishFor_12.2.2.2.2.2.2.2.1
theorem sdX4_wishFor_27 : dz_Seg cX4_wishFor [(27, .iconst 0, 1), (28, .goto 4, 3), (31, .iconst 1, 1), (32, .iadd, 1), (33, .istore 5, 2), (35, .iconst 0, 1), (36, .istore 6, 2), (38, .iload 6, 2)] := dz_sg _ 27 (by decide +kernel)
theorem dX4_wishFor_27 : decode cX4_wishFor 27 = .ok (.iconst 0, 1) := sdX4_wishFor_27.1
theorem dX4_wishFor_28 : decode cX4_wishFor 28 = .ok (.goto 4, 3) := sdX4_wishFor_27.2.1
theorem dX4_wishFor_31 : decode cX4_wishFor 31 = .ok (.iconst 1, 1) := sdX4_wishFor_27.2.2.1
theorem dX4_wishFor_32 : decode cX4_wishFor 32 = .ok (.iadd, 1) := sdX4_wishFor_27.2.2.2.1
theorem dX4_wishFor_33 : decode cX4_wishFor 33 = .ok (.istore 5, 2) := sdX4_wishFor_27.2.2.2.2.1
theorem dX4_wishFor_35 : decode cX4_wishFor 35 = .ok (.iconst 0, 1) := sdX4_wishFor_27.2.2.2.2.2.1
theorem dX4_wishFor_36 : decode cX4_wishFor 36 = .ok (.istore 6, 2) := sdX4_wishFor_27.2.2.2.2.2.2.1
theorem dX4_wishFor_38 : decode cX4_wishFor 38 = .ok (.iload 6, 2) := sdX4_wishFor_27.2.2.2.2.2.2.2.1
theorem sdX4_wishFor_40 : dz_Seg cX4_wishFor [(40, .aload_n 0, 1), (41, .getfield 37, 3), (44, .if_icmp .ge 71, 3), (47, .iload_n 1, 1), (48, .iload 6, 2), (50, .ishr, 1), (51, .iconst 1, 1), (52, .iand, 1)] := dz_sg _ 40 (by decide +kernel)
theorem dX4_wishFor_40 : decode cX4_wishFor 40 = .ok (.aload_n 0, 1) := sdX4_wishFor_40.1
theorem dX4_wishFor_41 : decode cX4_wishFor 41 = .ok (.getfield 37, 3) := sdX4_wishFor_40.2.1
theorem dX4_wishFor_44 : decode cX4_wishFor 44 = .ok (.if_icmp .ge 71, 3) := sdX4_wishFor_40.2.2.1
theorem dX4_wishFor_47 : decode cX4_wishFor 47 = .ok (.iload_n 1, 1) := sdX4_wishFor_40.2.2.2.1
theorem dX4_wishFor_48 : decode cX4_wishFor 48 = .ok (.iload 6, 2) := sdX4_wishFor_40.2.2.2.2.1
theorem dX4_wishFor_50 : decode cX4_wishFor 50 = .ok (.ishr, 1) := sdX4_wishFor_40.2.2.2.2.2.1
theorem dX4_wishFor_51 : decode cX4_wishFor 51 = .ok (.iconst 1, 1) := sdX4_wishFor_40.2.2.2.2.2.2.1
theorem dX4_wishFor_52 : decode cX4_wishFor 52 = .ok (.iand, 1) := sdX4_wishFor_40.2.2.2.2.2.2.2.1
theorem sdX4_wishFor_53 : dz_Seg cX4_wishFor [(53, .iconst 1, 1), (54, .if_icmp .ne 55, 3), (57, .aload_n 0, 1), (58, .getfield 24, 3), (61, .iload 6, 2), (63, .iload 5, 2), (65, .invokestatic 63, 3), (68, .aload_n 0, 1)] := dz_sg _ 53 (by decide +kernel)
theorem dX4_wishFor_53 : decode cX4_wishFor 53 = .ok (.iconst 1, 1) := sdX4_wishFor_53.1
theorem dX4_wishFor_54 : decode cX4_wishFor 54 = .ok (.if_icmp .ne 55, 3) := sdX4_wishFor_53.2.1
theorem dX4_wishFor_57 : decode cX4_wishFor 57 = .ok (.aload_n 0, 1) := sdX4_wishFor_53.2.2.1
theorem dX4_wishFor_58 : decode cX4_wishFor 58 = .ok (.getfield 24, 3) := sdX4_wishFor_53.2.2.2.1
theorem dX4_wishFor_61 : decode cX4_wishFor 61 = .ok (.iload 6, 2) := sdX4_wishFor_53.2.2.2.2.1
theorem dX4_wishFor_63 : decode cX4_wishFor 63 = .ok (.iload 5, 2) := sdX4_wishFor_53.2.2.2.2.2.1
theorem dX4_wishFor_65 : decode cX4_wishFor 65 = .ok (.invokestatic 63, 3) := sdX4_wishFor_53.2.2.2.2.2.2.1
theorem dX4_wishFor_68 : decode cX4_wishFor 68 = .ok (.aload_n 0, 1) := sdX4_wishFor_53.2.2.2.2.2.2.2.1
theorem sdX4_wishFor_69 : dz_Seg cX4_wishFor [(69, .getfield 27, 3), (72, .iload 6, 2), (74, .iconst 3, 1), (75, .imul, 1), (76, .iload_n 2, 1), (77, .invokestatic 63, 3), (80, .aload_n 0, 1), (81, .getfield 27, 3)] := dz_sg _ 69 (by decide +kernel)
theorem dX4_wishFor_69 : decode cX4_wishFor 69 = .ok (.getfield 27, 3) := sdX4_wishFor_69.1
theorem dX4_wishFor_72 : decode cX4_wishFor 72 = .ok (.iload 6, 2) := sdX4_wishFor_69.2.1
theorem dX4_wishFor_74 : decode cX4_wishFor 74 = .ok (.iconst 3, 1) := sdX4_wishFor_69.2.2.1
theorem dX4_wishFor_75 : decode cX4_wishFor 75 = .ok (.imul, 1) := sdX4_wishFor_69.2.2.2.1
theorem dX4_wishFor_76 : decode cX4_wishFor 76 = .ok (.iload_n 2, 1) := sdX4_wishFor_69.2.2.2.2.1
theorem dX4_wishFor_77 : decode cX4_wishFor 77 = .ok (.invokestatic 63, 3) := sdX4_wishFor_69.2.2.2.2.2.1
theorem dX4_wishFor_80 : decode cX4_wishFor 80 = .ok (.aload_n 0, 1) := sdX4_wishFor_69.2.2.2.2.2.2.1
theorem dX4_wishFor_81 : decode cX4_wishFor 81 = .ok (.getfield 27, 3) := sdX4_wishFor_69.2.2.2.2.2.2.2.1
theorem sdX4_wishFor_84 : dz_Seg cX4_wishFor [(84, .iload 6, 2), (86, .iconst 3, 1), (87, .imul, 1), (88, .iconst 1, 1), (89, .iadd, 1), (90, .iload_n 3, 1), (91, .invokestatic 63, 3), (94, .aload_n 0, 1)] := dz_sg _ 84 (by decide +kernel)
theorem dX4_wishFor_84 : decode cX4_wishFor 84 = .ok (.iload 6, 2) := sdX4_wishFor_84.1
theorem dX4_wishFor_86 : decode cX4_wishFor 86 = .ok (.iconst 3, 1) := sdX4_wishFor_84.2.1
theorem dX4_wishFor_87 : decode cX4_wishFor 87 = .ok (.imul, 1) := sdX4_wishFor_84.2.2.1
theorem dX4_wishFor_88 : decode cX4_wishFor 88 = .ok (.iconst 1, 1) := sdX4_wishFor_84.2.2.2.1
theorem dX4_wishFor_89 : decode cX4_wishFor 89 = .ok (.iadd, 1) := sdX4_wishFor_84.2.2.2.2.1
theorem dX4_wishFor_90 : decode cX4_wishFor 90 = .ok (.iload_n 3, 1) := sdX4_wishFor_84.2.2.2.2.2.1
theorem dX4_wishFor_91 : decode cX4_wishFor 91 = .ok (.invokestatic 63, 3) := sdX4_wishFor_84.2.2.2.2.2.2.1
theorem dX4_wishFor_94 : decode cX4_wishFor 94 = .ok (.aload_n 0, 1) := sdX4_wishFor_84.2.2.2.2.2.2.2.1
theorem sdX4_wishFor_95 : dz_Seg cX4_wishFor [(95, .getfield 27, 3), (98, .iload 6, 2), (100, .iconst 3, 1), (101, .imul, 1), (102, .iconst 2, 1), (103, .iadd, 1), (104, .iload 4, 2), (106, .invokestatic 63, 3)] := dz_sg _ 95 (by decide +kernel)
theorem dX4_wishFor_95 : decode cX4_wishFor 95 = .ok (.getfield 27, 3) := sdX4_wishFor_95.1
theorem dX4_wishFor_98 : decode cX4_wishFor 98 = .ok (.iload 6, 2) := sdX4_wishFor_95.2.1
theorem dX4_wishFor_100 : decode cX4_wishFor 100 = .ok (.iconst 3, 1) := sdX4_wishFor_95.2.2.1
theorem dX4_wishFor_101 : decode cX4_wishFor 101 = .ok (.imul, 1) := sdX4_wishFor_95.2.2.2.1
theorem dX4_wishFor_102 : decode cX4_wishFor 102 = .ok (.iconst 2, 1) := sdX4_wishFor_95.2.2.2.2.1
theorem dX4_wishFor_103 : decode cX4_wishFor 103 = .ok (.iadd, 1) := sdX4_wishFor_95.2.2.2.2.2.1
theorem dX4_wishFor_104 : decode cX4_wishFor 104 = .ok (.iload 4, 2) := sdX4_wishFor_95.2.2.2.2.2.2.1
theorem dX4_wishFor_106 : decode cX4_wishFor 106 = .ok (.invokestatic 63, 3) := sdX4_wishFor_95.2.2.2.2.2.2.2.1
theorem sdX4_wishFor_109 : dz_Seg cX4_wishFor [(109, .iinc 6 1, 3), (112, .goto (-74), 3), (115, .return_, 1)] := dz_sg _ 109 (by decide +kernel)
theorem dX4_wishFor_109 : decode cX4_wishFor 109 = .ok (.iinc 6 1, 3) := sdX4_wishFor_109.1
theorem dX4_wishFor_112 : decode cX4_wishFor 112 = .ok (.goto (-74), 3) := sdX4_wishFor_109.2.1
theorem dX4_wishFor_115 : decode cX4_wishFor 115 = .ok (.return_, 1) := sdX4_wishFor_109.2.2.1
theorem sdX4_live_0 : dz_Seg cX4_live [(0, .iconst 0, 1), (1, .istore_n 3, 1), (2, .iload_n 3, 1), (3, .aload_n 0, 1), (4, .getfield 37, 3), (7, .if_icmp .ge 59, 3), (10, .aload_n 1, 1), (11, .getfield 79, 3)] := dz_sg _ 0 (by decide +kernel)
theorem dX4_live_0 : decode cX4_live 0 = .ok (.iconst 0, 1) := sdX4_live_0.1
theorem dX4_live_1 : decode cX4_live 1 = .ok (.istore_n 3, 1) := sdX4_live_0.2.1
theorem dX4_live_2 : decode cX4_live 2 = .ok (.iload_n 3, 1) := sdX4_live_0.2.2.1
theorem dX4_live_3 : decode cX4_live 3 = .ok (.aload_n 0, 1) := sdX4_live_0.2.2.2.1
theorem dX4_live_4 : decode cX4_live 4 = .ok (.getfield 37, 3) := sdX4_live_0.2.2.2.2.1
theorem dX4_live_7 : decode cX4_live 7 = .ok (.if_icmp .ge 59, 3) := sdX4_live_0.2.2.2.2.2.1
theorem dX4_live_10 : decode cX4_live 10 = .ok (.aload_n 1, 1) := sdX4_live_0.2.2.2.2.2.2.1
theorem dX4_live_11 : decode cX4_live 11 = .ok (.getfield 79, 3) := sdX4_live_0.2.2.2.2.2.2.2.1
theorem sdX4_live_14 : dz_Seg cX4_live [(14, .iload_n 3, 1), (15, .invokestatic 67, 3), (18, .istore 4, 2), (20, .aload_n 0, 1), (21, .getfield 15, 3), (24, .iload_n 3, 1), (25, .aload_n 2, 1), (26, .aload_n 1, 1)] := dz_sg _ 14 (by decide +kernel)
theorem dX4_live_14 : decode cX4_live 14 = .ok (.iload_n 3, 1) := sdX4_live_14.1
theorem dX4_live_15 : decode cX4_live 15 = .ok (.invokestatic 67, 3) := sdX4_live_14.2.1
theorem dX4_live_18 : decode cX4_live 18 = .ok (.istore 4, 2) := sdX4_live_14.2.2.1
theorem dX4_live_20 : decode cX4_live 20 = .ok (.aload_n 0, 1) := sdX4_live_14.2.2.2.1
theorem dX4_live_21 : decode cX4_live 21 = .ok (.getfield 15, 3) := sdX4_live_14.2.2.2.2.1
theorem dX4_live_24 : decode cX4_live 24 = .ok (.iload_n 3, 1) := sdX4_live_14.2.2.2.2.2.1
theorem dX4_live_25 : decode cX4_live 25 = .ok (.aload_n 2, 1) := sdX4_live_14.2.2.2.2.2.2.1
theorem dX4_live_26 : decode cX4_live 26 = .ok (.aload_n 1, 1) := sdX4_live_14.2.2.2.2.2.2.2.1
theorem sdX4_live_27 : dz_Seg cX4_live [(27, .iload 4, 2), (29, .aload_n 0, 1), (30, .getfield 15, 3), (33, .iload_n 3, 1), (34, .invokestatic 67, 3), (37, .invokevirtual 84, 3), (40, .invokestatic 63, 3), (43, .aload_n 0, 1)] := dz_sg _ 27 (by decide +kernel)
theorem dX4_live_27 : decode cX4_live 27 = .ok (.iload 4, 2) := sdX4_live_27.1
theorem dX4_live_29 : decode cX4_live 29 = .ok (.aload_n 0, 1) := sdX4_live_27.2.1
theorem dX4_live_30 : decode cX4_live 30 = .ok (.getfield 15, 3) := sdX4_live_27.2.2.1
theorem dX4_live_33 : decode cX4_live 33 = .ok (.iload_n 3, 1) := sdX4_live_27.2.2.2.1
theorem dX4_live_34 : decode cX4_live 34 = .ok (.invokestatic 67, 3) := sdX4_live_27.2.2.2.2.1
theorem dX4_live_37 : decode cX4_live 37 = .ok (.invokevirtual 84, 3) := sdX4_live_27.2.2.2.2.2.1
theorem dX4_live_40 : decode cX4_live 40 = .ok (.invokestatic 63, 3) := sdX4_live_27.2.2.2.2.2.2.1
theorem dX4_live_43 : decode cX4_live 43 = .ok (.aload_n 0, 1) := sdX4_live_27.2.2.2.2.2.2.2.1
theorem sdX4_live_44 : dz_Seg cX4_live [(44, .getfield 30, 3), (47, .iload_n 3, 1), (48, .aload_n 2, 1), (49, .getfield 90, 3), (52, .iload 4, 2), (54, .invokestatic 67, 3), (57, .invokestatic 63, 3), (60, .iinc 3 1, 3)] := dz_sg _ 44 (by decide +kernel)
theorem dX4_live_44 : decode cX4_live 44 = .ok (.getfield 30, 3) := sdX4_live_44.1
theorem dX4_live_47 : decode cX4_live 47 = .ok (.iload_n 3, 1) := sdX4_live_44.2.1
theorem dX4_live_48 : decode cX4_live 48 = .ok (.aload_n 2, 1) := sdX4_live_44.2.2.1
theorem dX4_live_49 : decode cX4_live 49 = .ok (.getfield 90, 3) := sdX4_live_44.2.2.2.1
theorem dX4_live_52 : decode cX4_live 52 = .ok (.iload 4, 2) := sdX4_live_44.2.2.2.2.1
theorem dX4_live_54 : decode cX4_live 54 = .ok (.invokestatic 67, 3) := sdX4_live_44.2.2.2.2.2.1
theorem dX4_live_57 : decode cX4_live 57 = .ok (.invokestatic 63, 3) := sdX4_live_44.2.2.2.2.2.2.1
theorem dX4_live_60 : decode cX4_live 60 = .ok (.iinc 3 1, 3) := sdX4_live_44.2.2.2.2.2.2.2.1
theorem sdX4_live_63 : dz_Seg cX4_live [(63, .goto (-61), 3), (66, .return_, 1)] := dz_sg _ 63 (by decide +kernel)
theorem dX4_live_63 : decode cX4_live 63 = .ok (.goto (-61), 3) := sdX4_live_63.1
theorem dX4_live_66 : decode cX4_live 66 = .ok (.return_, 1) := sdX4_live_63.2.1
theorem sdX5_init_0 : dz_Seg cX5_init [(0, .aload_n 0, 1), (1, .invokespecial 3, 3), (4, .aload_n 0, 1), (5, .bipush 10, 2), (7, .newarray .int, 2), (9, .putfield 9, 3), (12, .aload_n 0, 1), (13, .bipush 10, 2)] := dz_sg _ 0 (by decide +kernel)
theorem dX5_init_0 : decode cX5_init 0 = .ok (.aload_n 0, 1) := sdX5_init_0.1
theorem dX5_init_1 : decode cX5_init 1 = .ok (.invokespecial 3, 3) := sdX5_init_0.2.1
theorem dX5_init_4 : decode cX5_init 4 = .ok (.aload_n 0, 1) := sdX5_init_0.2.2.1
theorem dX5_init_5 : decode cX5_init 5 = .ok (.bipush 10, 2) := sdX5_init_0.2.2.2.1
theorem dX5_init_7 : decode cX5_init 7 = .ok (.newarray .int, 2) := sdX5_init_0.2.2.2.2.1
theorem dX5_init_9 : decode cX5_init 9 = .ok (.putfield 9, 3) := sdX5_init_0.2.2.2.2.2.1
theorem dX5_init_12 : decode cX5_init 12 = .ok (.aload_n 0, 1) := sdX5_init_0.2.2.2.2.2.2.1
theorem dX5_init_13 : decode cX5_init 13 = .ok (.bipush 10, 2) := sdX5_init_0.2.2.2.2.2.2.2.1
theorem sdX5_init_15 : dz_Seg cX5_init [(15, .newarray .int, 2), (17, .putfield 15, 3), (20, .aload_n 0, 1), (21, .bipush 10, 2), (23, .newarray .int, 2), (25, .putfield 18, 3), (28, .aload_n 0, 1), (29, .iconst 5, 1)] := dz_sg _ 15 (by decide +kernel)
theorem dX5_init_15 : decode cX5_init 15 = .ok (.newarray .int, 2) := sdX5_init_15.1
theorem dX5_init_17 : decode cX5_init 17 = .ok (.putfield 15, 3) := sdX5_init_15.2.1
theorem dX5_init_20 : decode cX5_init 20 = .ok (.aload_n 0, 1) := sdX5_init_15.2.2.1
theorem dX5_init_21 : decode cX5_init 21 = .ok (.bipush 10, 2) := sdX5_init_15.2.2.2.1
theorem dX5_init_23 : decode cX5_init 23 = .ok (.newarray .int, 2) := sdX5_init_15.2.2.2.2.1
theorem dX5_init_25 : decode cX5_init 25 = .ok (.putfield 18, 3) := sdX5_init_15.2.2.2.2.2.1
theorem dX5_init_28 : decode cX5_init 28 = .ok (.aload_n 0, 1) := sdX5_init_15.2.2.2.2.2.2.1
theorem dX5_init_29 : decode cX5_init 29 = .ok (.iconst 5, 1) := sdX5_init_15.2.2.2.2.2.2.2.1
theorem sdX5_init_30 : dz_Seg cX5_init [(30, .newarray .int, 2), (32, .putfield 21, 3), (35, .aload_n 0, 1), (36, .iconst 5, 1), (37, .newarray .int, 2), (39, .putfield 24, 3), (42, .aload_n 0, 1), (43, .iconst 5, 1)] := dz_sg _ 30 (by decide +kernel)
theorem dX5_init_30 : decode cX5_init 30 = .ok (.newarray .int, 2) := sdX5_init_30.1
theorem dX5_init_32 : decode cX5_init 32 = .ok (.putfield 21, 3) := sdX5_init_30.2.1
theorem dX5_init_35 : decode cX5_init 35 = .ok (.aload_n 0, 1) := sdX5_init_30.2.2.1
theorem dX5_init_36 : decode cX5_init 36 = .ok (.iconst 5, 1) := sdX5_init_30.2.2.2.1
theorem dX5_init_37 : decode cX5_init 37 = .ok (.newarray .int, 2) := sdX5_init_30.2.2.2.2.1
theorem dX5_init_39 : decode cX5_init 39 = .ok (.putfield 24, 3) := sdX5_init_30.2.2.2.2.2.1
theorem dX5_init_42 : decode cX5_init 42 = .ok (.aload_n 0, 1) := sdX5_init_30.2.2.2.2.2.2.1
theorem dX5_init_43 : decode cX5_init 43 = .ok (.iconst 5, 1) := sdX5_init_30.2.2.2.2.2.2.2.1
theorem sdX5_init_44 : dz_Seg cX5_init [(44, .newarray .int, 2), (46, .putfield 27, 3), (49, .aload_n 0, 1), (50, .bipush 10, 2), (52, .newarray .int, 2), (54, .putfield 30, 3), (57, .return_, 1)] := dz_sg _ 44 (by decide +kernel)
theorem dX5_init_44 : decode cX5_init 44 = .ok (.newarray .int, 2) := sdX5_init_44.1
theorem dX5_init_46 : decode cX5_init 46 = .ok (.putfield 27, 3) := sdX5_init_44.2.1
theorem dX5_init_49 : decode cX5_init 49 = .ok (.aload_n 0, 1) := sdX5_init_44.2.2.1
theorem dX5_init_50 : decode cX5_init 50 = .ok (.bipush 10, 2) := sdX5_init_44.2.2.2.1
theorem dX5_init_52 : decode cX5_init 52 = .ok (.newarray .int, 2) := sdX5_init_44.2.2.2.2.1
theorem dX5_init_54 : decode cX5_init 54 = .ok (.putfield 30, 3) := sdX5_init_44.2.2.2.2.2.1
theorem dX5_init_57 : decode cX5_init 57 = .ok (.return_, 1) := sdX5_init_44.2.2.2.2.2.2.1
theorem sdX5_bySeed_0 : dz_Seg cX5_bySeed [(0, .aload_n 0, 1), (1, .aload_n 1, 1), (2, .iload_n 2, 1), (3, .invokevirtual 33, 3), (6, .aload_n 0, 1), (7, .aload_n 1, 1), (8, .invokevirtual 37, 3), (11, .return_, 1)] := dz_sg _ 0 (by decide +kernel)
theorem dX5_bySeed_0 : decode cX5_bySeed 0 = .ok (.aload_n 0, 1) := sdX5_bySeed_0.1
theorem dX5_bySeed_1 : decode cX5_bySeed 1 = .ok (.aload_n 1, 1) := sdX5_bySeed_0.2.1
theorem dX5_bySeed_2 : decode cX5_bySeed 2 = .ok (.iload_n 2, 1) := sdX5_bySeed_0.2.2.1
theorem dX5_bySeed_3 : decode cX5_bySeed 3 = .ok (.invokevirtual 33, 3) := sdX5_bySeed_0.2.2.2.1
theorem dX5_bySeed_6 : decode cX5_bySeed 6 = .ok (.aload_n 0, 1) := sdX5_bySeed_0.2.2.2.2.1
theorem dX5_bySeed_7 : decode cX5_bySeed 7 = .ok (.aload_n 1, 1) := sdX5_bySeed_0.2.2.2.2.2.1
theorem dX5_bySeed_8 : decode cX5_bySeed 8 = .ok (.invokevirtual 37, 3) := sdX5_bySeed_0.2.2.2.2.2.2.1
theorem dX5_bySeed_11 : decode cX5_bySeed 11 = .ok (.return_, 1) := sdX5_bySeed_0.2.2.2.2.2.2.2.1
theorem sdX5_lineUp_0 : dz_Seg cX5_lineUp [(0, .iload_n 2, 1), (1, .i2l, 1), (2, .lstore_n 3, 1), (3, .aload_n 1, 1), (4, .getfield 41, 3), (7, .istore 5, 2), (9, .iconst 1, 1), (10, .aload_n 1, 1)] := dz_sg _ 0 (by decide +kernel)
theorem dX5_lineUp_0 : decode cX5_lineUp 0 = .ok (.iload_n 2, 1) := sdX5_lineUp_0.1
theorem dX5_lineUp_1 : decode cX5_lineUp 1 = .ok (.i2l, 1) := sdX5_lineUp_0.2.1
theorem dX5_lineUp_2 : decode cX5_lineUp 2 = .ok (.lstore_n 3, 1) := sdX5_lineUp_0.2.2.1
theorem dX5_lineUp_3 : decode cX5_lineUp 3 = .ok (.aload_n 1, 1) := sdX5_lineUp_0.2.2.2.1
theorem dX5_lineUp_4 : decode cX5_lineUp 4 = .ok (.getfield 41, 3) := sdX5_lineUp_0.2.2.2.2.1
theorem dX5_lineUp_7 : decode cX5_lineUp 7 = .ok (.istore 5, 2) := sdX5_lineUp_0.2.2.2.2.2.1
theorem dX5_lineUp_9 : decode cX5_lineUp 9 = .ok (.iconst 1, 1) := sdX5_lineUp_0.2.2.2.2.2.2.1
theorem dX5_lineUp_10 : decode cX5_lineUp 10 = .ok (.aload_n 1, 1) := sdX5_lineUp_0.2.2.2.2.2.2.2.1
theorem sdX5_lineUp_11 : dz_Seg cX5_lineUp [(11, .getfield 47, 3), (14, .ishl, 1), (15, .iconst 1, 1), (16, .isub, 1), (17, .istore 6, 2), (19, .iconst 0, 1), (20, .istore 7, 2), (22, .iload 7, 2)] := dz_sg _ 11 (by decide +kernel)
theorem dX5_lineUp_11 : decode cX5_lineUp 11 = .ok (.getfield 47, 3) := sdX5_lineUp_11.1
theorem dX5_lineUp_14 : decode cX5_lineUp 14 = .ok (.ishl, 1) := sdX5_lineUp_11.2.1
theorem dX5_lineUp_15 : decode cX5_lineUp 15 = .ok (.iconst 1, 1) := sdX5_lineUp_11.2.2.1
theorem dX5_lineUp_16 : decode cX5_lineUp 16 = .ok (.isub, 1) := sdX5_lineUp_11.2.2.2.1
theorem dX5_lineUp_17 : decode cX5_lineUp 17 = .ok (.istore 6, 2) := sdX5_lineUp_11.2.2.2.2.1
theorem dX5_lineUp_19 : decode cX5_lineUp 19 = .ok (.iconst 0, 1) := sdX5_lineUp_11.2.2.2.2.2.1
theorem dX5_lineUp_20 : decode cX5_lineUp 20 = .ok (.istore 7, 2) := sdX5_lineUp_11.2.2.2.2.2.2.1
theorem dX5_lineUp_22 : decode cX5_lineUp 22 = .ok (.iload 7, 2) := sdX5_lineUp_11.2.2.2.2.2.2.2.1
theorem sdX5_lineUp_24 : dz_Seg cX5_lineUp [(24, .aload_n 1, 1), (25, .getfield 47, 3), (28, .if_icmp .ge 82, 3), (31, .iload 5, 2), (33, .ifCond .le 77, 3), (36, .ldc2_w 50, 3), (39, .lload_n 3, 1), (40, .lmul, 1)] := dz_sg _ 24 (by decide +kernel)
theorem dX5_lineUp_24 : decode cX5_lineUp 24 = .ok (.aload_n 1, 1) := sdX5_lineUp_24.1
theorem dX5_lineUp_25 : decode cX5_lineUp 25 = .ok (.getfield 47, 3) := sdX5_lineUp_24.2.1
theorem dX5_lineUp_28 : decode cX5_lineUp 28 = .ok (.if_icmp .ge 82, 3) := sdX5_lineUp_24.2.2.1
theorem dX5_lineUp_31 : decode cX5_lineUp 31 = .ok (.iload 5, 2) := sdX5_lineUp_24.2.2.2.1
theorem dX5_lineUp_33 : decode cX5_lineUp 33 = .ok (.ifCond .le 77, 3) := sdX5_lineUp_24.2.2.2.2.1
theorem dX5_lineUp_36 : decode cX5_lineUp 36 = .ok (.ldc2_w 50, 3) := sdX5_lineUp_24.2.2.2.2.2.1
theorem dX5_lineUp_39 : decode cX5_lineUp 39 = .ok (.lload_n 3, 1) := sdX5_lineUp_24.2.2.2.2.2.2.1
theorem dX5_lineUp_40 : decode cX5_lineUp 40 = .ok (.lmul, 1) := sdX5_lineUp_24.2.2.2.2.2.2.2.1
theorem sdX5_lineUp_41 : dz_Seg cX5_lineUp [(41, .ldc2_w 52, 3), (44, .ladd, 1), (45, .ldc2_w 54, 3), (48, .lrem, 1), (49, .lstore_n 3, 1), (50, .aload_n 1, 1), (51, .iload 6, 2), (53, .lload_n 3, 1)] := dz_sg _ 41 (by decide +kernel)
theorem dX5_lineUp_41 : decode cX5_lineUp 41 = .ok (.ldc2_w 52, 3) := sdX5_lineUp_41.1
theorem dX5_lineUp_44 : decode cX5_lineUp 44 = .ok (.ladd, 1) := sdX5_lineUp_41.2.1
theorem dX5_lineUp_45 : decode cX5_lineUp 45 = .ok (.ldc2_w 54, 3) := sdX5_lineUp_41.2.2.1
theorem dX5_lineUp_48 : decode cX5_lineUp 48 = .ok (.lrem, 1) := sdX5_lineUp_41.2.2.2.1
theorem dX5_lineUp_49 : decode cX5_lineUp 49 = .ok (.lstore_n 3, 1) := sdX5_lineUp_41.2.2.2.2.1
theorem dX5_lineUp_50 : decode cX5_lineUp 50 = .ok (.aload_n 1, 1) := sdX5_lineUp_41.2.2.2.2.2.1
theorem dX5_lineUp_51 : decode cX5_lineUp 51 = .ok (.iload 6, 2) := sdX5_lineUp_41.2.2.2.2.2.2.1
theorem dX5_lineUp_53 : decode cX5_lineUp 53 = .ok (.lload_n 3, 1) := sdX5_lineUp_41.2.2.2.2.2.2.2.1
theorem sdX5_lineUp_54 : dz_Seg cX5_lineUp [(54, .ldc2_w 56, 3), (57, .ldiv, 1), (58, .iload 5, 2), (60, .i2l, 1), (61, .lrem, 1), (62, .l2i, 1), (63, .invokestatic 58, 3), (66, .istore 8, 2)] := dz_sg _ 54 (by decide +kernel)
theorem dX5_lineUp_54 : decode cX5_lineUp 54 = .ok (.ldc2_w 56, 3) := sdX5_lineUp_54.1
theorem dX5_lineUp_57 : decode cX5_lineUp 57 = .ok (.ldiv, 1) := sdX5_lineUp_54.2.1
theorem dX5_lineUp_58 : decode cX5_lineUp 58 = .ok (.iload 5, 2) := sdX5_lineUp_54.2.2.1
theorem dX5_lineUp_60 : decode cX5_lineUp 60 = .ok (.i2l, 1) := sdX5_lineUp_54.2.2.2.1
theorem dX5_lineUp_61 : decode cX5_lineUp 61 = .ok (.lrem, 1) := sdX5_lineUp_54.2.2.2.2.1
theorem dX5_lineUp_62 : decode cX5_lineUp 62 = .ok (.l2i, 1) := sdX5_lineUp_54.2.2.2.2.2.1
theorem dX5_lineUp_63 : decode cX5_lineUp 63 = .ok (.invokestatic 58, 3) := sdX5_lineUp_54.2.2.2.2.2.2.1
theorem dX5_lineUp_66 : decode cX5_lineUp 66 = .ok (.istore 8, 2) := sdX5_lineUp_54.2.2.2.2.2.2.2.1
theorem sdX5_lineUp_68 : dz_Seg cX5_lineUp [(68, .aload_n 0, 1), (69, .getfield 9, 3), (72, .iload 7, 2), (74, .iload 8, 2), (76, .invokestatic 62, 3), (79, .iload 6, 2), (81, .iconst 1, 1), (82, .iload 8, 2)] := dz_sg _ 68 (by decide +kernel)
theorem dX5_lineUp_68 : decode cX5_lineUp 68 = .ok (.aload_n 0, 1) := sdX5_lineUp_68.1
theorem dX5_lineUp_69 : decode cX5_lineUp 69 = .ok (.getfield 9, 3) := sdX5_lineUp_68.2.1
theorem dX5_lineUp_72 : decode cX5_lineUp 72 = .ok (.iload 7, 2) := sdX5_lineUp_68.2.2.1
theorem dX5_lineUp_74 : decode cX5_lineUp 74 = .ok (.iload 8, 2) := sdX5_lineUp_68.2.2.2.1
theorem dX5_lineUp_76 : decode cX5_lineUp 76 = .ok (.invokestatic 62, 3) := sdX5_lineUp_68.2.2.2.2.1
theorem dX5_lineUp_79 : decode cX5_lineUp 79 = .ok (.iload 6, 2) := sdX5_lineUp_68.2.2.2.2.2.1
theorem dX5_lineUp_81 : decode cX5_lineUp 81 = .ok (.iconst 1, 1) := sdX5_lineUp_68.2.2.2.2.2.2.1
theorem dX5_lineUp_82 : decode cX5_lineUp 82 = .ok (.iload 8, 2) := sdX5_lineUp_68.2.2.2.2.2.2.2.1
theorem sdX5_lineUp_84 : dz_Seg cX5_lineUp [(84, .ishl, 1), (85, .iconst (-1), 1), (86, .ixor, 1), (87, .iand, 1), (88, .istore 6, 2), (90, .iload 5, 2), (92, .aload_n 1, 1), (93, .getfield 66, 3)] := dz_sg _ 84 (by decide +kernel)
theorem dX5_lineUp_84 : decode cX5_lineUp 84 = .ok (.ishl, 1) := sdX5_lineUp_84.1
theorem dX5_lineUp_85 : decode cX5_lineUp 85 = .ok (.iconst (-1), 1) := sdX5_lineUp_84.2.1
theorem dX5_lineUp_86 : decode cX5_lineUp 86 = .ok (.ixor, 1) := sdX5_lineUp_84.2.2.1
theorem dX5_lineUp_87 : decode cX5_lineUp 87 = .ok (.iand, 1) := sdX5_lineUp_84.2.2.2.1
theorem dX5_lineUp_88 : decode cX5_lineUp 88 = .ok (.istore 6, 2) := sdX5_lineUp_84.2.2.2.2.1
theorem dX5_lineUp_90 : decode cX5_lineUp 90 = .ok (.iload 5, 2) := sdX5_lineUp_84.2.2.2.2.2.1
theorem dX5_lineUp_92 : decode cX5_lineUp 92 = .ok (.aload_n 1, 1) := sdX5_lineUp_84.2.2.2.2.2.2.1
theorem dX5_lineUp_93 : decode cX5_lineUp 93 = .ok (.getfield 66, 3) := sdX5_lineUp_84.2.2.2.2.2.2.2.1
theorem sdX5_lineUp_96 : dz_Seg cX5_lineUp [(96, .iload 8, 2), (98, .invokestatic 69, 3), (101, .isub, 1), (102, .istore 5, 2), (104, .iinc 7 1, 3), (107, .goto (-85), 3), (110, .return_, 1)] := dz_sg _ 96 (by decide +kernel)
theorem dX5_lineUp_96 : decode cX5_lineUp 96 = .ok (.iload 8, 2) := sdX5_lineUp_96.1
theorem dX5_lineUp_98 : decode cX5_lineUp 98 = .ok (.invokestatic 69, 3) := sdX5_lineUp_96.2.1
theorem dX5_lineUp_101 : decode cX5_lineUp 101 = .ok (.isub, 1) := sdX5_lineUp_96.2.2.1
theorem dX5_lineUp_102 : decode cX5_lineUp 102 = .ok (.istore 5, 2) := sdX5_lineUp_96.2.2.2.1
theorem dX5_lineUp_104 : decode cX5_lineUp 104 = .ok (.iinc 7 1, 3) := sdX5_lineUp_96.2.2.2.2.1
theorem dX5_lineUp_107 : decode cX5_lineUp 107 = .ok (.goto (-85), 3) := sdX5_lineUp_96.2.2.2.2.2.1
theorem dX5_lineUp_110 : decode cX5_lineUp 110 = .ok (.return_, 1) := sdX5_lineUp_96.2.2.2.2.2.2.1
theorem sdX5_holderOf_0 : dz_Seg cX5_holderOf [(0, .iconst 0, 1), (1, .istore_n 3, 1), (2, .iconst 0, 1), (3, .istore 4, 2), (5, .iload 4, 2), (7, .aload_n 0, 1), (8, .getfield 47, 3), (11, .if_icmp .ge 39, 3)] := dz_sg _ 0 (by decide +kernel)
theorem dX5_holderOf_0 : decode cX5_holderOf 0 = .ok (.iconst 0, 1) := sdX5_holderOf_0.1
theorem dX5_holderOf_1 : decode cX5_holderOf 1 = .ok (.istore_n 3, 1) := sdX5_holderOf_0.2.1
theorem dX5_holderOf_2 : decode cX5_holderOf 2 = .ok (.iconst 0, 1) := sdX5_holderOf_0.2.2.1
theorem dX5_holderOf_3 : decode cX5_holderOf 3 = .ok (.istore 4, 2) := sdX5_holderOf_0.2.2.2.1
theorem dX5_holderOf_5 : decode cX5_holderOf 5 = .ok (.iload 4, 2) := sdX5_holderOf_0.2.2.2.2.1
theorem dX5_holderOf_7 : decode cX5_holderOf 7 = .ok (.aload_n 0, 1) := sdX5_holderOf_0.2.2.2.2.2.1
theorem dX5_holderOf_8 : decode cX5_holderOf 8 = .ok (.getfield 47, 3) := sdX5_holderOf_0.2.2.2.2.2.2.1
theorem dX5_holderOf_11 : decode cX5_holderOf 11 = .ok (.if_icmp .ge 39, 3) := sdX5_holderOf_0.2.2.2.2.2.2.2.1
theorem sdX5_holderOf_14 : dz_Seg cX5_holderOf [(14, .iload_n 1, 1), (15, .iload 4, 2), (17, .ishr, 1), (18, .iconst 1, 1), (19, .iand, 1), (20, .iconst 1, 1), (21, .if_icmp .ne 23, 3), (24, .iload_n 3, 1)] := dz_sg _ 14 (by decide +kernel)
theorem dX5_holderOf_14 : decode cX5_holderOf 14 = .ok (.iload_n 1, 1) := sdX5_holderOf_14.1
theorem dX5_holderOf_15 : decode cX5_holderOf 15 = .ok (.iload 4, 2) := sdX5_holderOf_14.2.1
theorem dX5_holderOf_17 : decode cX5_holderOf 17 = .ok (.ishr, 1) := sdX5_holderOf_14.2.2.1
theorem dX5_holderOf_18 : decode cX5_holderOf 18 = .ok (.iconst 1, 1) := sdX5_holderOf_14.2.2.2.1
theorem dX5_holderOf_19 : decode cX5_holderOf 19 = .ok (.iand, 1) := sdX5_holderOf_14.2.2.2.2.1
theorem dX5_holderOf_20 : decode cX5_holderOf 20 = .ok (.iconst 1, 1) := sdX5_holderOf_14.2.2.2.2.2.1
theorem dX5_holderOf_21 : decode cX5_holderOf 21 = .ok (.if_icmp .ne 23, 3) := sdX5_holderOf_14.2.2.2.2.2.2.1
theorem dX5_holderOf_24 : decode cX5_holderOf 24 = .ok (.iload_n 3, 1) := sdX5_holderOf_14.2.2.2.2.2.2.2.1
theorem sdX5_holderOf_25 : dz_Seg cX5_holderOf [(25, .aload_n 0, 1), (26, .getfield 66, 3), (29, .iload 4, 2), (31, .invokestatic 69, 3), (34, .iadd, 1), (35, .istore_n 3, 1), (36, .iload_n 3, 1), (37, .iload_n 2, 1)] := dz_sg _ 25 (by decide +kernel)
theorem dX5_holderOf_25 : decode cX5_holderOf 25 = .ok (.aload_n 0, 1) := sdX5_holderOf_25.1
theorem dX5_holderOf_26 : decode cX5_holderOf 26 = .ok (.getfield 66, 3) := sdX5_holderOf_25.2.1
theorem dX5_holderOf_29 : decode cX5_holderOf 29 = .ok (.iload 4, 2) := sdX5_holderOf_25.2.2.1
theorem dX5_holderOf_31 : decode cX5_holderOf 31 = .ok (.invokestatic 69, 3) := sdX5_holderOf_25.2.2.2.1
theorem dX5_holderOf_34 : decode cX5_holderOf 34 = .ok (.iadd, 1) := sdX5_holderOf_25.2.2.2.2.1
theorem dX5_holderOf_35 : decode cX5_holderOf 35 = .ok (.istore_n 3, 1) := sdX5_holderOf_25.2.2.2.2.2.1
theorem dX5_holderOf_36 : decode cX5_holderOf 36 = .ok (.iload_n 3, 1) := sdX5_holderOf_25.2.2.2.2.2.2.1
theorem dX5_holderOf_37 : decode cX5_holderOf 37 = .ok (.iload_n 2, 1) := sdX5_holderOf_25.2.2.2.2.2.2.2.1
theorem sdX5_holderOf_38 : dz_Seg cX5_holderOf [(38, .if_icmp .le 6, 3), (41, .iload 4, 2), (43, .ireturn, 1), (44, .iinc 4 1, 3), (47, .goto (-42), 3), (50, .iconst 0, 1), (51, .ireturn, 1)] := dz_sg _ 38 (by decide +kernel)
theorem dX5_holderOf_38 : decode cX5_holderOf 38 = .ok (.if_icmp .le 6, 3) := sdX5_holderOf_38.1
theorem dX5_holderOf_41 : decode cX5_holderOf 41 = .ok (.iload 4, 2) := sdX5_holderOf_38.2.1
theorem dX5_holderOf_43 : decode cX5_holderOf 43 = .ok (.ireturn, 1) := sdX5_holderOf_38.2.2.1
theorem dX5_holderOf_44 : decode cX5_holderOf 44 = .ok (.iinc 4 1, 3) := sdX5_holderOf_38.2.2.2.1
theorem dX5_holderOf_47 : decode cX5_holderOf 47 = .ok (.goto (-42), 3) := sdX5_holderOf_38.2.2.2.2.1
theorem dX5_holderOf_50 : decode cX5_holderOf 50 = .ok (.iconst 0, 1) := sdX5_holderOf_38.2.2.2.2.2.1
theorem dX5_holderOf_51 : decode cX5_holderOf 51 = .ok (.ireturn, 1) := sdX5_holderOf_38.2.2.2.2.2.2.1
theorem sdX5_settle_0 : dz_Seg cX5_settle [(0, .iconst 0, 1), (1, .istore_n 2, 1), (2, .iload_n 2, 1), (3, .aload_n 1, 1), (4, .getfield 47, 3), (7, .if_icmp .ge 27, 3), (10, .aload_n 0, 1), (11, .getfield 15, 3)] := dz_sg _ 0 (by decide +kernel)
theorem dX5_settle_0 : decode cX5_settle 0 = .ok (.iconst 0, 1) := sdX5_settle_0.1
theorem dX5_settle_1 : decode cX5_settle 1 = .ok (.istore_n 2, 1) := sdX5_settle_0.2.1
theorem dX5_settle_2 : decode cX5_settle 2 = .ok (.iload_n 2, 1) := sdX5_settle_0.2.2.1
theorem dX5_settle_3 : decode cX5_settle 3 = .ok (.aload_n 1, 1) := sdX5_settle_0.2.2.2.1
theorem dX5_settle_4 : decode cX5_settle 4 = .ok (.getfield 47, 3) := sdX5_settle_0.2.2.2.2.1
theorem dX5_settle_7 : decode cX5_settle 7 = .ok (.if_icmp .ge 27, 3) := sdX5_settle_0.2.2.2.2.2.1
theorem dX5_settle_10 : decode cX5_settle 10 = .ok (.aload_n 0, 1) := sdX5_settle_0.2.2.2.2.2.2.1
theorem dX5_settle_11 : decode cX5_settle 11 = .ok (.getfield 15, 3) := sdX5_settle_0.2.2.2.2.2.2.2.1
theorem sdX5_settle_14 : dz_Seg cX5_settle [(14, .iload_n 2, 1), (15, .iconst (-1), 1), (16, .invokestatic 62, 3), (19, .aload_n 0, 1), (20, .getfield 18, 3), (23, .iload_n 2, 1), (24, .iconst 0, 1), (25, .invokestatic 62, 3)] := dz_sg _ 14 (by decide +kernel)
theorem dX5_settle_14 : decode cX5_settle 14 = .ok (.iload_n 2, 1) := sdX5_settle_14.1
theorem dX5_settle_15 : decode cX5_settle 15 = .ok (.iconst (-1), 1) := sdX5_settle_14.2.1
theorem dX5_settle_16 : decode cX5_settle 16 = .ok (.invokestatic 62, 3) := sdX5_settle_14.2.2.1
theorem dX5_settle_19 : decode cX5_settle 19 = .ok (.aload_n 0, 1) := sdX5_settle_14.2.2.2.1
theorem dX5_settle_20 : decode cX5_settle 20 = .ok (.getfield 18, 3) := sdX5_settle_14.2.2.2.2.1
theorem dX5_settle_23 : decode cX5_settle 23 = .ok (.iload_n 2, 1) := sdX5_settle_14.2.2.2.2.2.1
theorem dX5_settle_24 : decode cX5_settle 24 = .ok (.iconst 0, 1) := sdX5_settle_14.2.2.2.2.2.2.1
theorem dX5_settle_25 : decode cX5_settle 25 = .ok (.invokestatic 62, 3) := sdX5_settle_14.2.2.2.2.2.2.2.1
theorem sdX5_settle_28 : dz_Seg cX5_settle [(28, .iinc 2 1, 3), (31, .goto (-29), 3), (34, .iconst 0, 1), (35, .istore_n 2, 1), (36, .iload_n 2, 1), (37, .aload_n 1, 1), (38, .getfield 73, 3), (41, .if_icmp .ge 57, 3)] := dz_sg _ 28 (by decide +kernel)
theorem dX5_settle_28 : decode cX5_settle 28 = .ok (.iinc 2 1, 3) := sdX5_settle_28.1
theorem dX5_settle_31 : decode cX5_settle 31 = .ok (.goto (-29), 3) := sdX5_settle_28.2.1
theorem dX5_settle_34 : decode cX5_settle 34 = .ok (.iconst 0, 1) := sdX5_settle_28.2.2.1
theorem dX5_settle_35 : decode cX5_settle 35 = .ok (.istore_n 2, 1) := sdX5_settle_28.2.2.2.1
theorem dX5_settle_36 : decode cX5_settle 36 = .ok (.iload_n 2, 1) := sdX5_settle_28.2.2.2.2.1
theorem dX5_settle_37 : decode cX5_settle 37 = .ok (.aload_n 1, 1) := sdX5_settle_28.2.2.2.2.2.1
theorem dX5_settle_38 : decode cX5_settle 38 = .ok (.getfield 73, 3) := sdX5_settle_28.2.2.2.2.2.2.1
theorem dX5_settle_41 : decode cX5_settle 41 = .ok (.if_icmp .ge 57, 3) := sdX5_settle_28.2.2.2.2.2.2.2.1
theorem sdX5_settle_44 : dz_Seg cX5_settle [(44, .aload_n 0, 1), (45, .getfield 21, 3), (48, .iload_n 2, 1), (49, .aload_n 1, 1), (50, .getfield 76, 3), (53, .iload_n 2, 1), (54, .invokestatic 69, 3), (57, .invokestatic 62, 3)] := dz_sg _ 44 (by decide +kernel)
theorem dX5_settle_44 : decode cX5_settle 44 = .ok (.aload_n 0, 1) := sdX5_settle_44.1
theorem dX5_settle_45 : decode cX5_settle 45 = .ok (.getfield 21, 3) := sdX5_settle_44.2.1
theorem dX5_settle_48 : decode cX5_settle 48 = .ok (.iload_n 2, 1) := sdX5_settle_44.2.2.1
theorem dX5_settle_49 : decode cX5_settle 49 = .ok (.aload_n 1, 1) := sdX5_settle_44.2.2.2.1
theorem dX5_settle_50 : decode cX5_settle 50 = .ok (.getfield 76, 3) := sdX5_settle_44.2.2.2.2.1
theorem dX5_settle_53 : decode cX5_settle 53 = .ok (.iload_n 2, 1) := sdX5_settle_44.2.2.2.2.2.1
theorem dX5_settle_54 : decode cX5_settle 54 = .ok (.invokestatic 69, 3) := sdX5_settle_44.2.2.2.2.2.2.1
theorem dX5_settle_57 : decode cX5_settle 57 = .ok (.invokestatic 62, 3) := sdX5_settle_44.2.2.2.2.2.2.2.1
theorem sdX5_settle_60 : dz_Seg cX5_settle [(60, .aload_n 0, 1), (61, .getfield 27, 3), (64, .iload_n 2, 1), (65, .aload_n 1, 1), (66, .getfield 79, 3), (69, .iload_n 2, 1), (70, .invokestatic 69, 3), (73, .invokestatic 62, 3)] := dz_sg _ 60 (by decide +kernel)
theorem dX5_settle_60 : decode cX5_settle 60 = .ok (.aload_n 0, 1) := sdX5_settle_60.1
theorem dX5_settle_61 : decode cX5_settle 61 = .ok (.getfield 27, 3) := sdX5_settle_60.2.1
theorem dX5_settle_64 : decode cX5_settle 64 = .ok (.iload_n 2, 1) := sdX5_settle_60.2.2.1
theorem dX5_settle_65 : decode cX5_settle 65 = .ok (.aload_n 1, 1) := sdX5_settle_60.2.2.2.1
theorem dX5_settle_66 : decode cX5_settle 66 = .ok (.getfield 79, 3) := sdX5_settle_60.2.2.2.2.1
theorem dX5_settle_69 : decode cX5_settle 69 = .ok (.iload_n 2, 1) := sdX5_settle_60.2.2.2.2.2.1
theorem dX5_settle_70 : decode cX5_settle 70 = .ok (.invokestatic 69, 3) := sdX5_settle_60.2.2.2.2.2.2.1
theorem dX5_settle_73 : decode cX5_settle 73 = .ok (.invokestatic 62, 3) := sdX5_settle_60.2.2.2.2.2.2.2.1
theorem sdX5_settle_76 : dz_Seg cX5_settle [(76, .aload_n 0, 1), (77, .getfield 24, 3), (80, .iload_n 2, 1), (81, .aload_n 1, 1), (82, .getfield 82, 3), (85, .iload_n 2, 1), (86, .invokestatic 69, 3), (89, .invokestatic 62, 3)] := dz_sg _ 76 (by decide +kernel)
theorem dX5_settle_76 : decode cX5_settle 76 = .ok (.aload_n 0, 1) := sdX5_settle_76.1
theorem dX5_settle_77 : decode cX5_settle 77 = .ok (.getfield 24, 3) := sdX5_settle_76.2.1
theorem dX5_settle_80 : decode cX5_settle 80 = .ok (.iload_n 2, 1) := sdX5_settle_76.2.2.1
theorem dX5_settle_81 : decode cX5_settle 81 = .ok (.aload_n 1, 1) := sdX5_settle_76.2.2.2.1
theorem dX5_settle_82 : decode cX5_settle 82 = .ok (.getfield 82, 3) := sdX5_settle_76.2.2.2.2.1
theorem dX5_settle_85 : decode cX5_settle 85 = .ok (.iload_n 2, 1) := sdX5_settle_76.2.2.2.2.2.1
theorem dX5_settle_86 : decode cX5_settle 86 = .ok (.invokestatic 69, 3) := sdX5_settle_76.2.2.2.2.2.2.1
theorem dX5_settle_89 : decode cX5_settle 89 = .ok (.invokestatic 62, 3) := sdX5_settle_76.2.2.2.2.2.2.2.1
theorem sdX5_settle_92 : dz_Seg cX5_settle [(92, .iinc 2 1, 3), (95, .goto (-59), 3), (98, .aload_n 1, 1), (99, .getfield 85, 3), (102, .ifCond .eq 8, 3), (105, .aload_n 0, 1), (106, .aload_n 1, 1), (107, .invokevirtual 89, 3)] := dz_sg _ 92 (by decide +kernel)
theorem dX5_settle_92 : decode cX5_settle 92 = .ok (.iinc 2 1, 3) := sdX5_settle_92.1
theorem dX5_settle_95 : decode cX5_settle 95 = .ok (.goto (-59), 3) := sdX5_settle_92.2.1
theorem dX5_settle_98 : decode cX5_settle 98 = .ok (.aload_n 1, 1) := sdX5_settle_92.2.2.1
theorem dX5_settle_99 : decode cX5_settle 99 = .ok (.getfield 85, 3) := sdX5_settle_92.2.2.2.1
theorem dX5_settle_102 : decode cX5_settle 102 = .ok (.ifCond .eq 8, 3) := sdX5_settle_92.2.2.2.2.1
theorem dX5_settle_105 : decode cX5_settle 105 = .ok (.aload_n 0, 1) := sdX5_settle_92.2.2.2.2.2.1
theorem dX5_settle_106 : decode cX5_settle 106 = .ok (.aload_n 1, 1) := sdX5_settle_92.2.2.2.2.2.2.1
theorem dX5_settle_107 : decode cX5_settle 107 = .ok (.invokevirtual 89, 3) := sdX5_settle_92.2.2.2.2.2.2.2.1
theorem sdX5_settle_110 : dz_Seg cX5_settle [(110, .aload_n 0, 1), (111, .aload_n 1, 1), (112, .invokevirtual 92, 3), (115, .return_, 1)] := dz_sg _ 110 (by decide +kernel)
theorem dX5_settle_110 : decode cX5_settle 110 = .ok (.aload_n 0, 1) := sdX5_settle_110.1
theorem dX5_settle_111 : decode cX5_settle 111 = .ok (.aload_n 1, 1) := sdX5_settle_110.2.1
theorem dX5_settle_112 : decode cX5_settle 112 = .ok (.invokevirtual 92, 3) := sdX5_settle_110.2.2.1
theorem dX5_settle_115 : decode cX5_settle 115 = .ok (.return_, 1) := sdX5_settle_110.2.2.2.1
theorem sdX5_firstRound_0 : dz_Seg cX5_firstRound [(0, .aload_n 0, 1), (1, .aload_n 1, 1), (2, .invokevirtual 95, 3), (5, .iconst 0, 1), (6, .istore_n 2, 1), (7, .iload_n 2, 1), (8, .aload_n 1, 1), (9, .getfield 47, 3)] := dz_sg _ 0 (by decide +kernel)
theorem dX5_firstRound_0 : decode cX5_firstRound 0 = .ok (.aload_n 0, 1) := sdX5_firstRound_0.1
theorem dX5_firstRound_1 : decode cX5_firstRound 1 = .ok (.aload_n 1, 1) := sdX5_firstRound_0.2.1
theorem dX5_firstRound_2 : decode cX5_firstRound 2 = .ok (.invokevirtual 95, 3) := sdX5_firstRound_0.2.2.1
theorem dX5_firstRound_5 : decode cX5_firstRound 5 = .ok (.iconst 0, 1) := sdX5_firstRound_0.2.2.2.1
theorem dX5_firstRound_6 : decode cX5_firstRound 6 = .ok (.istore_n 2, 1) := sdX5_firstRound_0.2.2.2.2.1
theorem dX5_firstRound_7 : decode cX5_firstRound 7 = .ok (.iload_n 2, 1) := sdX5_firstRound_0.2.2.2.2.2.1
theorem dX5_firstRound_8 : decode cX5_firstRound 8 = .ok (.aload_n 1, 1) := sdX5_firstRound_0.2.2.2.2.2.2.1
theorem dX5_firstRound_9 : decode cX5_firstRound 9 = .ok (.getfield 47, 3) := sdX5_firstRound_0.2.2.2.2.2.2.2.1
theorem sdX5_firstRound_12 : dz_Seg cX5_firstRound [(12, .if_icmp .ge 85, 3), (15, .aload_n 0, 1), (16, .getfield 30, 3), (19, .iload_n 2, 1), (20, .invokestatic 69, 3), (23, .istore_n 3, 1), (24, .aload_n 1, 1), (25, .iload_n 3, 1)] := dz_sg _ 12 (by decide +kernel)
theorem dX5_firstRound_12 : decode cX5_firstRound 12 = .ok (.if_icmp .ge 85, 3) := sdX5_firstRound_12.1
theorem dX5_firstRound_15 : decode cX5_firstRound 15 = .ok (.aload_n 0, 1) := sdX5_firstRound_12.2.1
theorem dX5_firstRound_16 : decode cX5_firstRound 16 = .ok (.getfield 30, 3) := sdX5_firstRound_12.2.2.1
theorem dX5_firstRound_19 : decode cX5_firstRound 19 = .ok (.iload_n 2, 1) := sdX5_firstRound_12.2.2.2.1
theorem dX5_firstRound_20 : decode cX5_firstRound 20 = .ok (.invokestatic 69, 3) := sdX5_firstRound_12.2.2.2.2.1
theorem dX5_firstRound_23 : decode cX5_firstRound 23 = .ok (.istore_n 3, 1) := sdX5_firstRound_12.2.2.2.2.2.1
theorem dX5_firstRound_24 : decode cX5_firstRound 24 = .ok (.aload_n 1, 1) := sdX5_firstRound_12.2.2.2.2.2.2.1
theorem dX5_firstRound_25 : decode cX5_firstRound 25 = .ok (.iload_n 3, 1) := sdX5_firstRound_12.2.2.2.2.2.2.2.1
theorem sdX5_firstRound_26 : dz_Seg cX5_firstRound [(26, .iconst 0, 1), (27, .invokevirtual 98, 3), (30, .istore 4, 2), (32, .iload 4, 2), (34, .iconst (-1), 1), (35, .if_icmp .eq 56, 3), (38, .aload_n 1, 1), (39, .iload_n 3, 1)] := dz_sg _ 26 (by decide +kernel)
theorem dX5_firstRound_26 : decode cX5_firstRound 26 = .ok (.iconst 0, 1) := sdX5_firstRound_26.1
theorem dX5_firstRound_27 : decode cX5_firstRound 27 = .ok (.invokevirtual 98, 3) := sdX5_firstRound_26.2.1
theorem dX5_firstRound_30 : decode cX5_firstRound 30 = .ok (.istore 4, 2) := sdX5_firstRound_26.2.2.1
theorem dX5_firstRound_32 : decode cX5_firstRound 32 = .ok (.iload 4, 2) := sdX5_firstRound_26.2.2.2.1
theorem dX5_firstRound_34 : decode cX5_firstRound 34 = .ok (.iconst (-1), 1) := sdX5_firstRound_26.2.2.2.2.1
theorem dX5_firstRound_35 : decode cX5_firstRound 35 = .ok (.if_icmp .eq 56, 3) := sdX5_firstRound_26.2.2.2.2.2.1
theorem dX5_firstRound_38 : decode cX5_firstRound 38 = .ok (.aload_n 1, 1) := sdX5_firstRound_26.2.2.2.2.2.2.1
theorem dX5_firstRound_39 : decode cX5_firstRound 39 = .ok (.iload_n 3, 1) := sdX5_firstRound_26.2.2.2.2.2.2.2.1
theorem sdX5_firstRound_40 : dz_Seg cX5_firstRound [(40, .aload_n 0, 1), (41, .getfield 27, 3), (44, .iload 4, 2), (46, .invokestatic 69, 3), (49, .aload_n 0, 1), (50, .getfield 24, 3), (53, .iload 4, 2), (55, .invokestatic 69, 3)] := dz_sg _ 40 (by decide +kernel)
theorem dX5_firstRound_40 : decode cX5_firstRound 40 = .ok (.aload_n 0, 1) := sdX5_firstRound_40.1
theorem dX5_firstRound_41 : decode cX5_firstRound 41 = .ok (.getfield 27, 3) := sdX5_firstRound_40.2.1
theorem dX5_firstRound_44 : decode cX5_firstRound 44 = .ok (.iload 4, 2) := sdX5_firstRound_40.2.2.1
theorem dX5_firstRound_46 : decode cX5_firstRound 46 = .ok (.invokestatic 69, 3) := sdX5_firstRound_40.2.2.2.1
theorem dX5_firstRound_49 : decode cX5_firstRound 49 = .ok (.aload_n 0, 1) := sdX5_firstRound_40.2.2.2.2.1
theorem dX5_firstRound_50 : decode cX5_firstRound 50 = .ok (.getfield 24, 3) := sdX5_firstRound_40.2.2.2.2.2.1
theorem dX5_firstRound_53 : decode cX5_firstRound 53 = .ok (.iload 4, 2) := sdX5_firstRound_40.2.2.2.2.2.2.1
theorem dX5_firstRound_55 : decode cX5_firstRound 55 = .ok (.invokestatic 69, 3) := sdX5_firstRound_40.2.2.2.2.2.2.2.1
theorem sdX5_firstRound_58 : dz_Seg cX5_firstRound [(58, .invokevirtual 102, 3), (61, .ifCond .eq 30, 3), (64, .aload_n 0, 1), (65, .getfield 27, 3), (68, .iload 4, 2), (70, .aload_n 1, 1), (71, .getfield 106, 3), (74, .iload_n 3, 1)] := dz_sg _ 58 (by decide +kernel)
theorem dX5_firstRound_58 : decode cX5_firstRound 58 = .ok (.invokevirtual 102, 3) := sdX5_firstRound_58.1
theorem dX5_firstRound_61 : decode cX5_firstRound 61 = .ok (.ifCond .eq 30, 3) := sdX5_firstRound_58.2.1
theorem dX5_firstRound_64 : decode cX5_firstRound 64 = .ok (.aload_n 0, 1) := sdX5_firstRound_58.2.2.1
theorem dX5_firstRound_65 : decode cX5_firstRound 65 = .ok (.getfield 27, 3) := sdX5_firstRound_58.2.2.2.1
theorem dX5_firstRound_68 : decode cX5_firstRound 68 = .ok (.iload 4, 2) := sdX5_firstRound_58.2.2.2.2.1
theorem dX5_firstRound_70 : decode cX5_firstRound 70 = .ok (.aload_n 1, 1) := sdX5_firstRound_58.2.2.2.2.2.1
theorem dX5_firstRound_71 : decode cX5_firstRound 71 = .ok (.getfield 106, 3) := sdX5_firstRound_58.2.2.2.2.2.2.1
theorem dX5_firstRound_74 : decode cX5_firstRound 74 = .ok (.iload_n 3, 1) := sdX5_firstRound_58.2.2.2.2.2.2.2.1
theorem sdX5_firstRound_75 : dz_Seg cX5_firstRound [(75, .invokestatic 69, 3), (78, .ineg, 1), (79, .invokestatic 109, 3), (82, .aload_n 0, 1), (83, .aload_n 1, 1), (84, .iload_n 3, 1), (85, .iload 4, 2), (87, .iconst 1, 1)] := dz_sg _ 75 (by decide +kernel)
theorem dX5_firstRound_75 : decode cX5_firstRound 75 = .ok (.invokestatic 69, 3) := sdX5_firstRound_75.1
theorem dX5_firstRound_78 : decode cX5_firstRound 78 = .ok (.ineg, 1) := sdX5_firstRound_75.2.1
theorem dX5_firstRound_79 : decode cX5_firstRound 79 = .ok (.invokestatic 109, 3) := sdX5_firstRound_75.2.2.1
theorem dX5_firstRound_82 : decode cX5_firstRound 82 = .ok (.aload_n 0, 1) := sdX5_firstRound_75.2.2.2.1
theorem dX5_firstRound_83 : decode cX5_firstRound 83 = .ok (.aload_n 1, 1) := sdX5_firstRound_75.2.2.2.2.1
theorem dX5_firstRound_84 : decode cX5_firstRound 84 = .ok (.iload_n 3, 1) := sdX5_firstRound_75.2.2.2.2.2.1
theorem dX5_firstRound_85 : decode cX5_firstRound 85 = .ok (.iload 4, 2) := sdX5_firstRound_75.2.2.2.2.2.2.1
theorem dX5_firstRound_87 : decode cX5_firstRound 87 = .ok (.iconst 1, 1) := sdX5_firstRound_75.2.2.2.2.2.2.2.1
theorem sdX5_firstRound_88 : dz_Seg cX5_firstRound [(88, .invokevirtual 112, 3), (91, .iinc 2 1, 3), (94, .goto (-87), 3), (97, .return_, 1)] := dz_sg _ 88 (by decide +kernel)
theorem dX5_firstRound_88 : decode cX5_firstRound 88 = .ok (.invokevirtual 112, 3) := sdX5_firstRound_88.1
theorem dX5_firstRound_91 : decode cX5_firstRound 91 = .ok (.iinc 2 1, 3) := sdX5_firstRound_88.2.1
theorem dX5_firstRound_94 : decode cX5_firstRound 94 = .ok (.goto (-87), 3) := sdX5_firstRound_88.2.2.1
theorem dX5_firstRound_97 : decode cX5_firstRound 97 = .ok (.return_, 1) := sdX5_firstRound_88.2.2.2.1
theorem sdX5_rank_0 : dz_Seg cX5_rank [(0, .iconst 0, 1), (1, .istore_n 2, 1), (2, .iload_n 2, 1), (3, .aload_n 1, 1), (4, .getfield 47, 3), (7, .if_icmp .ge 95, 3), (10, .aload_n 0, 1), (11, .getfield 9, 3)] := dz_sg _ 0 (by decide +kernel)
theorem dX5_rank_0 : decode cX5_rank 0 = .ok (.iconst 0, 1) := sdX5_rank_0.1
theorem dX5_rank_1 : decode cX5_rank 1 = .ok (.istore_n 2, 1) := sdX5_rank_0.2.1
theorem dX5_rank_2 : decode cX5_rank 2 = .ok (.iload_n 2, 1) := sdX5_rank_0.2.2.1
theorem dX5_rank_3 : decode cX5_rank 3 = .ok (.aload_n 1, 1) := sdX5_rank_0.2.2.2.1
theorem dX5_rank_4 : decode cX5_rank 4 = .ok (.getfield 47, 3) := sdX5_rank_0.2.2.2.2.1
theorem dX5_rank_7 : decode cX5_rank 7 = .ok (.if_icmp .ge 95, 3) := sdX5_rank_0.2.2.2.2.2.1
theorem dX5_rank_10 : decode cX5_rank 10 = .ok (.aload_n 0, 1) := sdX5_rank_0.2.2.2.2.2.2.1
theorem dX5_rank_11 : decode cX5_rank 11 = .ok (.getfield 9, 3) := sdX5_rank_0.2.2.2.2.2.2.2.1
theorem sdX5_rank_14 : dz_Seg cX5_rank [(14, .iload_n 2, 1), (15, .invokestatic 69, 3), (18, .istore_n 3, 1), (19, .aload_n 1, 1), (20, .getfield 116, 3), (23, .iload_n 3, 1), (24, .invokestatic 69, 3), (27, .istore 4, 2)] := dz_sg _ 14 (by decide +kernel)
theorem dX5_rank_14 : decode cX5_rank 14 = .ok (.iload_n 2, 1) := sdX5_rank_14.1
theorem dX5_rank_15 : decode cX5_rank 15 = .ok (.invokestatic 69, 3) := sdX5_rank_14.2.1
theorem dX5_rank_18 : decode cX5_rank 18 = .ok (.istore_n 3, 1) := sdX5_rank_14.2.2.1
theorem dX5_rank_19 : decode cX5_rank 19 = .ok (.aload_n 1, 1) := sdX5_rank_14.2.2.2.1
theorem dX5_rank_20 : decode cX5_rank 20 = .ok (.getfield 116, 3) := sdX5_rank_14.2.2.2.2.1
theorem dX5_rank_23 : decode cX5_rank 23 = .ok (.iload_n 3, 1) := sdX5_rank_14.2.2.2.2.2.1
theorem dX5_rank_24 : decode cX5_rank 24 = .ok (.invokestatic 69, 3) := sdX5_rank_14.2.2.2.2.2.2.1
theorem dX5_rank_27 : decode cX5_rank 27 = .ok (.istore 4, 2) := sdX5_rank_14.2.2.2.2.2.2.2.1
theorem sdX5_rank_29 : dz_Seg cX5_rank [(29, .iload_n 2, 1), (30, .istore 5, 2), (32, .iload 5, 2), (34, .ifCond .le 52, 3), (37, .aload_n 1, 1), (38, .getfield 116, 3), (41, .aload_n 0, 1), (42, .getfield 30, 3)] := dz_sg _ 29 (by decide +kernel)
theorem dX5_rank_29 : decode cX5_rank 29 = .ok (.iload_n 2, 1) := sdX5_rank_29.1
theorem dX5_rank_30 : decode cX5_rank 30 = .ok (.istore 5, 2) := sdX5_rank_29.2.1
theorem dX5_rank_32 : decode cX5_rank 32 = .ok (.iload 5, 2) := sdX5_rank_29.2.2.1
theorem dX5_rank_34 : decode cX5_rank 34 = .ok (.ifCond .le 52, 3) := sdX5_rank_29.2.2.2.1
theorem dX5_rank_37 : decode cX5_rank 37 = .ok (.aload_n 1, 1) := sdX5_rank_29.2.2.2.2.1
theorem dX5_rank_38 : decode cX5_rank 38 = .ok (.getfield 116, 3) := sdX5_rank_29.2.2.2.2.2.1
theorem dX5_rank_41 : decode cX5_rank 41 = .ok (.aload_n 0, 1) := sdX5_rank_29.2.2.2.2.2.2.1
theorem dX5_rank_42 : decode cX5_rank 42 = .ok (.getfield 30, 3) := sdX5_rank_29.2.2.2.2.2.2.2.1
theorem sdX5_rank_45 : dz_Seg cX5_rank [(45, .iload 5, 2), (47, .iconst 1, 1), (48, .isub, 1), (49, .invokestatic 69, 3), (52, .invokestatic 69, 3), (55, .iload 4, 2), (57, .if_icmp .ge 29, 3), (60, .aload_n 0, 1)] := dz_sg _ 45 (by decide +kernel)
theorem dX5_rank_45 : decode cX5_rank 45 = .ok (.iload 5, 2) := sdX5_rank_45.1
theorem dX5_rank_47 : decode cX5_rank 47 = .ok (.iconst 1, 1) := sdX5_rank_45.2.1
theorem dX5_rank_48 : decode cX5_rank 48 = .ok (.isub, 1) := sdX5_rank_45.2.2.1
theorem dX5_rank_49 : decode cX5_rank 49 = .ok (.invokestatic 69, 3) := sdX5_rank_45.2.2.2.1
theorem dX5_rank_52 : decode cX5_rank 52 = .ok (.invokestatic 69, 3) := sdX5_rank_45.2.2.2.2.1
theorem dX5_rank_55 : decode cX5_rank 55 = .ok (.iload 4, 2) := sdX5_rank_45.2.2.2.2.2.1
theorem dX5_rank_57 : decode cX5_rank 57 = .ok (.if_icmp .ge 29, 3) := sdX5_rank_45.2.2.2.2.2.2.1
theorem dX5_rank_60 : decode cX5_rank 60 = .ok (.aload_n 0, 1) := sdX5_rank_45.2.2.2.2.2.2.2.1
theorem sdX5_rank_61 : dz_Seg cX5_rank [(61, .getfield 30, 3), (64, .iload 5, 2), (66, .aload_n 0, 1), (67, .getfield 30, 3), (70, .iload 5, 2), (72, .iconst 1, 1), (73, .isub, 1), (74, .invokestatic 69, 3)] := dz_sg _ 61 (by decide +kernel)
theorem dX5_rank_61 : decode cX5_rank 61 = .ok (.getfield 30, 3) := sdX5_rank_61.1
theorem dX5_rank_64 : decode cX5_rank 64 = .ok (.iload 5, 2) := sdX5_rank_61.2.1
theorem dX5_rank_66 : decode cX5_rank 66 = .ok (.aload_n 0, 1) := sdX5_rank_61.2.2.1
theorem dX5_rank_67 : decode cX5_rank 67 = .ok (.getfield 30, 3) := sdX5_rank_61.2.2.2.1
theorem dX5_rank_70 : decode cX5_rank 70 = .ok (.iload 5, 2) := sdX5_rank_61.2.2.2.2.1
theorem dX5_rank_72 : decode cX5_rank 72 = .ok (.iconst 1, 1) := sdX5_rank_61.2.2.2.2.2.1
theorem dX5_rank_73 : decode cX5_rank 73 = .ok (.isub, 1) := sdX5_rank_61.2.2.2.2.2.2.1
theorem dX5_rank_74 : decode cX5_rank 74 = .ok (.invokestatic 69, 3) := sdX5_rank_61.2.2.2.2.2.2.2.1
theorem sdX5_rank_77 : dz_Seg cX5_rank [(77, .invokestatic 62, 3), (80, .iinc 5 (-1), 3), (83, .goto (-51), 3), (86, .aload_n 0, 1), (87, .getfield 30, 3), (90, .iload 5, 2), (92, .iload_n 3, 1), (93, .invokestatic 62, 3)] := dz_sg _ 77 (by decide +kernel)
theorem dX5_rank_77 : decode cX5_rank 77 = .ok (.invokestatic 62, 3) := sdX5_rank_77.1
theorem dX5_rank_80 : decode cX5_rank 80 = .ok (.iinc 5 (-1), 3) := sdX5_rank_77.2.1
theorem dX5_rank_83 : decode cX5_rank 83 = .ok (.goto (-51), 3) := sdX5_rank_77.2.2.1
theorem dX5_rank_86 : decode cX5_rank 86 = .ok (.aload_n 0, 1) := sdX5_rank_77.2.2.2.1
theorem dX5_rank_87 : decode cX5_rank 87 = .ok (.getfield 30, 3) := sdX5_rank_77.2.2.2.2.1
theorem dX5_rank_90 : decode cX5_rank 90 = .ok (.iload 5, 2) := sdX5_rank_77.2.2.2.2.2.1
theorem dX5_rank_92 : decode cX5_rank 92 = .ok (.iload_n 3, 1) := sdX5_rank_77.2.2.2.2.2.2.1
theorem dX5_rank_93 : decode cX5_rank 93 = .ok (.invokestatic 62, 3) := sdX5_rank_77.2.2.2.2.2.2.2.1
theorem sdX5_rank_96 : dz_Seg cX5_rank [(96, .iinc 2 1, 3), (99, .goto (-97), 3), (102, .return_, 1)] := dz_sg _ 96 (by decide +kernel)
theorem dX5_rank_96 : decode cX5_rank 96 = .ok (.iinc 2 1, 3) := sdX5_rank_96.1
theorem dX5_rank_99 : decode cX5_rank 99 = .ok (.goto (-97), 3) := sdX5_rank_96.2.1
theorem dX5_rank_102 : decode cX5_rank 102 = .ok (.return_, 1) := sdX5_rank_96.2.2.1
theorem sdX5_secondRound_0 : dz_Seg cX5_secondRound [(0, .iconst 0, 1), (1, .istore_n 2, 1), (2, .iload_n 2, 1), (3, .aload_n 1, 1), (4, .getfield 47, 3), (7, .if_icmp .ge 107, 3), (10, .aload_n 0, 1), (11, .getfield 9, 3)] := dz_sg _ 0 (by decide +kernel)
theorem dX5_secondRound_0 : decode cX5_secondRound 0 = .ok (.iconst 0, 1) := sdX5_secondRound_0.1
theorem dX5_secondRound_1 : decode cX5_secondRound 1 = .ok (.istore_n 2, 1) := sdX5_secondRound_0.2.1
theorem dX5_secondRound_2 : decode cX5_secondRound 2 = .ok (.iload_n 2, 1) := sdX5_secondRound_0.2.2.1
theorem dX5_secondRound_3 : decode cX5_secondRound 3 = .ok (.aload_n 1, 1) := sdX5_secondRound_0.2.2.2.1
theorem dX5_secondRound_4 : decode cX5_secondRound 4 = .ok (.getfield 47, 3) := sdX5_secondRound_0.2.2.2.2.1
theorem dX5_secondRound_7 : decode cX5_secondRound 7 = .ok (.if_icmp .ge 107, 3) := sdX5_secondRound_0.2.2.2.2.2.1
theorem dX5_secondRound_10 : decode cX5_secondRound 10 = .ok (.aload_n 0, 1) := sdX5_secondRound_0.2.2.2.2.2.2.1
theorem dX5_secondRound_11 : decode cX5_secondRound 11 = .ok (.getfield 9, 3) := sdX5_secondRound_0.2.2.2.2.2.2.2.1
theorem sdX5_secondRound_14 : dz_Seg cX5_secondRound [(14, .iload_n 2, 1), (15, .invokestatic 69, 3), (18, .istore_n 3, 1), (19, .aload_n 0, 1), (20, .getfield 15, 3), (23, .iload_n 3, 1), (24, .invokestatic 69, 3), (27, .iconst (-1), 1)] := dz_sg _ 14 (by decide +kernel)
theorem dX5_secondRound_14 : decode cX5_secondRound 14 = .ok (.iload_n 2, 1) := sdX5_secondRound_14.1
theorem dX5_secondRound_15 : decode cX5_secondRound 15 = .ok (.invokestatic 69, 3) := sdX5_secondRound_14.2.1
theorem dX5_secondRound_18 : decode cX5_secondRound 18 = .ok (.istore_n 3, 1) := sdX5_secondRound_14.2.2.1
theorem dX5_secondRound_19 : decode cX5_secondRound 19 = .ok (.aload_n 0, 1) := sdX5_secondRound_14.2.2.2.1
theorem dX5_secondRound_20 : decode cX5_secondRound 20 = .ok (.getfield 15, 3) := sdX5_secondRound_14.2.2.2.2.1
theorem dX5_secondRound_23 : decode cX5_secondRound 23 = .ok (.iload_n 3, 1) := sdX5_secondRound_14.2.2.2.2.2.1
theorem dX5_secondRound_24 : decode cX5_secondRound 24 = .ok (.invokestatic 69, 3) := sdX5_secondRound_14.2.2.2.2.2.2.1
theorem dX5_secondRound_27 : decode cX5_secondRound 27 = .ok (.iconst (-1), 1) := sdX5_secondRound_14.2.2.2.2.2.2.2.1
theorem sdX5_secondRound_28 : dz_Seg cX5_secondRound [(28, .if_icmp .ne 14, 3), (31, .aload_n 1, 1), (32, .getfield 119, 3), (35, .iload_n 3, 1), (36, .invokestatic 69, 3), (39, .goto 4, 3), (42, .iconst 0, 1), (43, .istore 4, 2)] := dz_sg _ 28 (by decide +kernel)
theorem dX5_secondRound_28 : decode cX5_secondRound 28 = .ok (.if_icmp .ne 14, 3) := sdX5_secondRound_28.1
theorem dX5_secondRound_31 : decode cX5_secondRound 31 = .ok (.aload_n 1, 1) := sdX5_secondRound_28.2.1
theorem dX5_secondRound_32 : decode cX5_secondRound 32 = .ok (.getfield 119, 3) := sdX5_secondRound_28.2.2.1
theorem dX5_secondRound_35 : decode cX5_secondRound 35 = .ok (.iload_n 3, 1) := sdX5_secondRound_28.2.2.2.1
theorem dX5_secondRound_36 : decode cX5_secondRound 36 = .ok (.invokestatic 69, 3) := sdX5_secondRound_28.2.2.2.2.1
theorem dX5_secondRound_39 : decode cX5_secondRound 39 = .ok (.goto 4, 3) := sdX5_secondRound_28.2.2.2.2.2.1
theorem dX5_secondRound_42 : decode cX5_secondRound 42 = .ok (.iconst 0, 1) := sdX5_secondRound_28.2.2.2.2.2.2.1
theorem dX5_secondRound_43 : decode cX5_secondRound 43 = .ok (.istore 4, 2) := sdX5_secondRound_28.2.2.2.2.2.2.2.1
theorem sdX5_secondRound_45 : dz_Seg cX5_secondRound [(45, .iconst 0, 1), (46, .istore 5, 2), (48, .iload 5, 2), (50, .iload 4, 2), (52, .if_icmp .ge 56, 3), (55, .aload_n 1, 1), (56, .iload_n 3, 1), (57, .iload 5, 2)] := dz_sg _ 45 (by decide +kernel)
theorem dX5_secondRound_45 : decode cX5_secondRound 45 = .ok (.iconst 0, 1) := sdX5_secondRound_45.1
theorem dX5_secondRound_46 : decode cX5_secondRound 46 = .ok (.istore 5, 2) := sdX5_secondRound_45.2.1
theorem dX5_secondRound_48 : decode cX5_secondRound 48 = .ok (.iload 5, 2) := sdX5_secondRound_45.2.2.1
theorem dX5_secondRound_50 : decode cX5_secondRound 50 = .ok (.iload 4, 2) := sdX5_secondRound_45.2.2.2.1
theorem dX5_secondRound_52 : decode cX5_secondRound 52 = .ok (.if_icmp .ge 56, 3) := sdX5_secondRound_45.2.2.2.2.1
theorem dX5_secondRound_55 : decode cX5_secondRound 55 = .ok (.aload_n 1, 1) := sdX5_secondRound_45.2.2.2.2.2.1
theorem dX5_secondRound_56 : decode cX5_secondRound 56 = .ok (.iload_n 3, 1) := sdX5_secondRound_45.2.2.2.2.2.2.1
theorem dX5_secondRound_57 : decode cX5_secondRound 57 = .ok (.iload 5, 2) := sdX5_secondRound_45.2.2.2.2.2.2.2.1
theorem sdX5_secondRound_59 : dz_Seg cX5_secondRound [(59, .invokevirtual 98, 3), (62, .istore 6, 2), (64, .aload_n 1, 1), (65, .iload_n 3, 1), (66, .aload_n 0, 1), (67, .getfield 21, 3), (70, .iload 6, 2), (72, .invokestatic 69, 3)] := dz_sg _ 59 (by decide +kernel)
theorem dX5_secondRound_59 : decode cX5_secondRound 59 = .ok (.invokevirtual 98, 3) := sdX5_secondRound_59.1
theorem dX5_secondRound_62 : decode cX5_secondRound 62 = .ok (.istore 6, 2) := sdX5_secondRound_59.2.1
theorem dX5_secondRound_64 : decode cX5_secondRound 64 = .ok (.aload_n 1, 1) := sdX5_secondRound_59.2.2.1
theorem dX5_secondRound_65 : decode cX5_secondRound 65 = .ok (.iload_n 3, 1) := sdX5_secondRound_59.2.2.2.1
theorem dX5_secondRound_66 : decode cX5_secondRound 66 = .ok (.aload_n 0, 1) := sdX5_secondRound_59.2.2.2.2.1
theorem dX5_secondRound_67 : decode cX5_secondRound 67 = .ok (.getfield 21, 3) := sdX5_secondRound_59.2.2.2.2.2.1
theorem dX5_secondRound_70 : decode cX5_secondRound 70 = .ok (.iload 6, 2) := sdX5_secondRound_59.2.2.2.2.2.2.1
theorem dX5_secondRound_72 : decode cX5_secondRound 72 = .ok (.invokestatic 69, 3) := sdX5_secondRound_59.2.2.2.2.2.2.2.1
theorem sdX5_secondRound_75 : dz_Seg cX5_secondRound [(75, .aload_n 0, 1), (76, .getfield 24, 3), (79, .iload 6, 2), (81, .invokestatic 69, 3), (84, .invokevirtual 102, 3), (87, .ifCond .eq 15, 3), (90, .aload_n 0, 1), (91, .aload_n 1, 1)] := dz_sg _ 75 (by decide +kernel)
theorem dX5_secondRound_75 : decode cX5_secondRound 75 = .ok (.aload_n 0, 1) := sdX5_secondRound_75.1
theorem dX5_secondRound_76 : decode cX5_secondRound 76 = .ok (.getfield 24, 3) := sdX5_secondRound_75.2.1
theorem dX5_secondRound_79 : decode cX5_secondRound 79 = .ok (.iload 6, 2) := sdX5_secondRound_75.2.2.1
theorem dX5_secondRound_81 : decode cX5_secondRound 81 = .ok (.invokestatic 69, 3) := sdX5_secondRound_75.2.2.2.1
theorem dX5_secondRound_84 : decode cX5_secondRound 84 = .ok (.invokevirtual 102, 3) := sdX5_secondRound_75.2.2.2.2.1
theorem dX5_secondRound_87 : decode cX5_secondRound 87 = .ok (.ifCond .eq 15, 3) := sdX5_secondRound_75.2.2.2.2.2.1
theorem dX5_secondRound_90 : decode cX5_secondRound 90 = .ok (.aload_n 0, 1) := sdX5_secondRound_75.2.2.2.2.2.2.1
theorem dX5_secondRound_91 : decode cX5_secondRound 91 = .ok (.aload_n 1, 1) := sdX5_secondRound_75.2.2.2.2.2.2.2.1
theorem sdX5_secondRound_92 : dz_Seg cX5_secondRound [(92, .iload_n 3, 1), (93, .iload 6, 2), (95, .iconst 2, 1), (96, .invokevirtual 112, 3), (99, .goto 9, 3), (102, .iinc 5 1, 3), (105, .goto (-57), 3), (108, .iinc 2 1, 3)] := dz_sg _ 92 (by decide +kernel)
theorem dX5_secondRound_92 : decode cX5_secondRound 92 = .ok (.iload_n 3, 1) := sdX5_secondRound_92.1
theorem dX5_secondRound_93 : decode cX5_secondRound 93 = .ok (.iload 6, 2) := sdX5_secondRound_92.2.1
theorem dX5_secondRound_95 : decode cX5_secondRound 95 = .ok (.iconst 2, 1) := sdX5_secondRound_92.2.2.1
theorem dX5_secondRound_96 : decode cX5_secondRound 96 = .ok (.invokevirtual 112, 3) := sdX5_secondRound_92.2.2.2.1
theorem dX5_secondRound_99 : decode cX5_secondRound 99 = .ok (.goto 9, 3) := sdX5_secondRound_92.2.2.2.2.1
theorem dX5_secondRound_102 : decode cX5_secondRound 102 = .ok (.iinc 5 1, 3) := sdX5_secondRound_92.2.2.2.2.2.1
theorem dX5_secondRound_105 : decode cX5_secondRound 105 = .ok (.goto (-57), 3) := sdX5_secondRound_92.2.2.2.2.2.2.1
theorem dX5_secondRound_108 : decode cX5_secondRound 108 = .ok (.iinc 2 1, 3) := sdX5_secondRound_92.2.2.2.2.2.2.2.1
theorem sdX5_secondRound_111 : dz_Seg cX5_secondRound [(111, .goto (-109), 3), (114, .return_, 1)] := dz_sg _ 111 (by decide +kernel)
theorem dX5_secondRound_111 : decode cX5_secondRound 111 = .ok (.goto (-109), 3) := sdX5_secondRound_111.1
theorem dX5_secondRound_114 : decode cX5_secondRound 114 = .ok (.return_, 1) := sdX5_secondRound_111.2.1
theorem sdX5_hold_0 : dz_Seg cX5_hold [(0, .aload_n 0, 1), (1, .getfield 15, 3), (4, .iload_n 2, 1), (5, .iload_n 3, 1), (6, .invokestatic 62, 3), (9, .aload_n 0, 1), (10, .getfield 18, 3), (13, .iload_n 2, 1)] := dz_sg _ 0 (by decide +kernel)
theorem dX5_hold_0 : decode cX5_hold 0 = .ok (.aload_n 0, 1) := sdX5_hold_0.1
theorem dX5_hold_1 : decode cX5_hold 1 = .ok (.getfield 15, 3) := sdX5_hold_0.2.1
theorem dX5_hold_4 : decode cX5_hold 4 = .ok (.iload_n 2, 1) := sdX5_hold_0.2.2.1
theorem dX5_hold_5 : decode cX5_hold 5 = .ok (.iload_n 3, 1) := sdX5_hold_0.2.2.2.1
theorem dX5_hold_6 : decode cX5_hold 6 = .ok (.invokestatic 62, 3) := sdX5_hold_0.2.2.2.2.1
theorem dX5_hold_9 : decode cX5_hold 9 = .ok (.aload_n 0, 1) := sdX5_hold_0.2.2.2.2.2.1
theorem dX5_hold_10 : decode cX5_hold 10 = .ok (.getfield 18, 3) := sdX5_hold_0.2.2.2.2.2.2.1
theorem dX5_hold_13 : decode cX5_hold 13 = .ok (.iload_n 2, 1) := sdX5_hold_0.2.2.2.2.2.2.2.1
theorem sdX5_hold_14 : dz_Seg cX5_hold [(14, .iload 4, 2), (16, .invokestatic 62, 3), (19, .aload_n 0, 1), (20, .getfield 21, 3), (23, .iload_n 3, 1), (24, .aload_n 1, 1), (25, .getfield 106, 3), (28, .iload_n 2, 1)] := dz_sg _ 14 (by decide +kernel)
theorem dX5_hold_14 : decode cX5_hold 14 = .ok (.iload 4, 2) := sdX5_hold_14.1
theorem dX5_hold_16 : decode cX5_hold 16 = .ok (.invokestatic 62, 3) := sdX5_hold_14.2.1
theorem dX5_hold_19 : decode cX5_hold 19 = .ok (.aload_n 0, 1) := sdX5_hold_14.2.2.1
theorem dX5_hold_20 : decode cX5_hold 20 = .ok (.getfield 21, 3) := sdX5_hold_14.2.2.2.1
theorem dX5_hold_23 : decode cX5_hold 23 = .ok (.iload_n 3, 1) := sdX5_hold_14.2.2.2.2.1
theorem dX5_hold_24 : decode cX5_hold 24 = .ok (.aload_n 1, 1) := sdX5_hold_14.2.2.2.2.2.1
theorem dX5_hold_25 : decode cX5_hold 25 = .ok (.getfield 106, 3) := sdX5_hold_14.2.2.2.2.2.2.1
theorem dX5_hold_28 : decode cX5_hold 28 = .ok (.iload_n 2, 1) := sdX5_hold_14.2.2.2.2.2.2.2.1
theorem sdX5_hold_29 : dz_Seg cX5_hold [(29, .invokestatic 69, 3), (32, .ineg, 1), (33, .invokestatic 109, 3), (36, .aload_n 0, 1), (37, .getfield 24, 3), (40, .iload_n 3, 1), (41, .aload_n 1, 1), (42, .getfield 122, 3)] := dz_sg _ 29 (by decide +kernel)
theorem dX5_hold_29 : decode cX5_hold 29 = .ok (.invokestatic 69, 3) := sdX5_hold_29.1
theorem dX5_hold_32 : decode cX5_hold 32 = .ok (.ineg, 1) := sdX5_hold_29.2.1
theorem dX5_hold_33 : decode cX5_hold 33 = .ok (.invokestatic 109, 3) := sdX5_hold_29.2.2.1
theorem dX5_hold_36 : decode cX5_hold 36 = .ok (.aload_n 0, 1) := sdX5_hold_29.2.2.2.1
theorem dX5_hold_37 : decode cX5_hold 37 = .ok (.getfield 24, 3) := sdX5_hold_29.2.2.2.2.1
theorem dX5_hold_40 : decode cX5_hold 40 = .ok (.iload_n 3, 1) := sdX5_hold_29.2.2.2.2.2.1
theorem dX5_hold_41 : decode cX5_hold 41 = .ok (.aload_n 1, 1) := sdX5_hold_29.2.2.2.2.2.2.1
theorem dX5_hold_42 : decode cX5_hold 42 = .ok (.getfield 122, 3) := sdX5_hold_29.2.2.2.2.2.2.2.1
theorem sdX5_hold_45 : dz_Seg cX5_hold [(45, .iload_n 2, 1), (46, .invokestatic 69, 3), (49, .ineg, 1), (50, .invokestatic 109, 3), (53, .return_, 1)] := dz_sg _ 45 (by decide +kernel)
theorem dX5_hold_45 : decode cX5_hold 45 = .ok (.iload_n 2, 1) := sdX5_hold_45.1
theorem dX5_hold_46 : decode cX5_hold 46 = .ok (.invokestatic 69, 3) := sdX5_hold_45.2.1
theorem dX5_hold_49 : decode cX5_hold 49 = .ok (.ineg, 1) := sdX5_hold_45.2.2.1
theorem dX5_hold_50 : decode cX5_hold 50 = .ok (.invokestatic 109, 3) := sdX5_hold_45.2.2.2.1
theorem dX5_hold_53 : decode cX5_hold 53 = .ok (.return_, 1) := sdX5_hold_45.2.2.2.2.1
theorem sdX5_hasFirst_0 : dz_Seg cX5_hasFirst [(0, .aload_n 0, 1), (1, .getfield 15, 3), (4, .iload_n 2, 1), (5, .invokestatic 69, 3), (8, .iconst (-1), 1), (9, .if_icmp .eq 24, 3), (12, .aload_n 0, 1), (13, .getfield 15, 3)] := dz_sg _ 0 (by decide +kernel)
theorem dX5_hasFirst_0 : decode cX5_hasFirst 0 = .ok (.aload_n 0, 1) := sdX5_hasFirst_0.1
theorem dX5_hasFirst_1 : decode cX5_hasFirst 1 = .ok (.getfield 15, 3) := sdX5_hasFirst_0.2.1
theorem dX5_hasFirst_4 : decode cX5_hasFirst 4 = .ok (.iload_n 2, 1) := sdX5_hasFirst_0.2.2.1
theorem dX5_hasFirst_5 : decode cX5_hasFirst 5 = .ok (.invokestatic 69, 3) := sdX5_hasFirst_0.2.2.2.1
theorem dX5_hasFirst_8 : decode cX5_hasFirst 8 = .ok (.iconst (-1), 1) := sdX5_hasFirst_0.2.2.2.2.1
theorem dX5_hasFirst_9 : decode cX5_hasFirst 9 = .ok (.if_icmp .eq 24, 3) := sdX5_hasFirst_0.2.2.2.2.2.1
theorem dX5_hasFirst_12 : decode cX5_hasFirst 12 = .ok (.aload_n 0, 1) := sdX5_hasFirst_0.2.2.2.2.2.2.1
theorem dX5_hasFirst_13 : decode cX5_hasFirst 13 = .ok (.getfield 15, 3) := sdX5_hasFirst_0.2.2.2.2.2.2.2.1
theorem sdX5_hasFirst_16 : dz_Seg cX5_hasFirst [(16, .iload_n 2, 1), (17, .invokestatic 69, 3), (20, .aload_n 1, 1), (21, .iload_n 2, 1), (22, .iconst 0, 1), (23, .invokevirtual 98, 3), (26, .if_icmp .ne 7, 3), (29, .iconst 1, 1)] := dz_sg _ 16 (by decide +kernel)
theorem dX5_hasFirst_16 : decode cX5_hasFirst 16 = .ok (.iload_n 2, 1) := sdX5_hasFirst_16.1
theorem dX5_hasFirst_17 : decode cX5_hasFirst 17 = .ok (.invokestatic 69, 3) := sdX5_hasFirst_16.2.1
theorem dX5_hasFirst_20 : decode cX5_hasFirst 20 = .ok (.aload_n 1, 1) := sdX5_hasFirst_16.2.2.1
theorem dX5_hasFirst_21 : decode cX5_hasFirst 21 = .ok (.iload_n 2, 1) := sdX5_hasFirst_16.2.2.2.1
theorem dX5_hasFirst_22 : decode cX5_hasFirst 22 = .ok (.iconst 0, 1) := sdX5_hasFirst_16.2.2.2.2.1
theorem dX5_hasFirst_23 : decode cX5_hasFirst 23 = .ok (.invokevirtual 98, 3) := sdX5_hasFirst_16.2.2.2.2.2.1
theorem dX5_hasFirst_26 : decode cX5_hasFirst 26 = .ok (.if_icmp .ne 7, 3) := sdX5_hasFirst_16.2.2.2.2.2.2.1
theorem dX5_hasFirst_29 : decode cX5_hasFirst 29 = .ok (.iconst 1, 1) := sdX5_hasFirst_16.2.2.2.2.2.2.2.1
theorem sdX5_hasFirst_30 : dz_Seg cX5_hasFirst [(30, .goto 4, 3), (33, .iconst 0, 1), (34, .ireturn, 1)] := dz_sg _ 30 (by decide +kernel)
theorem dX5_hasFirst_30 : decode cX5_hasFirst 30 = .ok (.goto 4, 3) := sdX5_hasFirst_30.1
theorem dX5_hasFirst_33 : decode cX5_hasFirst 33 = .ok (.iconst 0, 1) := sdX5_hasFirst_30.2.1
theorem dX5_hasFirst_34 : decode cX5_hasFirst 34 = .ok (.ireturn, 1) := sdX5_hasFirst_30.2.2.1
theorem sdX5_rankHeld_0 : dz_Seg cX5_rankHeld [(0, .aload_n 1, 1), (1, .iload_n 2, 1), (2, .aload_n 0, 1), (3, .getfield 15, 3), (6, .iload_n 2, 1), (7, .invokestatic 69, 3), (10, .invokevirtual 125, 3), (13, .istore_n 3, 1)] := dz_sg _ 0 (by decide +kernel)
theorem dX5_rankHeld_0 : decode cX5_rankHeld 0 = .ok (.aload_n 1, 1) := sdX5_rankHeld_0.1
theorem dX5_rankHeld_1 : decode cX5_rankHeld 1 = .ok (.iload_n 2, 1) := sdX5_rankHeld_0.2.1
theorem dX5_rankHeld_2 : decode cX5_rankHeld 2 = .ok (.aload_n 0, 1) := sdX5_rankHeld_0.2.2.1
theorem dX5_rankHeld_3 : decode cX5_rankHeld 3 = .ok (.getfield 15, 3) := sdX5_rankHeld_0.2.2.2.1
theorem dX5_rankHeld_6 : decode cX5_rankHeld 6 = .ok (.iload_n 2, 1) := sdX5_rankHeld_0.2.2.2.2.1
theorem dX5_rankHeld_7 : decode cX5_rankHeld 7 = .ok (.invokestatic 69, 3) := sdX5_rankHeld_0.2.2.2.2.2.1
theorem dX5_rankHeld_10 : decode cX5_rankHeld 10 = .ok (.invokevirtual 125, 3) := sdX5_rankHeld_0.2.2.2.2.2.2.1
theorem dX5_rankHeld_13 : decode cX5_rankHeld 13 = .ok (.istore_n 3, 1) := sdX5_rankHeld_0.2.2.2.2.2.2.2.1
theorem sdX5_rankHeld_14 : dz_Seg cX5_rankHeld [(14, .iload_n 3, 1), (15, .iconst (-1), 1), (16, .if_icmp .ne 7, 3), (19, .iconst 3, 1), (20, .goto 4, 3), (23, .iload_n 3, 1), (24, .ireturn, 1)] := dz_sg _ 14 (by decide +kernel)
theorem dX5_rankHeld_14 : decode cX5_rankHeld 14 = .ok (.iload_n 3, 1) := sdX5_rankHeld_14.1
theorem dX5_rankHeld_15 : decode cX5_rankHeld 15 = .ok (.iconst (-1), 1) := sdX5_rankHeld_14.2.1
theorem dX5_rankHeld_16 : decode cX5_rankHeld 16 = .ok (.if_icmp .ne 7, 3) := sdX5_rankHeld_14.2.2.1
theorem dX5_rankHeld_19 : decode cX5_rankHeld 19 = .ok (.iconst 3, 1) := sdX5_rankHeld_14.2.2.2.1
theorem dX5_rankHeld_20 : decode cX5_rankHeld 20 = .ok (.goto 4, 3) := sdX5_rankHeld_14.2.2.2.2.1
theorem dX5_rankHeld_23 : decode cX5_rankHeld 23 = .ok (.iload_n 3, 1) := sdX5_rankHeld_14.2.2.2.2.2.1
theorem dX5_rankHeld_24 : decode cX5_rankHeld 24 = .ok (.ireturn, 1) := sdX5_rankHeld_14.2.2.2.2.2.2.1
theorem sdX5_isWaiting_0 : dz_Seg cX5_isWaiting [(0, .aload_n 0, 1), (1, .getfield 15, 3), (4, .iload_n 2, 1), (5, .invokestatic 69, 3), (8, .iconst (-1), 1), (9, .if_icmp .ne 17, 3), (12, .aload_n 1, 1), (13, .iload_n 2, 1)] := dz_sg _ 0 (by decide +kernel)
theorem dX5_isWaiting_0 : decode cX5_isWaiting 0 = .ok (.aload_n 0, 1) := sdX5_isWaiting_0.1
theorem dX5_isWaiting_1 : decode cX5_isWaiting 1 = .ok (.getfield 15, 3) := sdX5_isWaiting_0.2.1
theorem dX5_isWaiting_4 : decode cX5_isWaiting 4 = .ok (.iload_n 2, 1) := sdX5_isWaiting_0.2.2.1
theorem dX5_isWaiting_5 : decode cX5_isWaiting 5 = .ok (.invokestatic 69, 3) := sdX5_isWaiting_0.2.2.2.1
theorem dX5_isWaiting_8 : decode cX5_isWaiting 8 = .ok (.iconst (-1), 1) := sdX5_isWaiting_0.2.2.2.2.1
theorem dX5_isWaiting_9 : decode cX5_isWaiting 9 = .ok (.if_icmp .ne 17, 3) := sdX5_isWaiting_0.2.2.2.2.2.1
theorem dX5_isWaiting_12 : decode cX5_isWaiting 12 = .ok (.aload_n 1, 1) := sdX5_isWaiting_0.2.2.2.2.2.2.1
theorem dX5_isWaiting_13 : decode cX5_isWaiting 13 = .ok (.iload_n 2, 1) := sdX5_isWaiting_0.2.2.2.2.2.2.2.1
theorem sdX5_isWaiting_14 : dz_Seg cX5_isWaiting [(14, .iload_n 3, 1), (15, .invokevirtual 125, 3), (18, .iconst (-1), 1), (19, .if_icmp .eq 7, 3), (22, .iconst 1, 1), (23, .goto 4, 3), (26, .iconst 0, 1), (27, .ireturn, 1)] := dz_sg _ 14 (by decide +kernel)
theorem dX5_isWaiting_14 : decode cX5_isWaiting 14 = .ok (.iload_n 3, 1) := sdX5_isWaiting_14.1
theorem dX5_isWaiting_15 : decode cX5_isWaiting 15 = .ok (.invokevirtual 125, 3) := sdX5_isWaiting_14.2.1
theorem dX5_isWaiting_18 : decode cX5_isWaiting 18 = .ok (.iconst (-1), 1) := sdX5_isWaiting_14.2.2.1
theorem dX5_isWaiting_19 : decode cX5_isWaiting 19 = .ok (.if_icmp .eq 7, 3) := sdX5_isWaiting_14.2.2.2.1
theorem dX5_isWaiting_22 : decode cX5_isWaiting 22 = .ok (.iconst 1, 1) := sdX5_isWaiting_14.2.2.2.2.1
theorem dX5_isWaiting_23 : decode cX5_isWaiting 23 = .ok (.goto 4, 3) := sdX5_isWaiting_14.2.2.2.2.2.1
theorem dX5_isWaiting_26 : decode cX5_isWaiting 26 = .ok (.iconst 0, 1) := sdX5_isWaiting_14.2.2.2.2.2.2.1
theorem dX5_isWaiting_27 : decode cX5_isWaiting 27 = .ok (.ireturn, 1) := sdX5_isWaiting_14.2.2.2.2.2.2.2.1
theorem sdX5_holders_0 : dz_Seg cX5_holders [(0, .iconst 0, 1), (1, .istore_n 3, 1), (2, .iconst 0, 1), (3, .istore 4, 2), (5, .iload 4, 2), (7, .aload_n 1, 1), (8, .getfield 47, 3), (11, .if_icmp .ge 30, 3)] := dz_sg _ 0 (by decide +kernel)
theorem dX5_holders_0 : decode cX5_holders 0 = .ok (.iconst 0, 1) := sdX5_holders_0.1
theorem dX5_holders_1 : decode cX5_holders 1 = .ok (.istore_n 3, 1) := sdX5_holders_0.2.1
theorem dX5_holders_2 : decode cX5_holders 2 = .ok (.iconst 0, 1) := sdX5_holders_0.2.2.1
theorem dX5_holders_3 : decode cX5_holders 3 = .ok (.istore 4, 2) := sdX5_holders_0.2.2.2.1
theorem dX5_holders_5 : decode cX5_holders 5 = .ok (.iload 4, 2) := sdX5_holders_0.2.2.2.2.1
theorem dX5_holders_7 : decode cX5_holders 7 = .ok (.aload_n 1, 1) := sdX5_holders_0.2.2.2.2.2.1
theorem dX5_holders_8 : decode cX5_holders 8 = .ok (.getfield 47, 3) := sdX5_holders_0.2.2.2.2.2.2.1
theorem dX5_holders_11 : decode cX5_holders 11 = .ok (.if_icmp .ge 30, 3) := sdX5_holders_0.2.2.2.2.2.2.2.1
theorem sdX5_holders_14 : dz_Seg cX5_holders [(14, .iload_n 3, 1), (15, .aload_n 0, 1), (16, .getfield 15, 3), (19, .iload 4, 2), (21, .invokestatic 69, 3), (24, .iload_n 2, 1), (25, .if_icmp .ne 7, 3), (28, .iconst 1, 1)] := dz_sg _ 14 (by decide +kernel)
theorem dX5_holders_14 : decode cX5_holders 14 = .ok (.iload_n 3, 1) := sdX5_holders_14.1
theorem dX5_holders_15 : decode cX5_holders 15 = .ok (.aload_n 0, 1) := sdX5_holders_14.2.1
theorem dX5_holders_16 : decode cX5_holders 16 = .ok (.getfield 15, 3) := sdX5_holders_14.2.2.1
theorem dX5_holders_19 : decode cX5_holders 19 = .ok (.iload 4, 2) := sdX5_holders_14.2.2.2.1
theorem dX5_holders_21 : decode cX5_holders 21 = .ok (.invokestatic 69, 3) := sdX5_holders_14.2.2.2.2.1
theorem dX5_holders_24 : decode cX5_holders 24 = .ok (.iload_n 2, 1) := sdX5_holders_14.2.2.2.2.2.1
theorem dX5_holders_25 : decode cX5_holders 25 = .ok (.if_icmp .ne 7, 3) := sdX5_holders_14.2.2.2.2.2.2.1
theorem dX5_holders_28 : decode cX5_holders 28 = .ok (.iconst 1, 1) := sdX5_holders_14.2.2.2.2.2.2.2.1
theorem sdX5_holders_29 : dz_Seg cX5_holders [(29, .goto 4, 3), (32, .iconst 0, 1), (33, .iadd, 1), (34, .istore_n 3, 1), (35, .iinc 4 1, 3), (38, .goto (-33), 3), (41, .iload_n 3, 1), (42, .ireturn, 1)] := dz_sg _ 29 (by decide +kernel)
theorem dX5_holders_29 : decode cX5_holders 29 = .ok (.goto 4, 3) := sdX5_holders_29.1
theorem dX5_holders_32 : decode cX5_holders 32 = .ok (.iconst 0, 1) := sdX5_holders_29.2.1
theorem dX5_holders_33 : decode cX5_holders 33 = .ok (.iadd, 1) := sdX5_holders_29.2.2.1
theorem dX5_holders_34 : decode cX5_holders 34 = .ok (.istore_n 3, 1) := sdX5_holders_29.2.2.2.1
theorem dX5_holders_35 : decode cX5_holders 35 = .ok (.iinc 4 1, 3) := sdX5_holders_29.2.2.2.2.1
theorem dX5_holders_38 : decode cX5_holders 38 = .ok (.goto (-33), 3) := sdX5_holders_29.2.2.2.2.2.1
theorem dX5_holders_41 : decode cX5_holders 41 = .ok (.iload_n 3, 1) := sdX5_holders_29.2.2.2.2.2.2.1
theorem dX5_holders_42 : decode cX5_holders 42 = .ok (.ireturn, 1) := sdX5_holders_29.2.2.2.2.2.2.2.1
theorem sdX5_fewestPoints_0 : dz_Seg cX5_fewestPoints [(0, .iconst (-1), 1), (1, .istore_n 3, 1), (2, .iconst 0, 1), (3, .istore 4, 2), (5, .iload 4, 2), (7, .aload_n 1, 1), (8, .getfield 47, 3), (11, .if_icmp .ge 50, 3)] := dz_sg _ 0 (by decide +kernel)
theorem dX5_fewestPoints_0 : decode cX5_fewestPoints 0 = .ok (.iconst (-1), 1) := sdX5_fewestPoints_0.1
theorem dX5_fewestPoints_1 : decode cX5_fewestPoints 1 = .ok (.istore_n 3, 1) := sdX5_fewestPoints_0.2.1
theorem dX5_fewestPoints_2 : decode cX5_fewestPoints 2 = .ok (.iconst 0, 1) := sdX5_fewestPoints_0.2.2.1
theorem dX5_fewestPoints_3 : decode cX5_fewestPoints 3 = .ok (.istore 4, 2) := sdX5_fewestPoints_0.2.2.2.1
theorem dX5_fewestPoints_5 : decode cX5_fewestPoints 5 = .ok (.iload 4, 2) := sdX5_fewestPoints_0.2.2.2.2.1
theorem dX5_fewestPoints_7 : decode cX5_fewestPoints 7 = .ok (.aload_n 1, 1) := sdX5_fewestPoints_0.2.2.2.2.2.1
theorem dX5_fewestPoints_8 : decode cX5_fewestPoints 8 = .ok (.getfield 47, 3) := sdX5_fewestPoints_0.2.2.2.2.2.2.1
theorem dX5_fewestPoints_11 : decode cX5_fewestPoints 11 = .ok (.if_icmp .ge 50, 3) := sdX5_fewestPoints_0.2.2.2.2.2.2.2.1
theorem sdX5_fewestPoints_14 : dz_Seg cX5_fewestPoints [(14, .aload_n 0, 1), (15, .getfield 15, 3), (18, .iload 4, 2), (20, .invokestatic 69, 3), (23, .iload_n 2, 1), (24, .if_icmp .ne 31, 3), (27, .iload_n 3, 1), (28, .iconst (-1), 1)] := dz_sg _ 14 (by decide +kernel)
theorem dX5_fewestPoints_14 : decode cX5_fewestPoints 14 = .ok (.aload_n 0, 1) := sdX5_fewestPoints_14.1
theorem dX5_fewestPoints_15 : decode cX5_fewestPoints 15 = .ok (.getfield 15, 3) := sdX5_fewestPoints_14.2.1
theorem dX5_fewestPoints_18 : decode cX5_fewestPoints 18 = .ok (.iload 4, 2) := sdX5_fewestPoints_14.2.2.1
theorem dX5_fewestPoints_20 : decode cX5_fewestPoints 20 = .ok (.invokestatic 69, 3) := sdX5_fewestPoints_14.2.2.2.1
theorem dX5_fewestPoints_23 : decode cX5_fewestPoints 23 = .ok (.iload_n 2, 1) := sdX5_fewestPoints_14.2.2.2.2.1
theorem dX5_fewestPoints_24 : decode cX5_fewestPoints 24 = .ok (.if_icmp .ne 31, 3) := sdX5_fewestPoints_14.2.2.2.2.2.1
theorem dX5_fewestPoints_27 : decode cX5_fewestPoints 27 = .ok (.iload_n 3, 1) := sdX5_fewestPoints_14.2.2.2.2.2.2.1
theorem dX5_fewestPoints_28 : decode cX5_fewestPoints 28 = .ok (.iconst (-1), 1) := sdX5_fewestPoints_14.2.2.2.2.2.2.2.1
theorem sdX5_fewestPoints_29 : dz_Seg cX5_fewestPoints [(29, .if_icmp .eq 16, 3), (32, .aload_n 1, 1), (33, .getfield 116, 3), (36, .iload 4, 2), (38, .invokestatic 69, 3), (41, .iload_n 3, 1), (42, .if_icmp .ge 13, 3), (45, .aload_n 1, 1)] := dz_sg _ 29 (by decide +kernel)
theorem dX5_fewestPoints_29 : decode cX5_fewestPoints 29 = .ok (.if_icmp .eq 16, 3) := sdX5_fewestPoints_29.1
theorem dX5_fewestPoints_32 : decode cX5_fewestPoints 32 = .ok (.aload_n 1, 1) := sdX5_fewestPoints_29.2.1
theorem dX5_fewestPoints_33 : decode cX5_fewestPoints 33 = .ok (.getfield 116, 3) := sdX5_fewestPoints_29.2.2.1
theorem dX5_fewestPoints_36 : decode cX5_fewestPoints 36 = .ok (.iload 4, 2) := sdX5_fewestPoints_29.2.2.2.1
theorem dX5_fewestPoints_38 : decode cX5_fewestPoints 38 = .ok (.invokestatic 69, 3) := sdX5_fewestPoints_29.2.2.2.2.1
theorem dX5_fewestPoints_41 : decode cX5_fewestPoints 41 = .ok (.iload_n 3, 1) := sdX5_fewestPoints_29.2.2.2.2.2.1
theorem dX5_fewestPoints_42 : decode cX5_fewestPoints 42 = .ok (.if_icmp .ge 13, 3) := sdX5_fewestPoints_29.2.2.2.2.2.2.1
theorem dX5_fewestPoints_45 : decode cX5_fewestPoints 45 = .ok (.aload_n 1, 1) := sdX5_fewestPoints_29.2.2.2.2.2.2.2.1
theorem sdX5_fewestPoints_46 : dz_Seg cX5_fewestPoints [(46, .getfield 116, 3), (49, .iload 4, 2), (51, .invokestatic 69, 3), (54, .istore_n 3, 1), (55, .iinc 4 1, 3), (58, .goto (-53), 3), (61, .iload_n 3, 1), (62, .ireturn, 1)] := dz_sg _ 46 (by decide +kernel)
theorem dX5_fewestPoints_46 : decode cX5_fewestPoints 46 = .ok (.getfield 116, 3) := sdX5_fewestPoints_46.1
theorem dX5_fewestPoints_49 : decode cX5_fewestPoints 49 = .ok (.iload 4, 2) := sdX5_fewestPoints_46.2.1
theorem dX5_fewestPoints_51 : decode cX5_fewestPoints 51 = .ok (.invokestatic 69, 3) := sdX5_fewestPoints_46.2.2.1
theorem dX5_fewestPoints_54 : decode cX5_fewestPoints 54 = .ok (.istore_n 3, 1) := sdX5_fewestPoints_46.2.2.2.1
theorem dX5_fewestPoints_55 : decode cX5_fewestPoints 55 = .ok (.iinc 4 1, 3) := sdX5_fewestPoints_46.2.2.2.2.1
theorem dX5_fewestPoints_58 : decode cX5_fewestPoints 58 = .ok (.goto (-53), 3) := sdX5_fewestPoints_46.2.2.2.2.2.1
theorem dX5_fewestPoints_61 : decode cX5_fewestPoints 61 = .ok (.iload_n 3, 1) := sdX5_fewestPoints_46.2.2.2.2.2.2.1
theorem dX5_fewestPoints_62 : decode cX5_fewestPoints 62 = .ok (.ireturn, 1) := sdX5_fewestPoints_46.2.2.2.2.2.2.2.1
theorem sdX5_tagsGiven_0 : dz_Seg cX5_tagsGiven [(0, .iconst 0, 1), (1, .istore_n 2, 1), (2, .iconst 0, 1), (3, .istore_n 3, 1), (4, .iload_n 3, 1), (5, .aload_n 1, 1), (6, .getfield 47, 3), (9, .if_icmp .ge 36, 3)] := dz_sg _ 0 (by decide +kernel)
theorem dX5_tagsGiven_0 : decode cX5_tagsGiven 0 = .ok (.iconst 0, 1) := sdX5_tagsGiven_0.1
theorem dX5_tagsGiven_1 : decode cX5_tagsGiven 1 = .ok (.istore_n 2, 1) := sdX5_tagsGiven_0.2.1
theorem dX5_tagsGiven_2 : decode cX5_tagsGiven 2 = .ok (.iconst 0, 1) := sdX5_tagsGiven_0.2.2.1
theorem dX5_tagsGiven_3 : decode cX5_tagsGiven 3 = .ok (.istore_n 3, 1) := sdX5_tagsGiven_0.2.2.2.1
theorem dX5_tagsGiven_4 : decode cX5_tagsGiven 4 = .ok (.iload_n 3, 1) := sdX5_tagsGiven_0.2.2.2.2.1
theorem dX5_tagsGiven_5 : decode cX5_tagsGiven 5 = .ok (.aload_n 1, 1) := sdX5_tagsGiven_0.2.2.2.2.2.1
theorem dX5_tagsGiven_6 : decode cX5_tagsGiven 6 = .ok (.getfield 47, 3) := sdX5_tagsGiven_0.2.2.2.2.2.2.1
theorem dX5_tagsGiven_9 : decode cX5_tagsGiven 9 = .ok (.if_icmp .ge 36, 3) := sdX5_tagsGiven_0.2.2.2.2.2.2.2.1
theorem sdX5_tagsGiven_12 : dz_Seg cX5_tagsGiven [(12, .iload_n 2, 1), (13, .aload_n 0, 1), (14, .getfield 15, 3), (17, .iload_n 3, 1), (18, .invokestatic 69, 3), (21, .iconst (-1), 1), (22, .if_icmp .ne 7, 3), (25, .iconst 0, 1)] := dz_sg _ 12 (by decide +kernel)
theorem dX5_tagsGiven_12 : decode cX5_tagsGiven 12 = .ok (.iload_n 2, 1) := sdX5_tagsGiven_12.1
theorem dX5_tagsGiven_13 : decode cX5_tagsGiven 13 = .ok (.aload_n 0, 1) := sdX5_tagsGiven_12.2.1
theorem dX5_tagsGiven_14 : decode cX5_tagsGiven 14 = .ok (.getfield 15, 3) := sdX5_tagsGiven_12.2.2.1
theorem dX5_tagsGiven_17 : decode cX5_tagsGiven 17 = .ok (.iload_n 3, 1) := sdX5_tagsGiven_12.2.2.2.1
theorem dX5_tagsGiven_18 : decode cX5_tagsGiven 18 = .ok (.invokestatic 69, 3) := sdX5_tagsGiven_12.2.2.2.2.1
theorem dX5_tagsGiven_21 : decode cX5_tagsGiven 21 = .ok (.iconst (-1), 1) := sdX5_tagsGiven_12.2.2.2.2.2.1
theorem dX5_tagsGiven_22 : decode cX5_tagsGiven 22 = .ok (.if_icmp .ne 7, 3) := sdX5_tagsGiven_12.2.2.2.2.2.2.1
theorem dX5_tagsGiven_25 : decode cX5_tagsGiven 25 = .ok (.iconst 0, 1) := sdX5_tagsGiven_12.2.2.2.2.2.2.2.1
theorem sdX5_tagsGiven_26 : dz_Seg cX5_tagsGiven [(26, .goto 11, 3), (29, .aload_n 1, 1), (30, .getfield 106, 3), (33, .iload_n 3, 1), (34, .invokestatic 69, 3), (37, .iadd, 1), (38, .istore_n 2, 1), (39, .iinc 3 1, 3)] := dz_sg _ 26 (by decide +kernel)
theorem dX5_tagsGiven_26 : decode cX5_tagsGiven 26 = .ok (.goto 11, 3) := sdX5_tagsGiven_26.1
theorem dX5_tagsGiven_29 : decode cX5_tagsGiven 29 = .ok (.aload_n 1, 1) := sdX5_tagsGiven_26.2.1
theorem dX5_tagsGiven_30 : decode cX5_tagsGiven 30 = .ok (.getfield 106, 3) := sdX5_tagsGiven_26.2.2.1
theorem dX5_tagsGiven_33 : decode cX5_tagsGiven 33 = .ok (.iload_n 3, 1) := sdX5_tagsGiven_26.2.2.2.1
theorem dX5_tagsGiven_34 : decode cX5_tagsGiven 34 = .ok (.invokestatic 69, 3) := sdX5_tagsGiven_26.2.2.2.2.1
theorem dX5_tagsGiven_37 : decode cX5_tagsGiven 37 = .ok (.iadd, 1) := sdX5_tagsGiven_26.2.2.2.2.2.1
theorem dX5_tagsGiven_38 : decode cX5_tagsGiven 38 = .ok (.istore_n 2, 1) := sdX5_tagsGiven_26.2.2.2.2.2.2.1
theorem dX5_tagsGiven_39 : decode cX5_tagsGiven 39 = .ok (.iinc 3 1, 3) := sdX5_tagsGiven_26.2.2.2.2.2.2.2.1
theorem sdX5_tagsGiven_42 : dz_Seg cX5_tagsGiven [(42, .goto (-38), 3), (45, .iload_n 2, 1), (46, .ireturn, 1)] := dz_sg _ 42 (by decide +kernel)
theorem dX5_tagsGiven_42 : decode cX5_tagsGiven 42 = .ok (.goto (-38), 3) := sdX5_tagsGiven_42.1
theorem dX5_tagsGiven_45 : decode cX5_tagsGiven 45 = .ok (.iload_n 2, 1) := sdX5_tagsGiven_42.2.1
theorem dX5_tagsGiven_46 : decode cX5_tagsGiven 46 = .ok (.ireturn, 1) := sdX5_tagsGiven_42.2.2.1
theorem sdX5_scoreBehind_0 : dz_Seg cX5_scoreBehind [(0, .aload_n 1, 1), (1, .getfield 119, 3), (4, .iload_n 2, 1), (5, .invokestatic 69, 3), (8, .ifCond .ne 5, 3), (11, .iload_n 3, 1), (12, .ireturn, 1), (13, .aload_n 0, 1)] := dz_sg _ 0 (by decide +kernel)
theorem dX5_scoreBehind_0 : decode cX5_scoreBehind 0 = .ok (.aload_n 1, 1) := sdX5_scoreBehind_0.1
theorem dX5_scoreBehind_1 : decode cX5_scoreBehind 1 = .ok (.getfield 119, 3) := sdX5_scoreBehind_0.2.1
theorem dX5_scoreBehind_4 : decode cX5_scoreBehind 4 = .ok (.iload_n 2, 1) := sdX5_scoreBehind_0.2.2.1
theorem dX5_scoreBehind_5 : decode cX5_scoreBehind 5 = .ok (.invokestatic 69, 3) := sdX5_scoreBehind_0.2.2.2.1
theorem dX5_scoreBehind_8 : decode cX5_scoreBehind 8 = .ok (.ifCond .ne 5, 3) := sdX5_scoreBehind_0.2.2.2.2.1
theorem dX5_scoreBehind_11 : decode cX5_scoreBehind 11 = .ok (.iload_n 3, 1) := sdX5_scoreBehind_0.2.2.2.2.2.1
theorem dX5_scoreBehind_12 : decode cX5_scoreBehind 12 = .ok (.ireturn, 1) := sdX5_scoreBehind_0.2.2.2.2.2.2.1
theorem dX5_scoreBehind_13 : decode cX5_scoreBehind 13 = .ok (.aload_n 0, 1) := sdX5_scoreBehind_0.2.2.2.2.2.2.2.1
theorem sdX5_scoreBehind_14 : dz_Seg cX5_scoreBehind [(14, .getfield 15, 3), (17, .iload_n 2, 1), (18, .invokestatic 69, 3), (21, .iconst (-1), 1), (22, .if_icmp .ne 12, 3), (25, .iload_n 3, 1), (26, .iconst 1, 1), (27, .iadd, 1)] := dz_sg _ 14 (by decide +kernel)
theorem dX5_scoreBehind_14 : decode cX5_scoreBehind 14 = .ok (.getfield 15, 3) := sdX5_scoreBehind_14.1
theorem dX5_scoreBehind_17 : decode cX5_scoreBehind 17 = .ok (.iload_n 2, 1) := sdX5_scoreBehind_14.2.1
theorem dX5_scoreBehind_18 : decode cX5_scoreBehind 18 = .ok (.invokestatic 69, 3) := sdX5_scoreBehind_14.2.2.1
theorem dX5_scoreBehind_21 : decode cX5_scoreBehind 21 = .ok (.iconst (-1), 1) := sdX5_scoreBehind_14.2.2.2.1
theorem dX5_scoreBehind_22 : decode cX5_scoreBehind 22 = .ok (.if_icmp .ne 12, 3) := sdX5_scoreBehind_14.2.2.2.2.1
theorem dX5_scoreBehind_25 : decode cX5_scoreBehind 25 = .ok (.iload_n 3, 1) := sdX5_scoreBehind_14.2.2.2.2.2.1
theorem dX5_scoreBehind_26 : decode cX5_scoreBehind 26 = .ok (.iconst 1, 1) := sdX5_scoreBehind_14.2.2.2.2.2.2.1
theorem dX5_scoreBehind_27 : decode cX5_scoreBehind 27 = .ok (.iadd, 1) := sdX5_scoreBehind_14.2.2.2.2.2.2.2.1
theorem sdX5_scoreBehind_28 : dz_Seg cX5_scoreBehind [(28, .bipush 20, 2), (30, .invokestatic 128, 3), (33, .ireturn, 1), (34, .aload_n 0, 1), (35, .aload_n 1, 1), (36, .iload_n 2, 1), (37, .invokevirtual 133, 3), (40, .ifCond .eq 7, 3)] := dz_sg _ 28 (by decide +kernel)
theorem dX5_scoreBehind_28 : decode cX5_scoreBehind 28 = .ok (.bipush 20, 2) := sdX5_scoreBehind_28.1
theorem dX5_scoreBehind_30 : decode cX5_scoreBehind 30 = .ok (.invokestatic 128, 3) := sdX5_scoreBehind_28.2.1
theorem dX5_scoreBehind_33 : decode cX5_scoreBehind 33 = .ok (.ireturn, 1) := sdX5_scoreBehind_28.2.2.1
theorem dX5_scoreBehind_34 : decode cX5_scoreBehind 34 = .ok (.aload_n 0, 1) := sdX5_scoreBehind_28.2.2.2.1
theorem dX5_scoreBehind_35 : decode cX5_scoreBehind 35 = .ok (.aload_n 1, 1) := sdX5_scoreBehind_28.2.2.2.2.1
theorem dX5_scoreBehind_36 : decode cX5_scoreBehind 36 = .ok (.iload_n 2, 1) := sdX5_scoreBehind_28.2.2.2.2.2.1
theorem dX5_scoreBehind_37 : decode cX5_scoreBehind 37 = .ok (.invokevirtual 133, 3) := sdX5_scoreBehind_28.2.2.2.2.2.2.1
theorem dX5_scoreBehind_40 : decode cX5_scoreBehind 40 = .ok (.ifCond .eq 7, 3) := sdX5_scoreBehind_28.2.2.2.2.2.2.2.1
theorem sdX5_scoreBehind_43 : dz_Seg cX5_scoreBehind [(43, .iconst 0, 1), (44, .goto 4, 3), (47, .iload_n 3, 1), (48, .ireturn, 1)] := dz_sg _ 43 (by decide +kernel)
theorem dX5_scoreBehind_43 : decode cX5_scoreBehind 43 = .ok (.iconst 0, 1) := sdX5_scoreBehind_43.1
theorem dX5_scoreBehind_44 : decode cX5_scoreBehind 44 = .ok (.goto 4, 3) := sdX5_scoreBehind_43.2.1
theorem dX5_scoreBehind_47 : decode cX5_scoreBehind 47 = .ok (.iload_n 3, 1) := sdX5_scoreBehind_43.2.2.1
theorem dX5_scoreBehind_48 : decode cX5_scoreBehind 48 = .ok (.ireturn, 1) := sdX5_scoreBehind_43.2.2.2.1
theorem sdX6_init_0 : dz_Seg cX6_init [(0, .aload_n 0, 1), (1, .invokespecial 3, 3), (4, .aload_n 0, 1), (5, .bipush 10, 2), (7, .newarray .int, 2), (9, .putfield 9, 3), (12, .aload_n 0, 1), (13, .bipush 10, 2)] := dz_sg _ 0 (by decide +kernel)
theorem dX6_init_0 : decode cX6_init 0 = .ok (.aload_n 0, 1) := sdX6_init_0.1
theorem dX6_init_1 : decode cX6_init 1 = .ok (.invokespecial 3, 3) := sdX6_init_0.2.1
theorem dX6_init_4 : decode cX6_init 4 = .ok (.aload_n 0, 1) := sdX6_init_0.2.2.1
theorem dX6_init_5 : decode cX6_init 5 = .ok (.bipush 10, 2) := sdX6_init_0.2.2.2.1
theorem dX6_init_7 : decode cX6_init 7 = .ok (.newarray .int, 2) := sdX6_init_0.2.2.2.2.1
theorem dX6_init_9 : decode cX6_init 9 = .ok (.putfield 9, 3) := sdX6_init_0.2.2.2.2.2.1
theorem dX6_init_12 : decode cX6_init 12 = .ok (.aload_n 0, 1) := sdX6_init_0.2.2.2.2.2.2.1
theorem dX6_init_13 : decode cX6_init 13 = .ok (.bipush 10, 2) := sdX6_init_0.2.2.2.2.2.2.2.1
theorem sdX6_init_15 : dz_Seg cX6_init [(15, .newarray .int, 2), (17, .putfield 15, 3), (20, .aload_n 0, 1), (21, .bipush 10, 2), (23, .newarray .int, 2), (25, .putfield 18, 3), (28, .aload_n 0, 1), (29, .new 21, 3)] := dz_sg _ 15 (by decide +kernel)
theorem dX6_init_15 : decode cX6_init 15 = .ok (.newarray .int, 2) := sdX6_init_15.1
theorem dX6_init_17 : decode cX6_init 17 = .ok (.putfield 15, 3) := sdX6_init_15.2.1
theorem dX6_init_20 : decode cX6_init 20 = .ok (.aload_n 0, 1) := sdX6_init_15.2.2.1
theorem dX6_init_21 : decode cX6_init 21 = .ok (.bipush 10, 2) := sdX6_init_15.2.2.2.1
theorem dX6_init_23 : decode cX6_init 23 = .ok (.newarray .int, 2) := sdX6_init_15.2.2.2.2.1
theorem dX6_init_25 : decode cX6_init 25 = .ok (.putfield 18, 3) := sdX6_init_15.2.2.2.2.2.1
theorem dX6_init_28 : decode cX6_init 28 = .ok (.aload_n 0, 1) := sdX6_init_15.2.2.2.2.2.2.1
theorem dX6_init_29 : decode cX6_init 29 = .ok (.new 21, 3) := sdX6_init_15.2.2.2.2.2.2.2.1
theorem sdX6_init_32 : dz_Seg cX6_init [(32, .dup, 1), (33, .invokespecial 23, 3), (36, .putfield 24, 3), (39, .aload_n 0, 1), (40, .new 28, 3), (43, .dup, 1), (44, .invokespecial 30, 3), (47, .putfield 31, 3)] := dz_sg _ 32 (by decide +kernel)
theorem dX6_init_32 : decode cX6_init 32 = .ok (.dup, 1) := sdX6_init_32.1
theorem dX6_init_33 : decode cX6_init 33 = .ok (.invokespecial 23, 3) := sdX6_init_32.2.1
theorem dX6_init_36 : decode cX6_init 36 = .ok (.putfield 24, 3) := sdX6_init_32.2.2.1
theorem dX6_init_39 : decode cX6_init 39 = .ok (.aload_n 0, 1) := sdX6_init_32.2.2.2.1
theorem dX6_init_40 : decode cX6_init 40 = .ok (.new 28, 3) := sdX6_init_32.2.2.2.2.1
theorem dX6_init_43 : decode cX6_init 43 = .ok (.dup, 1) := sdX6_init_32.2.2.2.2.2.1
theorem dX6_init_44 : decode cX6_init 44 = .ok (.invokespecial 30, 3) := sdX6_init_32.2.2.2.2.2.2.1
theorem dX6_init_47 : decode cX6_init 47 = .ok (.putfield 31, 3) := sdX6_init_32.2.2.2.2.2.2.2.1
theorem sdX6_init_50 : dz_Seg cX6_init [(50, .aload_n 0, 1), (51, .new 35, 3), (54, .dup, 1), (55, .invokespecial 37, 3), (58, .putfield 38, 3), (61, .return_, 1)] := dz_sg _ 50 (by decide +kernel)
theorem dX6_init_50 : decode cX6_init 50 = .ok (.aload_n 0, 1) := sdX6_init_50.1
theorem dX6_init_51 : decode cX6_init 51 = .ok (.new 35, 3) := sdX6_init_50.2.1
theorem dX6_init_54 : decode cX6_init 54 = .ok (.dup, 1) := sdX6_init_50.2.2.1
theorem dX6_init_55 : decode cX6_init 55 = .ok (.invokespecial 37, 3) := sdX6_init_50.2.2.2.1
theorem dX6_init_58 : decode cX6_init 58 = .ok (.putfield 38, 3) := sdX6_init_50.2.2.2.2.1
theorem dX6_init_61 : decode cX6_init 61 = .ok (.return_, 1) := sdX6_init_50.2.2.2.2.2.1
theorem sdX6_pass_0 : dz_Seg cX6_pass [(0, .aload_n 0, 1), (1, .iconst 0, 1), (2, .putfield 42, 3), (5, .aload_n 0, 1), (6, .iconst 0, 1), (7, .putfield 46, 3), (10, .aload_n 0, 1), (11, .getfield 9, 3)] := dz_sg _ 0 (by decide +kernel)
theorem dX6_pass_0 : decode cX6_pass 0 = .ok (.aload_n 0, 1) := sdX6_pass_0.1
theorem dX6_pass_1 : decode cX6_pass 1 = .ok (.iconst 0, 1) := sdX6_pass_0.2.1
theorem dX6_pass_2 : decode cX6_pass 2 = .ok (.putfield 42, 3) := sdX6_pass_0.2.2.1
theorem dX6_pass_5 : decode cX6_pass 5 = .ok (.aload_n 0, 1) := sdX6_pass_0.2.2.2.1
theorem dX6_pass_6 : decode cX6_pass 6 = .ok (.iconst 0, 1) := sdX6_pass_0.2.2.2.2.1
theorem dX6_pass_7 : decode cX6_pass 7 = .ok (.putfield 46, 3) := sdX6_pass_0.2.2.2.2.2.1
theorem dX6_pass_10 : decode cX6_pass 10 = .ok (.aload_n 0, 1) := sdX6_pass_0.2.2.2.2.2.2.1
theorem dX6_pass_11 : decode cX6_pass 11 = .ok (.getfield 9, 3) := sdX6_pass_0.2.2.2.2.2.2.2.1
theorem sdX6_pass_14 : dz_Seg cX6_pass [(14, .iconst 0, 1), (15, .invokestatic 49, 3), (18, .aload_n 0, 1), (19, .getfield 15, 3), (22, .iconst 0, 1), (23, .invokestatic 49, 3), (26, .aload_n 0, 1), (27, .getfield 18, 3)] := dz_sg _ 14 (by decide +kernel)
theorem dX6_pass_14 : decode cX6_pass 14 = .ok (.iconst 0, 1) := sdX6_pass_14.1
theorem dX6_pass_15 : decode cX6_pass 15 = .ok (.invokestatic 49, 3) := sdX6_pass_14.2.1
theorem dX6_pass_18 : decode cX6_pass 18 = .ok (.aload_n 0, 1) := sdX6_pass_14.2.2.1
theorem dX6_pass_19 : decode cX6_pass 19 = .ok (.getfield 15, 3) := sdX6_pass_14.2.2.2.1
theorem dX6_pass_22 : decode cX6_pass 22 = .ok (.iconst 0, 1) := sdX6_pass_14.2.2.2.2.1
theorem dX6_pass_23 : decode cX6_pass 23 = .ok (.invokestatic 49, 3) := sdX6_pass_14.2.2.2.2.2.1
theorem dX6_pass_26 : decode cX6_pass 26 = .ok (.aload_n 0, 1) := sdX6_pass_14.2.2.2.2.2.2.1
theorem dX6_pass_27 : decode cX6_pass 27 = .ok (.getfield 18, 3) := sdX6_pass_14.2.2.2.2.2.2.2.1
theorem sdX6_pass_30 : dz_Seg cX6_pass [(30, .iconst 0, 1), (31, .invokestatic 49, 3), (34, .aload_n 0, 1), (35, .getfield 24, 3), (38, .aload_n 1, 1), (39, .invokevirtual 53, 3), (42, .iconst 1, 1), (43, .istore 4, 2)] := dz_sg _ 30 (by decide +kernel)
theorem dX6_pass_30 : decode cX6_pass 30 = .ok (.iconst 0, 1) := sdX6_pass_30.1
theorem dX6_pass_31 : decode cX6_pass 31 = .ok (.invokestatic 49, 3) := sdX6_pass_30.2.1
theorem dX6_pass_34 : decode cX6_pass 34 = .ok (.aload_n 0, 1) := sdX6_pass_30.2.2.1
theorem dX6_pass_35 : decode cX6_pass 35 = .ok (.getfield 24, 3) := sdX6_pass_30.2.2.2.1
theorem dX6_pass_38 : decode cX6_pass 38 = .ok (.aload_n 1, 1) := sdX6_pass_30.2.2.2.2.1
theorem dX6_pass_39 : decode cX6_pass 39 = .ok (.invokevirtual 53, 3) := sdX6_pass_30.2.2.2.2.2.1
theorem dX6_pass_42 : decode cX6_pass 42 = .ok (.iconst 1, 1) := sdX6_pass_30.2.2.2.2.2.2.1
theorem dX6_pass_43 : decode cX6_pass 43 = .ok (.istore 4, 2) := sdX6_pass_30.2.2.2.2.2.2.2.1
theorem sdX6_pass_45 : dz_Seg cX6_pass [(45, .iload 4, 2), (47, .iload_n 3, 1), (48, .if_icmp .gt 101, 3), (51, .aload_n 0, 1), (52, .getfield 31, 3), (55, .aload_n 0, 1), (56, .getfield 24, 3), (59, .invokevirtual 57, 3)] := dz_sg _ 45 (by decide +kernel)
theorem dX6_pass_45 : decode cX6_pass 45 = .ok (.iload 4, 2) := sdX6_pass_45.1
theorem dX6_pass_47 : decode cX6_pass 47 = .ok (.iload_n 3, 1) := sdX6_pass_45.2.1
theorem dX6_pass_48 : decode cX6_pass 48 = .ok (.if_icmp .gt 101, 3) := sdX6_pass_45.2.2.1
theorem dX6_pass_51 : decode cX6_pass 51 = .ok (.aload_n 0, 1) := sdX6_pass_45.2.2.2.1
theorem dX6_pass_52 : decode cX6_pass 52 = .ok (.getfield 31, 3) := sdX6_pass_45.2.2.2.2.1
theorem dX6_pass_55 : decode cX6_pass 55 = .ok (.aload_n 0, 1) := sdX6_pass_45.2.2.2.2.2.1
theorem dX6_pass_56 : decode cX6_pass 56 = .ok (.getfield 24, 3) := sdX6_pass_45.2.2.2.2.2.2.1
theorem dX6_pass_59 : decode cX6_pass 59 = .ok (.invokevirtual 57, 3) := sdX6_pass_45.2.2.2.2.2.2.2.1
theorem sdX6_pass_62 : dz_Seg cX6_pass [(62, .aload_n 0, 1), (63, .getfield 38, 3), (66, .aload_n 0, 1), (67, .getfield 31, 3), (70, .iload_n 2, 1), (71, .iload 4, 2), (73, .iadd, 1), (74, .iconst 1, 1)] := dz_sg _ 62 (by decide +kernel)
theorem dX6_pass_62 : decode cX6_pass 62 = .ok (.aload_n 0, 1) := sdX6_pass_62.1
theorem dX6_pass_63 : decode cX6_pass 63 = .ok (.getfield 38, 3) := sdX6_pass_62.2.1
theorem dX6_pass_66 : decode cX6_pass 66 = .ok (.aload_n 0, 1) := sdX6_pass_62.2.2.1
theorem dX6_pass_67 : decode cX6_pass 67 = .ok (.getfield 31, 3) := sdX6_pass_62.2.2.2.1
theorem dX6_pass_70 : decode cX6_pass 70 = .ok (.iload_n 2, 1) := sdX6_pass_62.2.2.2.2.1
theorem dX6_pass_71 : decode cX6_pass 71 = .ok (.iload 4, 2) := sdX6_pass_62.2.2.2.2.2.1
theorem dX6_pass_73 : decode cX6_pass 73 = .ok (.iadd, 1) := sdX6_pass_62.2.2.2.2.2.2.1
theorem dX6_pass_74 : decode cX6_pass 74 = .ok (.iconst 1, 1) := sdX6_pass_62.2.2.2.2.2.2.2.1
theorem sdX6_pass_75 : dz_Seg cX6_pass [(75, .isub, 1), (76, .invokevirtual 60, 3), (79, .aload_n 0, 1), (80, .dup, 1), (81, .getfield 42, 3), (84, .aload_n 0, 1), (85, .getfield 38, 3), (88, .aload_n 0, 1)] := dz_sg _ 75 (by decide +kernel)
theorem dX6_pass_75 : decode cX6_pass 75 = .ok (.isub, 1) := sdX6_pass_75.1
theorem dX6_pass_76 : decode cX6_pass 76 = .ok (.invokevirtual 60, 3) := sdX6_pass_75.2.1
theorem dX6_pass_79 : decode cX6_pass 79 = .ok (.aload_n 0, 1) := sdX6_pass_75.2.2.1
theorem dX6_pass_80 : decode cX6_pass 80 = .ok (.dup, 1) := sdX6_pass_75.2.2.2.1
theorem dX6_pass_81 : decode cX6_pass 81 = .ok (.getfield 42, 3) := sdX6_pass_75.2.2.2.2.1
theorem dX6_pass_84 : decode cX6_pass 84 = .ok (.aload_n 0, 1) := sdX6_pass_75.2.2.2.2.2.1
theorem dX6_pass_85 : decode cX6_pass 85 = .ok (.getfield 38, 3) := sdX6_pass_75.2.2.2.2.2.2.1
theorem dX6_pass_88 : decode cX6_pass 88 = .ok (.aload_n 0, 1) := sdX6_pass_75.2.2.2.2.2.2.2.1
theorem sdX6_pass_89 : dz_Seg cX6_pass [(89, .getfield 31, 3), (92, .invokevirtual 64, 3), (95, .iadd, 1), (96, .putfield 42, 3), (99, .iconst 0, 1), (100, .istore 5, 2), (102, .iload 5, 2), (104, .aload_n 0, 1)] := dz_sg _ 89 (by decide +kernel)
theorem dX6_pass_89 : decode cX6_pass 89 = .ok (.getfield 31, 3) := sdX6_pass_89.1
theorem dX6_pass_92 : decode cX6_pass 92 = .ok (.invokevirtual 64, 3) := sdX6_pass_89.2.1
theorem dX6_pass_95 : decode cX6_pass 95 = .ok (.iadd, 1) := sdX6_pass_89.2.2.1
theorem dX6_pass_96 : decode cX6_pass 96 = .ok (.putfield 42, 3) := sdX6_pass_89.2.2.2.1
theorem dX6_pass_99 : decode cX6_pass 99 = .ok (.iconst 0, 1) := sdX6_pass_89.2.2.2.2.1
theorem dX6_pass_100 : decode cX6_pass 100 = .ok (.istore 5, 2) := sdX6_pass_89.2.2.2.2.2.1
theorem dX6_pass_102 : decode cX6_pass 102 = .ok (.iload 5, 2) := sdX6_pass_89.2.2.2.2.2.2.1
theorem dX6_pass_104 : decode cX6_pass 104 = .ok (.aload_n 0, 1) := sdX6_pass_89.2.2.2.2.2.2.2.1
theorem sdX6_pass_105 : dz_Seg cX6_pass [(105, .getfield 24, 3), (108, .getfield 68, 3), (111, .if_icmp .ge 17, 3), (114, .aload_n 0, 1), (115, .iload 5, 2), (117, .iload 4, 2), (119, .invokevirtual 71, 3), (122, .iinc 5 1, 3)] := dz_sg _ 105 (by decide +kernel)
theorem dX6_pass_105 : decode cX6_pass 105 = .ok (.getfield 24, 3) := sdX6_pass_105.1
theorem dX6_pass_108 : decode cX6_pass 108 = .ok (.getfield 68, 3) := sdX6_pass_105.2.1
theorem dX6_pass_111 : decode cX6_pass 111 = .ok (.if_icmp .ge 17, 3) := sdX6_pass_105.2.2.1
theorem dX6_pass_114 : decode cX6_pass 114 = .ok (.aload_n 0, 1) := sdX6_pass_105.2.2.2.1
theorem dX6_pass_115 : decode cX6_pass 115 = .ok (.iload 5, 2) := sdX6_pass_105.2.2.2.2.1
theorem dX6_pass_117 : decode cX6_pass 117 = .ok (.iload 4, 2) := sdX6_pass_105.2.2.2.2.2.1
theorem dX6_pass_119 : decode cX6_pass 119 = .ok (.invokevirtual 71, 3) := sdX6_pass_105.2.2.2.2.2.2.1
theorem dX6_pass_122 : decode cX6_pass 122 = .ok (.iinc 5 1, 3) := sdX6_pass_105.2.2.2.2.2.2.2.1
theorem sdX6_pass_125 : dz_Seg cX6_pass [(125, .goto (-23), 3), (128, .aload_n 0, 1), (129, .getfield 24, 3), (132, .aload_n 0, 1), (133, .getfield 31, 3), (136, .aload_n 0, 1), (137, .getfield 38, 3), (140, .invokevirtual 75, 3)] := dz_sg _ 125 (by decide +kernel)
theorem dX6_pass_125 : decode cX6_pass 125 = .ok (.goto (-23), 3) := sdX6_pass_125.1
theorem dX6_pass_128 : decode cX6_pass 128 = .ok (.aload_n 0, 1) := sdX6_pass_125.2.1
theorem dX6_pass_129 : decode cX6_pass 129 = .ok (.getfield 24, 3) := sdX6_pass_125.2.2.1
theorem dX6_pass_132 : decode cX6_pass 132 = .ok (.aload_n 0, 1) := sdX6_pass_125.2.2.2.1
theorem dX6_pass_133 : decode cX6_pass 133 = .ok (.getfield 31, 3) := sdX6_pass_125.2.2.2.2.1
theorem dX6_pass_136 : decode cX6_pass 136 = .ok (.aload_n 0, 1) := sdX6_pass_125.2.2.2.2.2.1
theorem dX6_pass_137 : decode cX6_pass 137 = .ok (.getfield 38, 3) := sdX6_pass_125.2.2.2.2.2.2.1
theorem dX6_pass_140 : decode cX6_pass 140 = .ok (.invokevirtual 75, 3) := sdX6_pass_125.2.2.2.2.2.2.2.1
theorem sdX6_pass_143 : dz_Seg cX6_pass [(143, .iinc 4 1, 3), (146, .goto (-101), 3), (149, .return_, 1)] := dz_sg _ 143 (by decide +kernel)
theorem dX6_pass_143 : decode cX6_pass 143 = .ok (.iinc 4 1, 3) := sdX6_pass_143.1
theorem dX6_pass_146 : decode cX6_pass 146 = .ok (.goto (-101), 3) := sdX6_pass_143.2.1
theorem dX6_pass_149 : decode cX6_pass 149 = .ok (.return_, 1) := sdX6_pass_143.2.2.1
theorem sdX6_note_0 : dz_Seg cX6_note [(0, .aload_n 0, 1), (1, .getfield 31, 3), (4, .getfield 79, 3), (7, .iload_n 1, 1), (8, .invokestatic 82, 3), (11, .istore_n 3, 1), (12, .aload_n 0, 1), (13, .getfield 38, 3)] := dz_sg _ 0 (by decide +kernel)
theorem dX6_note_0 : decode cX6_note 0 = .ok (.aload_n 0, 1) := sdX6_note_0.1
theorem dX6_note_1 : decode cX6_note 1 = .ok (.getfield 31, 3) := sdX6_note_0.2.1
theorem dX6_note_4 : decode cX6_note 4 = .ok (.getfield 79, 3) := sdX6_note_0.2.2.1
theorem dX6_note_7 : decode cX6_note 7 = .ok (.iload_n 1, 1) := sdX6_note_0.2.2.2.1
theorem dX6_note_8 : decode cX6_note 8 = .ok (.invokestatic 82, 3) := sdX6_note_0.2.2.2.2.1
theorem dX6_note_11 : decode cX6_note 11 = .ok (.istore_n 3, 1) := sdX6_note_0.2.2.2.2.2.1
theorem dX6_note_12 : decode cX6_note 12 = .ok (.aload_n 0, 1) := sdX6_note_0.2.2.2.2.2.2.1
theorem dX6_note_13 : decode cX6_note 13 = .ok (.getfield 38, 3) := sdX6_note_0.2.2.2.2.2.2.2.1
theorem sdX6_note_16 : dz_Seg cX6_note [(16, .getfield 86, 3), (19, .iload_n 3, 1), (20, .invokestatic 82, 3), (23, .iconst (-1), 1), (24, .if_icmp .ne 32, 3), (27, .aload_n 0, 1), (28, .getfield 18, 3), (31, .iload_n 1, 1)] := dz_sg _ 16 (by decide +kernel)
theorem dX6_note_16 : decode cX6_note 16 = .ok (.getfield 86, 3) := sdX6_note_16.1
theorem dX6_note_19 : decode cX6_note 19 = .ok (.iload_n 3, 1) := sdX6_note_16.2.1
theorem dX6_note_20 : decode cX6_note 20 = .ok (.invokestatic 82, 3) := sdX6_note_16.2.2.1
theorem dX6_note_23 : decode cX6_note 23 = .ok (.iconst (-1), 1) := sdX6_note_16.2.2.2.1
theorem dX6_note_24 : decode cX6_note 24 = .ok (.if_icmp .ne 32, 3) := sdX6_note_16.2.2.2.2.1
theorem dX6_note_27 : decode cX6_note 27 = .ok (.aload_n 0, 1) := sdX6_note_16.2.2.2.2.2.1
theorem dX6_note_28 : decode cX6_note 28 = .ok (.getfield 18, 3) := sdX6_note_16.2.2.2.2.2.2.1
theorem dX6_note_31 : decode cX6_note 31 = .ok (.iload_n 1, 1) := sdX6_note_16.2.2.2.2.2.2.2.1
theorem sdX6_note_32 : dz_Seg cX6_note [(32, .iconst 1, 1), (33, .invokestatic 89, 3), (36, .aload_n 0, 1), (37, .aload_n 0, 1), (38, .getfield 46, 3), (41, .aload_n 0, 1), (42, .getfield 18, 3), (45, .iload_n 1, 1)] := dz_sg _ 32 (by decide +kernel)
theorem dX6_note_32 : decode cX6_note 32 = .ok (.iconst 1, 1) := sdX6_note_32.1
theorem dX6_note_33 : decode cX6_note 33 = .ok (.invokestatic 89, 3) := sdX6_note_32.2.1
theorem dX6_note_36 : decode cX6_note 36 = .ok (.aload_n 0, 1) := sdX6_note_32.2.2.1
theorem dX6_note_37 : decode cX6_note 37 = .ok (.aload_n 0, 1) := sdX6_note_32.2.2.2.1
theorem dX6_note_38 : decode cX6_note 38 = .ok (.getfield 46, 3) := sdX6_note_32.2.2.2.2.1
theorem dX6_note_41 : decode cX6_note 41 = .ok (.aload_n 0, 1) := sdX6_note_32.2.2.2.2.2.1
theorem dX6_note_42 : decode cX6_note 42 = .ok (.getfield 18, 3) := sdX6_note_32.2.2.2.2.2.2.1
theorem dX6_note_45 : decode cX6_note 45 = .ok (.iload_n 1, 1) := sdX6_note_32.2.2.2.2.2.2.2.1
theorem sdX6_note_46 : dz_Seg cX6_note [(46, .invokestatic 82, 3), (49, .invokestatic 93, 3), (52, .putfield 46, 3), (55, .return_, 1), (56, .aload_n 0, 1), (57, .getfield 18, 3), (60, .iload_n 1, 1), (61, .iconst 0, 1)] := dz_sg _ 46 (by decide +kernel)
theorem dX6_note_46 : decode cX6_note 46 = .ok (.invokestatic 82, 3) := sdX6_note_46.1
theorem dX6_note_49 : decode cX6_note 49 = .ok (.invokestatic 93, 3) := sdX6_note_46.2.1
theorem dX6_note_52 : decode cX6_note 52 = .ok (.putfield 46, 3) := sdX6_note_46.2.2.1
theorem dX6_note_55 : decode cX6_note 55 = .ok (.return_, 1) := sdX6_note_46.2.2.2.1
theorem dX6_note_56 : decode cX6_note 56 = .ok (.aload_n 0, 1) := sdX6_note_46.2.2.2.2.1
theorem dX6_note_57 : decode cX6_note 57 = .ok (.getfield 18, 3) := sdX6_note_46.2.2.2.2.2.1
theorem dX6_note_60 : decode cX6_note 60 = .ok (.iload_n 1, 1) := sdX6_note_46.2.2.2.2.2.2.1
theorem dX6_note_61 : decode cX6_note 61 = .ok (.iconst 0, 1) := sdX6_note_46.2.2.2.2.2.2.2.1
theorem sdX6_note_62 : dz_Seg cX6_note [(62, .invokestatic 99, 3), (65, .aload_n 0, 1), (66, .getfield 9, 3), (69, .iload_n 1, 1), (70, .iconst 1, 1), (71, .invokestatic 89, 3), (74, .aload_n 0, 1), (75, .getfield 38, 3)] := dz_sg _ 62 (by decide +kernel)
theorem dX6_note_62 : decode cX6_note 62 = .ok (.invokestatic 99, 3) := sdX6_note_62.1
theorem dX6_note_65 : decode cX6_note 65 = .ok (.aload_n 0, 1) := sdX6_note_62.2.1
theorem dX6_note_66 : decode cX6_note 66 = .ok (.getfield 9, 3) := sdX6_note_62.2.2.1
theorem dX6_note_69 : decode cX6_note 69 = .ok (.iload_n 1, 1) := sdX6_note_62.2.2.2.1
theorem dX6_note_70 : decode cX6_note 70 = .ok (.iconst 1, 1) := sdX6_note_62.2.2.2.2.1
theorem dX6_note_71 : decode cX6_note 71 = .ok (.invokestatic 89, 3) := sdX6_note_62.2.2.2.2.2.1
theorem dX6_note_74 : decode cX6_note 74 = .ok (.aload_n 0, 1) := sdX6_note_62.2.2.2.2.2.2.1
theorem dX6_note_75 : decode cX6_note 75 = .ok (.getfield 38, 3) := sdX6_note_62.2.2.2.2.2.2.2.1
theorem sdX6_note_78 : dz_Seg cX6_note [(78, .aload_n 0, 1), (79, .getfield 31, 3), (82, .iload_n 3, 1), (83, .invokevirtual 102, 3), (86, .ifCond .eq 23, 3), (89, .aload_n 0, 1), (90, .getfield 15, 3), (93, .iload_n 1, 1)] := dz_sg _ 78 (by decide +kernel)
theorem dX6_note_78 : decode cX6_note 78 = .ok (.aload_n 0, 1) := sdX6_note_78.1
theorem dX6_note_79 : decode cX6_note 79 = .ok (.getfield 31, 3) := sdX6_note_78.2.1
theorem dX6_note_82 : decode cX6_note 82 = .ok (.iload_n 3, 1) := sdX6_note_78.2.2.1
theorem dX6_note_83 : decode cX6_note 83 = .ok (.invokevirtual 102, 3) := sdX6_note_78.2.2.2.1
theorem dX6_note_86 : decode cX6_note 86 = .ok (.ifCond .eq 23, 3) := sdX6_note_78.2.2.2.2.1
theorem dX6_note_89 : decode cX6_note 89 = .ok (.aload_n 0, 1) := sdX6_note_78.2.2.2.2.2.1
theorem dX6_note_90 : decode cX6_note 90 = .ok (.getfield 15, 3) := sdX6_note_78.2.2.2.2.2.2.1
theorem dX6_note_93 : decode cX6_note 93 = .ok (.iload_n 1, 1) := sdX6_note_78.2.2.2.2.2.2.2.1
theorem sdX6_note_94 : dz_Seg cX6_note [(94, .invokestatic 82, 3), (97, .ifCond .ne 12, 3), (100, .aload_n 0, 1), (101, .getfield 15, 3), (104, .iload_n 1, 1), (105, .iload_n 2, 1), (106, .invokestatic 99, 3), (109, .return_, 1)] := dz_sg _ 94 (by decide +kernel)
theorem dX6_note_94 : decode cX6_note 94 = .ok (.invokestatic 82, 3) := sdX6_note_94.1
theorem dX6_note_97 : decode cX6_note 97 = .ok (.ifCond .ne 12, 3) := sdX6_note_94.2.1
theorem dX6_note_100 : decode cX6_note 100 = .ok (.aload_n 0, 1) := sdX6_note_94.2.2.1
theorem dX6_note_101 : decode cX6_note 101 = .ok (.getfield 15, 3) := sdX6_note_94.2.2.2.1
theorem dX6_note_104 : decode cX6_note 104 = .ok (.iload_n 1, 1) := sdX6_note_94.2.2.2.2.1
theorem dX6_note_105 : decode cX6_note 105 = .ok (.iload_n 2, 1) := sdX6_note_94.2.2.2.2.2.1
theorem dX6_note_106 : decode cX6_note 106 = .ok (.invokestatic 99, 3) := sdX6_note_94.2.2.2.2.2.2.1
theorem dX6_note_109 : decode cX6_note 109 = .ok (.return_, 1) := sdX6_note_94.2.2.2.2.2.2.2.1
theorem sdX6_unserved_0 : dz_Seg cX6_unserved [(0, .iconst 0, 1), (1, .istore_n 2, 1), (2, .iconst 0, 1), (3, .istore_n 3, 1), (4, .iload_n 3, 1), (5, .iload_n 1, 1), (6, .if_icmp .ge 30, 3), (9, .iload_n 2, 1)] := dz_sg _ 0 (by decide +kernel)
theorem dX6_unserved_0 : decode cX6_unserved 0 = .ok (.iconst 0, 1) := sdX6_unserved_0.1
theorem dX6_unserved_1 : decode cX6_unserved 1 = .ok (.istore_n 2, 1) := sdX6_unserved_0.2.1
theorem dX6_unserved_2 : decode cX6_unserved 2 = .ok (.iconst 0, 1) := sdX6_unserved_0.2.2.1
theorem dX6_unserved_3 : decode cX6_unserved 3 = .ok (.istore_n 3, 1) := sdX6_unserved_0.2.2.2.1
theorem dX6_unserved_4 : decode cX6_unserved 4 = .ok (.iload_n 3, 1) := sdX6_unserved_0.2.2.2.2.1
theorem dX6_unserved_5 : decode cX6_unserved 5 = .ok (.iload_n 1, 1) := sdX6_unserved_0.2.2.2.2.2.1
theorem dX6_unserved_6 : decode cX6_unserved 6 = .ok (.if_icmp .ge 30, 3) := sdX6_unserved_0.2.2.2.2.2.2.1
theorem dX6_unserved_9 : decode cX6_unserved 9 = .ok (.iload_n 2, 1) := sdX6_unserved_0.2.2.2.2.2.2.2.1
theorem sdX6_unserved_10 : dz_Seg cX6_unserved [(10, .aload_n 0, 1), (11, .getfield 9, 3), (14, .iload_n 3, 1), (15, .invokestatic 82, 3), (18, .ifCond .ne 9, 3), (21, .iconst 1, 1), (22, .iload_n 3, 1), (23, .ishl, 1)] := dz_sg _ 10 (by decide +kernel)
theorem dX6_unserved_10 : decode cX6_unserved 10 = .ok (.aload_n 0, 1) := sdX6_unserved_10.1
theorem dX6_unserved_11 : decode cX6_unserved 11 = .ok (.getfield 9, 3) := sdX6_unserved_10.2.1
theorem dX6_unserved_14 : decode cX6_unserved 14 = .ok (.iload_n 3, 1) := sdX6_unserved_10.2.2.1
theorem dX6_unserved_15 : decode cX6_unserved 15 = .ok (.invokestatic 82, 3) := sdX6_unserved_10.2.2.2.1
theorem dX6_unserved_18 : decode cX6_unserved 18 = .ok (.ifCond .ne 9, 3) := sdX6_unserved_10.2.2.2.2.1
theorem dX6_unserved_21 : decode cX6_unserved 21 = .ok (.iconst 1, 1) := sdX6_unserved_10.2.2.2.2.2.1
theorem dX6_unserved_22 : decode cX6_unserved 22 = .ok (.iload_n 3, 1) := sdX6_unserved_10.2.2.2.2.2.2.1
theorem dX6_unserved_23 : decode cX6_unserved 23 = .ok (.ishl, 1) := sdX6_unserved_10.2.2.2.2.2.2.2.1
theorem sdX6_unserved_24 : dz_Seg cX6_unserved [(24, .goto 4, 3), (27, .iconst 0, 1), (28, .ior, 1), (29, .istore_n 2, 1), (30, .iinc 3 1, 3), (33, .goto (-29), 3), (36, .iload_n 2, 1), (37, .ireturn, 1)] := dz_sg _ 24 (by decide +kernel)
theorem dX6_unserved_24 : decode cX6_unserved 24 = .ok (.goto 4, 3) := sdX6_unserved_24.1
theorem dX6_unserved_27 : decode cX6_unserved 27 = .ok (.iconst 0, 1) := sdX6_unserved_24.2.1
theorem dX6_unserved_28 : decode cX6_unserved 28 = .ok (.ior, 1) := sdX6_unserved_24.2.2.1
theorem dX6_unserved_29 : decode cX6_unserved 29 = .ok (.istore_n 2, 1) := sdX6_unserved_24.2.2.2.1
theorem dX6_unserved_30 : decode cX6_unserved 30 = .ok (.iinc 3 1, 3) := sdX6_unserved_24.2.2.2.2.1
theorem dX6_unserved_33 : decode cX6_unserved 33 = .ok (.goto (-29), 3) := sdX6_unserved_24.2.2.2.2.2.1
theorem dX6_unserved_36 : decode cX6_unserved 36 = .ok (.iload_n 2, 1) := sdX6_unserved_24.2.2.2.2.2.2.1
theorem dX6_unserved_37 : decode cX6_unserved 37 = .ok (.ireturn, 1) := sdX6_unserved_24.2.2.2.2.2.2.2.1
theorem sdX7_init_0 : dz_Seg cX7_init [(0, .aload_n 0, 1), (1, .invokespecial 1, 3), (4, .aload_n 0, 1), (5, .sipush 700, 3), (8, .newarray .int, 2), (10, .putfield 9, 3), (13, .aload_n 0, 1), (14, .bipush 50, 2)] := dz_sg _ 0 (by decide +kernel)
theorem dX7_init_0 : decode cX7_init 0 = .ok (.aload_n 0, 1) := sdX7_init_0.1
theorem dX7_init_1 : decode cX7_init 1 = .ok (.invokespecial 1, 3) := sdX7_init_0.2.1
theorem dX7_init_4 : decode cX7_init 4 = .ok (.aload_n 0, 1) := sdX7_init_0.2.2.1
theorem dX7_init_5 : decode cX7_init 5 = .ok (.sipush 700, 3) := sdX7_init_0.2.2.2.1
theorem dX7_init_8 : decode cX7_init 8 = .ok (.newarray .int, 2) := sdX7_init_0.2.2.2.2.1
theorem dX7_init_10 : decode cX7_init 10 = .ok (.putfield 9, 3) := sdX7_init_0.2.2.2.2.2.1
theorem dX7_init_13 : decode cX7_init 13 = .ok (.aload_n 0, 1) := sdX7_init_0.2.2.2.2.2.2.1
theorem dX7_init_14 : decode cX7_init 14 = .ok (.bipush 50, 2) := sdX7_init_0.2.2.2.2.2.2.2.1
theorem sdX7_init_16 : dz_Seg cX7_init [(16, .newarray .int, 2), (18, .putfield 13, 3), (21, .aload_n 0, 1), (22, .new 16, 3), (25, .dup, 1), (26, .invokespecial 18, 3), (29, .putfield 19, 3), (32, .aload_n 0, 1)] := dz_sg _ 16 (by decide +kernel)
theorem dX7_init_16 : decode cX7_init 16 = .ok (.newarray .int, 2) := sdX7_init_16.1
theorem dX7_init_18 : decode cX7_init 18 = .ok (.putfield 13, 3) := sdX7_init_16.2.1
theorem dX7_init_21 : decode cX7_init 21 = .ok (.aload_n 0, 1) := sdX7_init_16.2.2.1
theorem dX7_init_22 : decode cX7_init 22 = .ok (.new 16, 3) := sdX7_init_16.2.2.2.1
theorem dX7_init_25 : decode cX7_init 25 = .ok (.dup, 1) := sdX7_init_16.2.2.2.2.1
theorem dX7_init_26 : decode cX7_init 26 = .ok (.invokespecial 18, 3) := sdX7_init_16.2.2.2.2.2.1
theorem dX7_init_29 : decode cX7_init 29 = .ok (.putfield 19, 3) := sdX7_init_16.2.2.2.2.2.2.1
theorem dX7_init_32 : decode cX7_init 32 = .ok (.aload_n 0, 1) := sdX7_init_16.2.2.2.2.2.2.2.1
theorem sdX7_init_33 : dz_Seg cX7_init [(33, .new 23, 3), (36, .dup, 1), (37, .invokespecial 25, 3), (40, .putfield 26, 3), (43, .aload_n 0, 1), (44, .new 30, 3), (47, .dup, 1), (48, .invokespecial 32, 3)] := dz_sg _ 33 (by decide +kernel)
theorem dX7_init_33 : decode cX7_init 33 = .ok (.new 23, 3) := sdX7_init_33.1
theorem dX7_init_36 : decode cX7_init 36 = .ok (.dup, 1) := sdX7_init_33.2.1
theorem dX7_init_37 : decode cX7_init 37 = .ok (.invokespecial 25, 3) := sdX7_init_33.2.2.1
theorem dX7_init_40 : decode cX7_init 40 = .ok (.putfield 26, 3) := sdX7_init_33.2.2.2.1
theorem dX7_init_43 : decode cX7_init 43 = .ok (.aload_n 0, 1) := sdX7_init_33.2.2.2.2.1
theorem dX7_init_44 : decode cX7_init 44 = .ok (.new 30, 3) := sdX7_init_33.2.2.2.2.2.1
theorem dX7_init_47 : decode cX7_init 47 = .ok (.dup, 1) := sdX7_init_33.2.2.2.2.2.2.1
theorem dX7_init_48 : decode cX7_init 48 = .ok (.invokespecial 32, 3) := sdX7_init_33.2.2.2.2.2.2.2.1
theorem sdX7_init_51 : dz_Seg cX7_init [(51, .putfield 33, 3), (54, .aload_n 0, 1), (55, .new 37, 3), (58, .dup, 1), (59, .invokespecial 39, 3), (62, .putfield 40, 3), (65, .aload_n 0, 1), (66, .new 44, 3)] := dz_sg _ 51 (by decide +kernel)
theorem dX7_init_51 : decode cX7_init 51 = .ok (.putfield 33, 3) := sdX7_init_51.1
theorem dX7_init_54 : decode cX7_init 54 = .ok (.aload_n 0, 1) := sdX7_init_51.2.1
theorem dX7_init_55 : decode cX7_init 55 = .ok (.new 37, 3) := sdX7_init_51.2.2.1
theorem dX7_init_58 : decode cX7_init 58 = .ok (.dup, 1) := sdX7_init_51.2.2.2.1
theorem dX7_init_59 : decode cX7_init 59 = .ok (.invokespecial 39, 3) := sdX7_init_51.2.2.2.2.1
theorem dX7_init_62 : decode cX7_init 62 = .ok (.putfield 40, 3) := sdX7_init_51.2.2.2.2.2.1
theorem dX7_init_65 : decode cX7_init 65 = .ok (.aload_n 0, 1) := sdX7_init_51.2.2.2.2.2.2.1
theorem dX7_init_66 : decode cX7_init 66 = .ok (.new 44, 3) := sdX7_init_51.2.2.2.2.2.2.2.1
theorem sdX7_init_69 : dz_Seg cX7_init [(69, .dup, 1), (70, .invokespecial 46, 3), (73, .putfield 47, 3), (76, .aload_n 0, 1), (77, .new 51, 3), (80, .dup, 1), (81, .invokespecial 53, 3), (84, .putfield 54, 3)] := dz_sg _ 69 (by decide +kernel)
theorem dX7_init_69 : decode cX7_init 69 = .ok (.dup, 1) := sdX7_init_69.1
theorem dX7_init_70 : decode cX7_init 70 = .ok (.invokespecial 46, 3) := sdX7_init_69.2.1
theorem dX7_init_73 : decode cX7_init 73 = .ok (.putfield 47, 3) := sdX7_init_69.2.2.1
theorem dX7_init_76 : decode cX7_init 76 = .ok (.aload_n 0, 1) := sdX7_init_69.2.2.2.1
theorem dX7_init_77 : decode cX7_init 77 = .ok (.new 51, 3) := sdX7_init_69.2.2.2.2.1
theorem dX7_init_80 : decode cX7_init 80 = .ok (.dup, 1) := sdX7_init_69.2.2.2.2.2.1
theorem dX7_init_81 : decode cX7_init 81 = .ok (.invokespecial 53, 3) := sdX7_init_69.2.2.2.2.2.2.1
theorem dX7_init_84 : decode cX7_init 84 = .ok (.putfield 54, 3) := sdX7_init_69.2.2.2.2.2.2.2.1
theorem sdX7_init_87 : dz_Seg cX7_init [(87, .aload_n 0, 1), (88, .new 58, 3), (91, .dup, 1), (92, .invokespecial 60, 3), (95, .putfield 61, 3), (98, .aload_n 0, 1), (99, .new 23, 3), (102, .dup, 1)] := dz_sg _ 87 (by decide +kernel)
theorem dX7_init_87 : decode cX7_init 87 = .ok (.aload_n 0, 1) := sdX7_init_87.1
theorem dX7_init_88 : decode cX7_init 88 = .ok (.new 58, 3) := sdX7_init_87.2.1
theorem dX7_init_91 : decode cX7_init 91 = .ok (.dup, 1) := sdX7_init_87.2.2.1
theorem dX7_init_92 : decode cX7_init 92 = .ok (.invokespecial 60, 3) := sdX7_init_87.2.2.2.1
theorem dX7_init_95 : decode cX7_init 95 = .ok (.putfield 61, 3) := sdX7_init_87.2.2.2.2.1
theorem dX7_init_98 : decode cX7_init 98 = .ok (.aload_n 0, 1) := sdX7_init_87.2.2.2.2.2.1
theorem dX7_init_99 : decode cX7_init 99 = .ok (.new 23, 3) := sdX7_init_87.2.2.2.2.2.2.1
theorem dX7_init_102 : decode cX7_init 102 = .ok (.dup, 1) := sdX7_init_87.2.2.2.2.2.2.2.1
theorem sdX7_init_103 : dz_Seg cX7_init [(103, .invokespecial 25, 3), (106, .putfield 65, 3), (109, .aload_n 0, 1), (110, .new 37, 3), (113, .dup, 1), (114, .invokespecial 39, 3), (117, .putfield 68, 3), (120, .aload_n 0, 1)] := dz_sg _ 103 (by decide +kernel)
theorem dX7_init_103 : decode cX7_init 103 = .ok (.invokespecial 25, 3) := sdX7_init_103.1
theorem dX7_init_106 : decode cX7_init 106 = .ok (.putfield 65, 3) := sdX7_init_103.2.1
theorem dX7_init_109 : decode cX7_init 109 = .ok (.aload_n 0, 1) := sdX7_init_103.2.2.1
theorem dX7_init_110 : decode cX7_init 110 = .ok (.new 37, 3) := sdX7_init_103.2.2.2.1
theorem dX7_init_113 : decode cX7_init 113 = .ok (.dup, 1) := sdX7_init_103.2.2.2.2.1
theorem dX7_init_114 : decode cX7_init 114 = .ok (.invokespecial 39, 3) := sdX7_init_103.2.2.2.2.2.1
theorem dX7_init_117 : decode cX7_init 117 = .ok (.putfield 68, 3) := sdX7_init_103.2.2.2.2.2.2.1
theorem dX7_init_120 : decode cX7_init 120 = .ok (.aload_n 0, 1) := sdX7_init_103.2.2.2.2.2.2.2.1
theorem sdX7_init_121 : dz_Seg cX7_init [(121, .new 44, 3), (124, .dup, 1), (125, .invokespecial 46, 3), (128, .putfield 71, 3), (131, .aload_n 0, 1), (132, .new 51, 3), (135, .dup, 1), (136, .invokespecial 53, 3)] := dz_sg _ 121 (by decide +kernel)
theorem dX7_init_121 : decode cX7_init 121 = .ok (.new 44, 3) := sdX7_init_121.1
theorem dX7_init_124 : decode cX7_init 124 = .ok (.dup, 1) := sdX7_init_121.2.1
theorem dX7_init_125 : decode cX7_init 125 = .ok (.invokespecial 46, 3) := sdX7_init_121.2.2.1
theorem dX7_init_128 : decode cX7_init 128 = .ok (.putfield 71, 3) := sdX7_init_121.2.2.2.1
theorem dX7_init_131 : decode cX7_init 131 = .ok (.aload_n 0, 1) := sdX7_init_121.2.2.2.2.1
theorem dX7_init_132 : decode cX7_init 132 = .ok (.new 51, 3) := sdX7_init_121.2.2.2.2.2.1
theorem dX7_init_135 : decode cX7_init 135 = .ok (.dup, 1) := sdX7_init_121.2.2.2.2.2.2.1
theorem dX7_init_136 : decode cX7_init 136 = .ok (.invokespecial 53, 3) := sdX7_init_121.2.2.2.2.2.2.2.1
theorem sdX7_init_139 : dz_Seg cX7_init [(139, .putfield 74, 3), (142, .aload_n 0, 1), (143, .getfield 26, 3), (146, .invokevirtual 77, 3), (149, .aload_n 0, 1), (150, .getfield 40, 3), (153, .aload_n 0, 1), (154, .getfield 26, 3)] := dz_sg _ 139 (by decide +kernel)
theorem dX7_init_139 : decode cX7_init 139 = .ok (.putfield 74, 3) := sdX7_init_139.1
theorem dX7_init_142 : decode cX7_init 142 = .ok (.aload_n 0, 1) := sdX7_init_139.2.1
theorem dX7_init_143 : decode cX7_init 143 = .ok (.getfield 26, 3) := sdX7_init_139.2.2.1
theorem dX7_init_146 : decode cX7_init 146 = .ok (.invokevirtual 77, 3) := sdX7_init_139.2.2.2.1
theorem dX7_init_149 : decode cX7_init 149 = .ok (.aload_n 0, 1) := sdX7_init_139.2.2.2.2.1
theorem dX7_init_150 : decode cX7_init 150 = .ok (.getfield 40, 3) := sdX7_init_139.2.2.2.2.2.1
theorem dX7_init_153 : decode cX7_init 153 = .ok (.aload_n 0, 1) := sdX7_init_139.2.2.2.2.2.2.1
theorem dX7_init_154 : decode cX7_init 154 = .ok (.getfield 26, 3) := sdX7_init_139.2.2.2.2.2.2.2.1
theorem sdX7_init_157 : dz_Seg cX7_init [(157, .invokevirtual 80, 3), (160, .aload_n 0, 1), (161, .iconst (-1), 1), (162, .putfield 84, 3), (165, .return_, 1)] := dz_sg _ 157 (by decide +kernel)
theorem dX7_init_157 : decode cX7_init 157 = .ok (.invokevirtual 80, 3) := sdX7_init_157.1
theorem dX7_init_160 : decode cX7_init 160 = .ok (.aload_n 0, 1) := sdX7_init_157.2.1
theorem dX7_init_161 : decode cX7_init 161 = .ok (.iconst (-1), 1) := sdX7_init_157.2.2.1
theorem dX7_init_162 : decode cX7_init 162 = .ok (.putfield 84, 3) := sdX7_init_157.2.2.2.1
theorem dX7_init_165 : decode cX7_init 165 = .ok (.return_, 1) := sdX7_init_157.2.2.2.2.1
theorem sdX7_status_0 : dz_Seg cX7_status [(0, .aload_n 0, 1), (1, .getfield 88, 3), (4, .ireturn, 1)] := dz_sg _ 0 (by decide +kernel)
theorem dX7_status_0 : decode cX7_status 0 = .ok (.aload_n 0, 1) := sdX7_status_0.1
theorem dX7_status_1 : decode cX7_status 1 = .ok (.getfield 88, 3) := sdX7_status_0.2.1
theorem dX7_status_4 : decode cX7_status 4 = .ok (.ireturn, 1) := sdX7_status_0.2.2.1
theorem sdX7_feed_0 : dz_Seg cX7_feed [(0, .aload_n 0, 1), (1, .getfield 91, 3), (4, .bipush 20, 2), (6, .iadd, 1), (7, .sipush 700, 3), (10, .if_icmp .le 5, 3), (13, .iconst (-1), 1), (14, .ireturn, 1)] := dz_sg _ 0 (by decide +kernel)
theorem dX7_feed_0 : decode cX7_feed 0 = .ok (.aload_n 0, 1) := sdX7_feed_0.1
theorem dX7_feed_1 : decode cX7_feed 1 = .ok (.getfield 91, 3) := sdX7_feed_0.2.1
theorem dX7_feed_4 : decode cX7_feed 4 = .ok (.bipush 20, 2) := sdX7_feed_0.2.2.1
theorem dX7_feed_6 : decode cX7_feed 6 = .ok (.iadd, 1) := sdX7_feed_0.2.2.2.1
theorem dX7_feed_7 : decode cX7_feed 7 = .ok (.sipush 700, 3) := sdX7_feed_0.2.2.2.2.1
theorem dX7_feed_10 : decode cX7_feed 10 = .ok (.if_icmp .le 5, 3) := sdX7_feed_0.2.2.2.2.2.1
theorem dX7_feed_13 : decode cX7_feed 13 = .ok (.iconst (-1), 1) := sdX7_feed_0.2.2.2.2.2.2.1
theorem dX7_feed_14 : decode cX7_feed 14 = .ok (.ireturn, 1) := sdX7_feed_0.2.2.2.2.2.2.2.1
theorem sdX7_feed_15 : dz_Seg cX7_feed [(15, .aload_n 0, 1), (16, .iload_n 1, 1), (17, .invokevirtual 94, 3), (20, .aload_n 0, 1), (21, .iload_n 2, 1), (22, .invokevirtual 94, 3), (25, .aload_n 0, 1), (26, .iload_n 3, 1)] := dz_sg _ 15 (by decide +kernel)
theorem dX7_feed_15 : decode cX7_feed 15 = .ok (.aload_n 0, 1) := sdX7_feed_15.1
theorem dX7_feed_16 : decode cX7_feed 16 = .ok (.iload_n 1, 1) := sdX7_feed_15.2.1
theorem dX7_feed_17 : decode cX7_feed 17 = .ok (.invokevirtual 94, 3) := sdX7_feed_15.2.2.1
theorem dX7_feed_20 : decode cX7_feed 20 = .ok (.aload_n 0, 1) := sdX7_feed_15.2.2.2.1
theorem dX7_feed_21 : decode cX7_feed 21 = .ok (.iload_n 2, 1) := sdX7_feed_15.2.2.2.2.1
theorem dX7_feed_22 : decode cX7_feed 22 = .ok (.invokevirtual 94, 3) := sdX7_feed_15.2.2.2.2.2.1
theorem dX7_feed_25 : decode cX7_feed 25 = .ok (.aload_n 0, 1) := sdX7_feed_15.2.2.2.2.2.2.1
theorem dX7_feed_26 : decode cX7_feed 26 = .ok (.iload_n 3, 1) := sdX7_feed_15.2.2.2.2.2.2.2.1
theorem sdX7_feed_27 : dz_Seg cX7_feed [(27, .invokevirtual 94, 3), (30, .aload_n 0, 1), (31, .iload 4, 2), (33, .invokevirtual 94, 3), (36, .aload_n 0, 1), (37, .iload 5, 2), (39, .invokevirtual 94, 3), (42, .aload_n 0, 1)] := dz_sg _ 27 (by decide +kernel)
theorem dX7_feed_27 : decode cX7_feed 27 = .ok (.invokevirtual 94, 3) := sdX7_feed_27.1
theorem dX7_feed_30 : decode cX7_feed 30 = .ok (.aload_n 0, 1) := sdX7_feed_27.2.1
theorem dX7_feed_31 : decode cX7_feed 31 = .ok (.iload 4, 2) := sdX7_feed_27.2.2.1
theorem dX7_feed_33 : decode cX7_feed 33 = .ok (.invokevirtual 94, 3) := sdX7_feed_27.2.2.2.1
theorem dX7_feed_36 : decode cX7_feed 36 = .ok (.aload_n 0, 1) := sdX7_feed_27.2.2.2.2.1
theorem dX7_feed_37 : decode cX7_feed 37 = .ok (.iload 5, 2) := sdX7_feed_27.2.2.2.2.2.1
theorem dX7_feed_39 : decode cX7_feed 39 = .ok (.invokevirtual 94, 3) := sdX7_feed_27.2.2.2.2.2.2.1
theorem dX7_feed_42 : decode cX7_feed 42 = .ok (.aload_n 0, 1) := sdX7_feed_27.2.2.2.2.2.2.2.1
theorem sdX7_feed_43 : dz_Seg cX7_feed [(43, .getfield 91, 3), (46, .ireturn, 1)] := dz_sg _ 43 (by decide +kernel)
theorem dX7_feed_43 : decode cX7_feed 43 = .ok (.getfield 91, 3) := sdX7_feed_43.1
theorem dX7_feed_46 : decode cX7_feed 46 = .ok (.ireturn, 1) := sdX7_feed_43.2.1
theorem sdX7_append_0 : dz_Seg cX7_append [(0, .bipush 24, 2), (2, .istore_n 2, 1), (3, .iload_n 2, 1), (4, .ifCond .lt 37, 3), (7, .aload_n 0, 1), (8, .getfield 9, 3), (11, .aload_n 0, 1), (12, .getfield 91, 3)] := dz_sg _ 0 (by decide +kernel)
theorem dX7_append_0 : decode cX7_append 0 = .ok (.bipush 24, 2) := sdX7_append_0.1
theorem dX7_append_2 : decode cX7_append 2 = .ok (.istore_n 2, 1) := sdX7_append_0.2.1
theorem dX7_append_3 : decode cX7_append 3 = .ok (.iload_n 2, 1) := sdX7_append_0.2.2.1
theorem dX7_append_4 : decode cX7_append 4 = .ok (.ifCond .lt 37, 3) := sdX7_append_0.2.2.2.1
theorem dX7_append_7 : decode cX7_append 7 = .ok (.aload_n 0, 1) := sdX7_append_0.2.2.2.2.1
theorem dX7_append_8 : decode cX7_append 8 = .ok (.getfield 9, 3) := sdX7_append_0.2.2.2.2.2.1
theorem dX7_append_11 : decode cX7_append 11 = .ok (.aload_n 0, 1) := sdX7_append_0.2.2.2.2.2.2.1
theorem dX7_append_12 : decode cX7_append 12 = .ok (.getfield 91, 3) := sdX7_append_0.2.2.2.2.2.2.2.1
theorem sdX7_append_15 : dz_Seg cX7_append [(15, .iload_n 1, 1), (16, .iload_n 2, 1), (17, .iushr, 1), (18, .sipush 255, 3), (21, .iand, 1), (22, .invokestatic 98, 3), (25, .aload_n 0, 1), (26, .dup, 1)] := dz_sg _ 15 (by decide +kernel)
theorem dX7_append_15 : decode cX7_append 15 = .ok (.iload_n 1, 1) := sdX7_append_15.1
theorem dX7_append_16 : decode cX7_append 16 = .ok (.iload_n 2, 1) := sdX7_append_15.2.1
theorem dX7_append_17 : decode cX7_append 17 = .ok (.iushr, 1) := sdX7_append_15.2.2.1
theorem dX7_append_18 : decode cX7_append 18 = .ok (.sipush 255, 3) := sdX7_append_15.2.2.2.1
theorem dX7_append_21 : decode cX7_append 21 = .ok (.iand, 1) := sdX7_append_15.2.2.2.2.1
theorem dX7_append_22 : decode cX7_append 22 = .ok (.invokestatic 98, 3) := sdX7_append_15.2.2.2.2.2.1
theorem dX7_append_25 : decode cX7_append 25 = .ok (.aload_n 0, 1) := sdX7_append_15.2.2.2.2.2.2.1
theorem dX7_append_26 : decode cX7_append 26 = .ok (.dup, 1) := sdX7_append_15.2.2.2.2.2.2.2.1
theorem sdX7_append_27 : dz_Seg cX7_append [(27, .getfield 91, 3), (30, .iconst 1, 1), (31, .iadd, 1), (32, .putfield 91, 3), (35, .iinc 2 (-8), 3), (38, .goto (-35), 3), (41, .return_, 1)] := dz_sg _ 27 (by decide +kernel)
theorem dX7_append_27 : decode cX7_append 27 = .ok (.getfield 91, 3) := sdX7_append_27.1
theorem dX7_append_30 : decode cX7_append 30 = .ok (.iconst 1, 1) := sdX7_append_27.2.1
theorem dX7_append_31 : decode cX7_append 31 = .ok (.iadd, 1) := sdX7_append_27.2.2.1
theorem dX7_append_32 : decode cX7_append 32 = .ok (.putfield 91, 3) := sdX7_append_27.2.2.2.1
theorem dX7_append_35 : decode cX7_append 35 = .ok (.iinc 2 (-8), 3) := sdX7_append_27.2.2.2.2.1
theorem dX7_append_38 : decode cX7_append 38 = .ok (.goto (-35), 3) := sdX7_append_27.2.2.2.2.2.1
theorem dX7_append_41 : decode cX7_append 41 = .ok (.return_, 1) := sdX7_append_27.2.2.2.2.2.2.1
theorem sdX7_load_0 : dz_Seg cX7_load [(0, .iload_n 1, 1), (1, .ifCond .lt 11, 3), (4, .iload_n 1, 1), (5, .aload_n 0, 1), (6, .getfield 91, 3), (9, .if_icmp .le 9, 3), (12, .aload_n 0, 1), (13, .iconst 1, 1)] := dz_sg _ 0 (by decide +kernel)
theorem dX7_load_0 : decode cX7_load 0 = .ok (.iload_n 1, 1) := sdX7_load_0.1
theorem dX7_load_1 : decode cX7_load 1 = .ok (.ifCond .lt 11, 3) := sdX7_load_0.2.1
theorem dX7_load_4 : decode cX7_load 4 = .ok (.iload_n 1, 1) := sdX7_load_0.2.2.1
theorem dX7_load_5 : decode cX7_load 5 = .ok (.aload_n 0, 1) := sdX7_load_0.2.2.2.1
theorem dX7_load_6 : decode cX7_load 6 = .ok (.getfield 91, 3) := sdX7_load_0.2.2.2.2.1
theorem dX7_load_9 : decode cX7_load 9 = .ok (.if_icmp .le 9, 3) := sdX7_load_0.2.2.2.2.2.1
theorem dX7_load_12 : decode cX7_load 12 = .ok (.aload_n 0, 1) := sdX7_load_0.2.2.2.2.2.2.1
theorem dX7_load_13 : decode cX7_load 13 = .ok (.iconst 1, 1) := sdX7_load_0.2.2.2.2.2.2.2.1
theorem sdX7_load_14 : dz_Seg cX7_load [(14, .invokevirtual 102, 3), (17, .ireturn, 1), (18, .aload_n 0, 1), (19, .getfield 19, 3), (22, .aload_n 0, 1), (23, .getfield 9, 3), (26, .iload_n 1, 1), (27, .invokevirtual 106, 3)] := dz_sg _ 14 (by decide +kernel)
theorem dX7_load_14 : decode cX7_load 14 = .ok (.invokevirtual 102, 3) := sdX7_load_14.1
theorem dX7_load_17 : decode cX7_load 17 = .ok (.ireturn, 1) := sdX7_load_14.2.1
theorem dX7_load_18 : decode cX7_load 18 = .ok (.aload_n 0, 1) := sdX7_load_14.2.2.1
theorem dX7_load_19 : decode cX7_load 19 = .ok (.getfield 19, 3) := sdX7_load_14.2.2.2.1
theorem dX7_load_22 : decode cX7_load 22 = .ok (.aload_n 0, 1) := sdX7_load_14.2.2.2.2.1
theorem dX7_load_23 : decode cX7_load 23 = .ok (.getfield 9, 3) := sdX7_load_14.2.2.2.2.2.1
theorem dX7_load_26 : decode cX7_load 26 = .ok (.iload_n 1, 1) := sdX7_load_14.2.2.2.2.2.2.1
theorem dX7_load_27 : decode cX7_load 27 = .ok (.invokevirtual 106, 3) := sdX7_load_14.2.2.2.2.2.2.2.1
theorem sdX7_load_30 : dz_Seg cX7_load [(30, .istore_n 2, 1), (31, .aload_n 0, 1), (32, .iconst 0, 1), (33, .putfield 91, 3), (36, .iload_n 2, 1), (37, .ifCond .ne 10, 3), (40, .aload_n 0, 1), (41, .bipush 9, 2)] := dz_sg _ 30 (by decide +kernel)
theorem dX7_load_30 : decode cX7_load 30 = .ok (.istore_n 2, 1) := sdX7_load_30.1
theorem dX7_load_31 : decode cX7_load 31 = .ok (.aload_n 0, 1) := sdX7_load_30.2.1
theorem dX7_load_32 : decode cX7_load 32 = .ok (.iconst 0, 1) := sdX7_load_30.2.2.1
theorem dX7_load_33 : decode cX7_load 33 = .ok (.putfield 91, 3) := sdX7_load_30.2.2.2.1
theorem dX7_load_36 : decode cX7_load 36 = .ok (.iload_n 2, 1) := sdX7_load_30.2.2.2.2.1
theorem dX7_load_37 : decode cX7_load 37 = .ok (.ifCond .ne 10, 3) := sdX7_load_30.2.2.2.2.2.1
theorem dX7_load_40 : decode cX7_load 40 = .ok (.aload_n 0, 1) := sdX7_load_30.2.2.2.2.2.2.1
theorem dX7_load_41 : decode cX7_load 41 = .ok (.bipush 9, 2) := sdX7_load_30.2.2.2.2.2.2.2.1
theorem sdX7_load_43 : dz_Seg cX7_load [(43, .invokevirtual 102, 3), (46, .ireturn, 1), (47, .aload_n 0, 1), (48, .getfield 26, 3), (51, .aload_n 0, 1), (52, .getfield 19, 3), (55, .getfield 110, 3), (58, .invokevirtual 113, 3)] := dz_sg _ 43 (by decide +kernel)
theorem dX7_load_43 : decode cX7_load 43 = .ok (.invokevirtual 102, 3) := sdX7_load_43.1
theorem dX7_load_46 : decode cX7_load 46 = .ok (.ireturn, 1) := sdX7_load_43.2.1
theorem dX7_load_47 : decode cX7_load 47 = .ok (.aload_n 0, 1) := sdX7_load_43.2.2.1
theorem dX7_load_48 : decode cX7_load 48 = .ok (.getfield 26, 3) := sdX7_load_43.2.2.2.1
theorem dX7_load_51 : decode cX7_load 51 = .ok (.aload_n 0, 1) := sdX7_load_43.2.2.2.2.1
theorem dX7_load_52 : decode cX7_load 52 = .ok (.getfield 19, 3) := sdX7_load_43.2.2.2.2.2.1
theorem dX7_load_55 : decode cX7_load 55 = .ok (.getfield 110, 3) := sdX7_load_43.2.2.2.2.2.2.1
theorem dX7_load_58 : decode cX7_load 58 = .ok (.invokevirtual 113, 3) := sdX7_load_43.2.2.2.2.2.2.2.1
theorem sdX7_load_61 : dz_Seg cX7_load [(61, .aload_n 0, 1), (62, .getfield 33, 3), (65, .invokevirtual 116, 3), (68, .aload_n 0, 1), (69, .aload_n 0, 1), (70, .getfield 26, 3), (73, .getfield 119, 3), (76, .invokevirtual 122, 3)] := dz_sg _ 61 (by decide +kernel)
theorem dX7_load_61 : decode cX7_load 61 = .ok (.aload_n 0, 1) := sdX7_load_61.1
theorem dX7_load_62 : decode cX7_load 62 = .ok (.getfield 33, 3) := sdX7_load_61.2.1
theorem dX7_load_65 : decode cX7_load 65 = .ok (.invokevirtual 116, 3) := sdX7_load_61.2.2.1
theorem dX7_load_68 : decode cX7_load 68 = .ok (.aload_n 0, 1) := sdX7_load_61.2.2.2.1
theorem dX7_load_69 : decode cX7_load 69 = .ok (.aload_n 0, 1) := sdX7_load_61.2.2.2.2.1
theorem dX7_load_70 : decode cX7_load 70 = .ok (.getfield 26, 3) := sdX7_load_61.2.2.2.2.2.1
theorem dX7_load_73 : decode cX7_load 73 = .ok (.getfield 119, 3) := sdX7_load_61.2.2.2.2.2.2.1
theorem dX7_load_76 : decode cX7_load 76 = .ok (.invokevirtual 122, 3) := sdX7_load_61.2.2.2.2.2.2.2.1
theorem sdX7_load_79 : dz_Seg cX7_load [(79, .ireturn, 1)] := dz_sg _ 79 (by decide +kernel)
theorem dX7_load_79 : decode cX7_load 79 = .ok (.ireturn, 1) := sdX7_load_79.1
theorem sdX7_fault_0 : dz_Seg cX7_fault [(0, .iload_n 1, 1), (1, .ifCond .ne 11, 3), (4, .aload_n 0, 1), (5, .getfield 19, 3), (8, .getfield 125, 3), (11, .ireturn, 1), (12, .iload_n 1, 1), (13, .iconst 1, 1)] := dz_sg _ 0 (by decide +kernel)
theorem dX7_fault_0 : decode cX7_fault 0 = .ok (.iload_n 1, 1) := sdX7_fault_0.1
theorem dX7_fault_1 : decode cX7_fault 1 = .ok (.ifCond .ne 11, 3) := sdX7_fault_0.2.1
theorem dX7_fault_4 : decode cX7_fault 4 = .ok (.aload_n 0, 1) := sdX7_fault_0.2.2.1
theorem dX7_fault_5 : decode cX7_fault 5 = .ok (.getfield 19, 3) := sdX7_fault_0.2.2.2.1
theorem dX7_fault_8 : decode cX7_fault 8 = .ok (.getfield 125, 3) := sdX7_fault_0.2.2.2.2.1
theorem dX7_fault_11 : decode cX7_fault 11 = .ok (.ireturn, 1) := sdX7_fault_0.2.2.2.2.2.1
theorem dX7_fault_12 : decode cX7_fault 12 = .ok (.iload_n 1, 1) := sdX7_fault_0.2.2.2.2.2.2.1
theorem dX7_fault_13 : decode cX7_fault 13 = .ok (.iconst 1, 1) := sdX7_fault_0.2.2.2.2.2.2.2.1
theorem sdX7_fault_14 : dz_Seg cX7_fault [(14, .if_icmp .ne 13, 3), (17, .aload_n 0, 1), (18, .getfield 19, 3), (21, .getfield 128, 3), (24, .goto 4, 3), (27, .iconst (-1), 1), (28, .ireturn, 1)] := dz_sg _ 14 (by decide +kernel)
theorem dX7_fault_14 : decode cX7_fault 14 = .ok (.if_icmp .ne 13, 3) := sdX7_fault_14.1
theorem dX7_fault_17 : decode cX7_fault 17 = .ok (.aload_n 0, 1) := sdX7_fault_14.2.1
theorem dX7_fault_18 : decode cX7_fault 18 = .ok (.getfield 19, 3) := sdX7_fault_14.2.2.1
theorem dX7_fault_21 : decode cX7_fault 21 = .ok (.getfield 128, 3) := sdX7_fault_14.2.2.2.1
theorem dX7_fault_24 : decode cX7_fault 24 = .ok (.goto 4, 3) := sdX7_fault_14.2.2.2.2.1
theorem dX7_fault_27 : decode cX7_fault 27 = .ok (.iconst (-1), 1) := sdX7_fault_14.2.2.2.2.2.1
theorem dX7_fault_28 : decode cX7_fault 28 = .ok (.ireturn, 1) := sdX7_fault_14.2.2.2.2.2.2.1
theorem sdX7_many_0 : dz_Seg cX7_many [(0, .iload_n 1, 1)] := dz_sg _ 0 (by decide +kernel)
theorem dX7_many_0 : decode cX7_many 0 = .ok (.iload_n 1, 1) := sdX7_many_0.1
theorem dX7_many_1 : decode cX7_many 1 = .ok (.tableswitch 197 0 10 #[59, 71, 83, 95, 107, 119, 131, 143, 155, 167, 182], 59) := by decide +kernel
theorem sdX7_many_60 : dz_Seg cX7_many [(60, .aload_n 0, 1), (61, .aload_n 0, 1), (62, .getfield 26, 3), (65, .getfield 131, 3), (68, .invokevirtual 134, 3), (71, .ireturn, 1), (72, .aload_n 0, 1), (73, .aload_n 0, 1)] := dz_sg _ 60 (by decide +kernel)
theorem dX7_many_60 : decode cX7_many 60 = .ok (.aload_n 0, 1) := sdX7_many_60.1
theorem dX7_many_61 : decode cX7_many 61 = .ok (.aload_n 0, 1) := sdX7_many_60.2.1
theorem dX7_many_62 : decode cX7_many 62 = .ok (.getfield 26, 3) := sdX7_many_60.2.2.1
theorem dX7_many_65 : decode cX7_many 65 = .ok (.getfield 131, 3) := sdX7_many_60.2.2.2.1
theorem dX7_many_68 : decode cX7_many 68 = .ok (.invokevirtual 134, 3) := sdX7_many_60.2.2.2.2.1
theorem dX7_many_71 : decode cX7_many 71 = .ok (.ireturn, 1) := sdX7_many_60.2.2.2.2.2.1
theorem dX7_many_72 : decode cX7_many 72 = .ok (.aload_n 0, 1) := sdX7_many_60.2.2.2.2.2.2.1
theorem dX7_many_73 : decode cX7_many 73 = .ok (.aload_n 0, 1) := sdX7_many_60.2.2.2.2.2.2.2.1
theorem sdX7_many_74 : dz_Seg cX7_many [(74, .getfield 26, 3), (77, .getfield 119, 3), (80, .invokevirtual 134, 3), (83, .ireturn, 1), (84, .aload_n 0, 1), (85, .aload_n 0, 1), (86, .getfield 26, 3), (89, .getfield 137, 3)] := dz_sg _ 74 (by decide +kernel)
theorem dX7_many_74 : decode cX7_many 74 = .ok (.getfield 26, 3) := sdX7_many_74.1
theorem dX7_many_77 : decode cX7_many 77 = .ok (.getfield 119, 3) := sdX7_many_74.2.1
theorem dX7_many_80 : decode cX7_many 80 = .ok (.invokevirtual 134, 3) := sdX7_many_74.2.2.1
theorem dX7_many_83 : decode cX7_many 83 = .ok (.ireturn, 1) := sdX7_many_74.2.2.2.1
theorem dX7_many_84 : decode cX7_many 84 = .ok (.aload_n 0, 1) := sdX7_many_74.2.2.2.2.1
theorem dX7_many_85 : decode cX7_many 85 = .ok (.aload_n 0, 1) := sdX7_many_74.2.2.2.2.2.1
theorem dX7_many_86 : decode cX7_many 86 = .ok (.getfield 26, 3) := sdX7_many_74.2.2.2.2.2.2.1
theorem dX7_many_89 : decode cX7_many 89 = .ok (.getfield 137, 3) := sdX7_many_74.2.2.2.2.2.2.2.1
theorem sdX7_many_92 : dz_Seg cX7_many [(92, .invokevirtual 134, 3), (95, .ireturn, 1), (96, .aload_n 0, 1), (97, .aload_n 0, 1), (98, .getfield 40, 3), (101, .getfield 140, 3), (104, .invokevirtual 134, 3), (107, .ireturn, 1)] := dz_sg _ 92 (by decide +kernel)
theorem dX7_many_92 : decode cX7_many 92 = .ok (.invokevirtual 134, 3) := sdX7_many_92.1
theorem dX7_many_95 : decode cX7_many 95 = .ok (.ireturn, 1) := sdX7_many_92.2.1
theorem dX7_many_96 : decode cX7_many 96 = .ok (.aload_n 0, 1) := sdX7_many_92.2.2.1
theorem dX7_many_97 : decode cX7_many 97 = .ok (.aload_n 0, 1) := sdX7_many_92.2.2.2.1
theorem dX7_many_98 : decode cX7_many 98 = .ok (.getfield 40, 3) := sdX7_many_92.2.2.2.2.1
theorem dX7_many_101 : decode cX7_many 101 = .ok (.getfield 140, 3) := sdX7_many_92.2.2.2.2.2.1
theorem dX7_many_104 : decode cX7_many 104 = .ok (.invokevirtual 134, 3) := sdX7_many_92.2.2.2.2.2.2.1
theorem dX7_many_107 : decode cX7_many 107 = .ok (.ireturn, 1) := sdX7_many_92.2.2.2.2.2.2.2.1
theorem sdX7_many_108 : dz_Seg cX7_many [(108, .aload_n 0, 1), (109, .aload_n 0, 1), (110, .getfield 26, 3), (113, .getfield 143, 3), (116, .invokevirtual 134, 3), (119, .ireturn, 1), (120, .aload_n 0, 1), (121, .aload_n 0, 1)] := dz_sg _ 108 (by decide +kernel)
theorem dX7_many_108 : decode cX7_many 108 = .ok (.aload_n 0, 1) := sdX7_many_108.1
theorem dX7_many_109 : decode cX7_many 109 = .ok (.aload_n 0, 1) := sdX7_many_108.2.1
theorem dX7_many_110 : decode cX7_many 110 = .ok (.getfield 26, 3) := sdX7_many_108.2.2.1
theorem dX7_many_113 : decode cX7_many 113 = .ok (.getfield 143, 3) := sdX7_many_108.2.2.2.1
theorem dX7_many_116 : decode cX7_many 116 = .ok (.invokevirtual 134, 3) := sdX7_many_108.2.2.2.2.1
theorem dX7_many_119 : decode cX7_many 119 = .ok (.ireturn, 1) := sdX7_many_108.2.2.2.2.2.1
theorem dX7_many_120 : decode cX7_many 120 = .ok (.aload_n 0, 1) := sdX7_many_108.2.2.2.2.2.2.1
theorem dX7_many_121 : decode cX7_many 121 = .ok (.aload_n 0, 1) := sdX7_many_108.2.2.2.2.2.2.2.1
theorem sdX7_many_122 : dz_Seg cX7_many [(122, .getfield 26, 3), (125, .getfield 146, 3), (128, .invokevirtual 134, 3), (131, .ireturn, 1), (132, .aload_n 0, 1), (133, .aload_n 0, 1), (134, .getfield 26, 3), (137, .getfield 149, 3)] := dz_sg _ 122 (by decide +kernel)
theorem dX7_many_122 : decode cX7_many 122 = .ok (.getfield 26, 3) := sdX7_many_122.1
theorem dX7_many_125 : decode cX7_many 125 = .ok (.getfield 146, 3) := sdX7_many_122.2.1
theorem dX7_many_128 : decode cX7_many 128 = .ok (.invokevirtual 134, 3) := sdX7_many_122.2.2.1
theorem dX7_many_131 : decode cX7_many 131 = .ok (.ireturn, 1) := sdX7_many_122.2.2.2.1
theorem dX7_many_132 : decode cX7_many 132 = .ok (.aload_n 0, 1) := sdX7_many_122.2.2.2.2.1
theorem dX7_many_133 : decode cX7_many 133 = .ok (.aload_n 0, 1) := sdX7_many_122.2.2.2.2.2.1
theorem dX7_many_134 : decode cX7_many 134 = .ok (.getfield 26, 3) := sdX7_many_122.2.2.2.2.2.2.1
theorem dX7_many_137 : decode cX7_many 137 = .ok (.getfield 149, 3) := sdX7_many_122.2.2.2.2.2.2.2.1
theorem sdX7_many_140 : dz_Seg cX7_many [(140, .invokevirtual 134, 3), (143, .ireturn, 1), (144, .aload_n 0, 1), (145, .aload_n 0, 1), (146, .getfield 26, 3), (149, .getfield 152, 3), (152, .invokevirtual 134, 3), (155, .ireturn, 1)] := dz_sg _ 140 (by decide +kernel)
theorem dX7_many_140 : decode cX7_many 140 = .ok (.invokevirtual 134, 3) := sdX7_many_140.1
theorem dX7_many_143 : decode cX7_many 143 = .ok (.ireturn, 1) := sdX7_many_140.2.1
theorem dX7_many_144 : decode cX7_many 144 = .ok (.aload_n 0, 1) := sdX7_many_140.2.2.1
theorem dX7_many_145 : decode cX7_many 145 = .ok (.aload_n 0, 1) := sdX7_many_140.2.2.2.1
theorem dX7_many_146 : decode cX7_many 146 = .ok (.getfield 26, 3) := sdX7_many_140.2.2.2.2.1
theorem dX7_many_149 : decode cX7_many 149 = .ok (.getfield 152, 3) := sdX7_many_140.2.2.2.2.2.1
theorem dX7_many_152 : decode cX7_many 152 = .ok (.invokevirtual 134, 3) := sdX7_many_140.2.2.2.2.2.2.1
theorem dX7_many_155 : decode cX7_many 155 = .ok (.ireturn, 1) := sdX7_many_140.2.2.2.2.2.2.2.1
theorem sdX7_many_156 : dz_Seg cX7_many [(156, .aload_n 0, 1), (157, .aload_n 0, 1), (158, .getfield 33, 3), (161, .getfield 155, 3), (164, .invokevirtual 134, 3), (167, .ireturn, 1), (168, .aload_n 0, 1), (169, .aload_n 0, 1)] := dz_sg _ 156 (by decide +kernel)
theorem dX7_many_156 : decode cX7_many 156 = .ok (.aload_n 0, 1) := sdX7_many_156.1
theorem dX7_many_157 : decode cX7_many 157 = .ok (.aload_n 0, 1) := sdX7_many_156.2.1
theorem dX7_many_158 : decode cX7_many 158 = .ok (.getfield 33, 3) := sdX7_many_156.2.2.1
theorem dX7_many_161 : decode cX7_many 161 = .ok (.getfield 155, 3) := sdX7_many_156.2.2.2.1
theorem dX7_many_164 : decode cX7_many 164 = .ok (.invokevirtual 134, 3) := sdX7_many_156.2.2.2.2.1
theorem dX7_many_167 : decode cX7_many 167 = .ok (.ireturn, 1) := sdX7_many_156.2.2.2.2.2.1
theorem dX7_many_168 : decode cX7_many 168 = .ok (.aload_n 0, 1) := sdX7_many_156.2.2.2.2.2.2.1
theorem dX7_many_169 : decode cX7_many 169 = .ok (.aload_n 0, 1) := sdX7_many_156.2.2.2.2.2.2.2.1
theorem sdX7_many_170 : dz_Seg cX7_many [(170, .getfield 26, 3), (173, .getfield 158, 3), (176, .invokestatic 161, 3), (179, .invokevirtual 134, 3), (182, .ireturn, 1), (183, .aload_n 0, 1), (184, .aload_n 0, 1), (185, .getfield 26, 3)] := dz_sg _ 170 (by decide +kernel)
theorem dX7_many_170 : decode cX7_many 170 = .ok (.getfield 26, 3) := sdX7_many_170.1
theorem dX7_many_173 : decode cX7_many 173 = .ok (.getfield 158, 3) := sdX7_many_170.2.1
theorem dX7_many_176 : decode cX7_many 176 = .ok (.invokestatic 161, 3) := sdX7_many_170.2.2.1
theorem dX7_many_179 : decode cX7_many 179 = .ok (.invokevirtual 134, 3) := sdX7_many_170.2.2.2.1
theorem dX7_many_182 : decode cX7_many 182 = .ok (.ireturn, 1) := sdX7_many_170.2.2.2.2.1
theorem dX7_many_183 : decode cX7_many 183 = .ok (.aload_n 0, 1) := sdX7_many_170.2.2.2.2.2.1
theorem dX7_many_184 : decode cX7_many 184 = .ok (.aload_n 0, 1) := sdX7_many_170.2.2.2.2.2.2.1
theorem dX7_many_185 : decode cX7_many 185 = .ok (.getfield 26, 3) := sdX7_many_170.2.2.2.2.2.2.2.1
theorem sdX7_many_188 : dz_Seg cX7_many [(188, .getfield 165, 3), (191, .invokestatic 161, 3), (194, .invokevirtual 134, 3), (197, .ireturn, 1), (198, .aload_n 0, 1), (199, .iconst 1, 1), (200, .invokevirtual 102, 3), (203, .ireturn, 1)] := dz_sg _ 188 (by decide +kernel)
theorem dX7_many_188 : decode cX7_many 188 = .ok (.getfield 165, 3) := sdX7_many_188.1
theorem dX7_many_191 : decode cX7_many 191 = .ok (.invokestatic 161, 3) := sdX7_many_188.2.1
theorem dX7_many_194 : decode cX7_many 194 = .ok (.invokevirtual 134, 3) := sdX7_many_188.2.2.1
theorem dX7_many_197 : decode cX7_many 197 = .ok (.ireturn, 1) := sdX7_many_188.2.2.2.1
theorem dX7_many_198 : decode cX7_many 198 = .ok (.aload_n 0, 1) := sdX7_many_188.2.2.2.2.1
theorem dX7_many_199 : decode cX7_many 199 = .ok (.iconst 1, 1) := sdX7_many_188.2.2.2.2.2.1
theorem dX7_many_200 : decode cX7_many 200 = .ok (.invokevirtual 102, 3) := sdX7_many_188.2.2.2.2.2.2.1
theorem dX7_many_203 : decode cX7_many 203 = .ok (.ireturn, 1) := sdX7_many_188.2.2.2.2.2.2.2.1
theorem sdX7_hunter_0 : dz_Seg cX7_hunter [(0, .iload_n 2, 1), (1, .ifCond .lt 8, 3), (4, .iload_n 2, 1), (5, .iconst 4, 1), (6, .if_icmp .le 9, 3), (9, .aload_n 0, 1), (10, .iconst 1, 1), (11, .invokevirtual 102, 3)] := dz_sg _ 0 (by decide +kernel)
theorem dX7_hunter_0 : decode cX7_hunter 0 = .ok (.iload_n 2, 1) := sdX7_hunter_0.1
theorem dX7_hunter_1 : decode cX7_hunter 1 = .ok (.ifCond .lt 8, 3) := sdX7_hunter_0.2.1
theorem dX7_hunter_4 : decode cX7_hunter 4 = .ok (.iload_n 2, 1) := sdX7_hunter_0.2.2.1
theorem dX7_hunter_5 : decode cX7_hunter 5 = .ok (.iconst 4, 1) := sdX7_hunter_0.2.2.2.1
theorem dX7_hunter_6 : decode cX7_hunter 6 = .ok (.if_icmp .le 9, 3) := sdX7_hunter_0.2.2.2.2.1
theorem dX7_hunter_9 : decode cX7_hunter 9 = .ok (.aload_n 0, 1) := sdX7_hunter_0.2.2.2.2.2.1
theorem dX7_hunter_10 : decode cX7_hunter 10 = .ok (.iconst 1, 1) := sdX7_hunter_0.2.2.2.2.2.2.1
theorem dX7_hunter_11 : decode cX7_hunter 11 = .ok (.invokevirtual 102, 3) := sdX7_hunter_0.2.2.2.2.2.2.2.1
theorem sdX7_hunter_14 : dz_Seg cX7_hunter [(14, .ireturn, 1), (15, .aload_n 0, 1), (16, .iload_n 1, 1), (17, .invokevirtual 168, 3), (20, .ifCond .ne 9, 3), (23, .aload_n 0, 1), (24, .iconst 2, 1), (25, .invokevirtual 102, 3)] := dz_sg _ 14 (by decide +kernel)
theorem dX7_hunter_14 : decode cX7_hunter 14 = .ok (.ireturn, 1) := sdX7_hunter_14.1
theorem dX7_hunter_15 : decode cX7_hunter 15 = .ok (.aload_n 0, 1) := sdX7_hunter_14.2.1
theorem dX7_hunter_16 : decode cX7_hunter 16 = .ok (.iload_n 1, 1) := sdX7_hunter_14.2.2.1
theorem dX7_hunter_17 : decode cX7_hunter 17 = .ok (.invokevirtual 168, 3) := sdX7_hunter_14.2.2.2.1
theorem dX7_hunter_20 : decode cX7_hunter 20 = .ok (.ifCond .ne 9, 3) := sdX7_hunter_14.2.2.2.2.1
theorem dX7_hunter_23 : decode cX7_hunter 23 = .ok (.aload_n 0, 1) := sdX7_hunter_14.2.2.2.2.2.1
theorem dX7_hunter_24 : decode cX7_hunter 24 = .ok (.iconst 2, 1) := sdX7_hunter_14.2.2.2.2.2.2.1
theorem dX7_hunter_25 : decode cX7_hunter 25 = .ok (.invokevirtual 102, 3) := sdX7_hunter_14.2.2.2.2.2.2.2.1
theorem sdX7_hunter_28 : dz_Seg cX7_hunter [(28, .ireturn, 1), (29, .iload_n 2, 1)] := dz_sg _ 28 (by decide +kernel)
theorem dX7_hunter_28 : decode cX7_hunter 28 = .ok (.ireturn, 1) := sdX7_hunter_28.1
theorem dX7_hunter_29 : decode cX7_hunter 29 = .ok (.iload_n 2, 1) := sdX7_hunter_28.2.1
theorem dX7_hunter_30 : decode cX7_hunter 30 = .ok (.tableswitch 94 0 3 #[30, 46, 62, 78], 30) := by decide +kernel
theorem sdX7_hunter_60 : dz_Seg cX7_hunter [(60, .aload_n 0, 1), (61, .aload_n 0, 1), (62, .getfield 26, 3), (65, .getfield 172, 3), (68, .iload_n 1, 1), (69, .invokestatic 175, 3), (72, .invokevirtual 134, 3), (75, .ireturn, 1)] := dz_sg _ 60 (by decide +kernel)
theorem dX7_hunter_60 : decode cX7_hunter 60 = .ok (.aload_n 0, 1) := sdX7_hunter_60.1
theorem dX7_hunter_61 : decode cX7_hunter 61 = .ok (.aload_n 0, 1) := sdX7_hunter_60.2.1
theorem dX7_hunter_62 : decode cX7_hunter 62 = .ok (.getfield 26, 3) := sdX7_hunter_60.2.2.1
theorem dX7_hunter_65 : decode cX7_hunter 65 = .ok (.getfield 172, 3) := sdX7_hunter_60.2.2.2.1
theorem dX7_hunter_68 : decode cX7_hunter 68 = .ok (.iload_n 1, 1) := sdX7_hunter_60.2.2.2.2.1
theorem dX7_hunter_69 : decode cX7_hunter 69 = .ok (.invokestatic 175, 3) := sdX7_hunter_60.2.2.2.2.2.1
theorem dX7_hunter_72 : decode cX7_hunter 72 = .ok (.invokevirtual 134, 3) := sdX7_hunter_60.2.2.2.2.2.2.1
theorem dX7_hunter_75 : decode cX7_hunter 75 = .ok (.ireturn, 1) := sdX7_hunter_60.2.2.2.2.2.2.2.1
theorem sdX7_hunter_76 : dz_Seg cX7_hunter [(76, .aload_n 0, 1), (77, .aload_n 0, 1), (78, .getfield 26, 3), (81, .getfield 165, 3), (84, .iload_n 1, 1), (85, .invokestatic 175, 3), (88, .invokevirtual 134, 3), (91, .ireturn, 1)] := dz_sg _ 76 (by decide +kernel)
theorem dX7_hunter_76 : decode cX7_hunter 76 = .ok (.aload_n 0, 1) := sdX7_hunter_76.1
theorem dX7_hunter_77 : decode cX7_hunter 77 = .ok (.aload_n 0, 1) := sdX7_hunter_76.2.1
theorem dX7_hunter_78 : decode cX7_hunter 78 = .ok (.getfield 26, 3) := sdX7_hunter_76.2.2.1
theorem dX7_hunter_81 : decode cX7_hunter 81 = .ok (.getfield 165, 3) := sdX7_hunter_76.2.2.2.1
theorem dX7_hunter_84 : decode cX7_hunter 84 = .ok (.iload_n 1, 1) := sdX7_hunter_76.2.2.2.2.1
theorem dX7_hunter_85 : decode cX7_hunter 85 = .ok (.invokestatic 175, 3) := sdX7_hunter_76.2.2.2.2.2.1
theorem dX7_hunter_88 : decode cX7_hunter 88 = .ok (.invokevirtual 134, 3) := sdX7_hunter_76.2.2.2.2.2.2.1
theorem dX7_hunter_91 : decode cX7_hunter 91 = .ok (.ireturn, 1) := sdX7_hunter_76.2.2.2.2.2.2.2.1
theorem sdX7_hunter_92 : dz_Seg cX7_hunter [(92, .aload_n 0, 1), (93, .aload_n 0, 1), (94, .getfield 26, 3), (97, .getfield 179, 3), (100, .iload_n 1, 1), (101, .invokestatic 175, 3), (104, .invokevirtual 134, 3), (107, .ireturn, 1)] := dz_sg _ 92 (by decide +kernel)
theorem dX7_hunter_92 : decode cX7_hunter 92 = .ok (.aload_n 0, 1) := sdX7_hunter_92.1
theorem dX7_hunter_93 : decode cX7_hunter 93 = .ok (.aload_n 0, 1) := sdX7_hunter_92.2.1
theorem dX7_hunter_94 : decode cX7_hunter 94 = .ok (.getfield 26, 3) := sdX7_hunter_92.2.2.1
theorem dX7_hunter_97 : decode cX7_hunter 97 = .ok (.getfield 179, 3) := sdX7_hunter_92.2.2.2.1
theorem dX7_hunter_100 : decode cX7_hunter 100 = .ok (.iload_n 1, 1) := sdX7_hunter_92.2.2.2.2.1
theorem dX7_hunter_101 : decode cX7_hunter 101 = .ok (.invokestatic 175, 3) := sdX7_hunter_92.2.2.2.2.2.1
theorem dX7_hunter_104 : decode cX7_hunter 104 = .ok (.invokevirtual 134, 3) := sdX7_hunter_92.2.2.2.2.2.2.1
theorem dX7_hunter_107 : decode cX7_hunter 107 = .ok (.ireturn, 1) := sdX7_hunter_92.2.2.2.2.2.2.2.1
theorem sdX7_hunter_108 : dz_Seg cX7_hunter [(108, .aload_n 0, 1), (109, .aload_n 0, 1), (110, .getfield 40, 3), (113, .getfield 182, 3), (116, .iload_n 1, 1), (117, .invokestatic 175, 3), (120, .invokevirtual 134, 3), (123, .ireturn, 1)] := dz_sg _ 108 (by decide +kernel)
theorem dX7_hunter_108 : decode cX7_hunter 108 = .ok (.aload_n 0, 1) := sdX7_hunter_108.1
theorem dX7_hunter_109 : decode cX7_hunter 109 = .ok (.aload_n 0, 1) := sdX7_hunter_108.2.1
theorem dX7_hunter_110 : decode cX7_hunter 110 = .ok (.getfield 40, 3) := sdX7_hunter_108.2.2.1
theorem dX7_hunter_113 : decode cX7_hunter 113 = .ok (.getfield 182, 3) := sdX7_hunter_108.2.2.2.1
theorem dX7_hunter_116 : decode cX7_hunter 116 = .ok (.iload_n 1, 1) := sdX7_hunter_108.2.2.2.2.1
theorem dX7_hunter_117 : decode cX7_hunter 117 = .ok (.invokestatic 175, 3) := sdX7_hunter_108.2.2.2.2.2.1
theorem dX7_hunter_120 : decode cX7_hunter 120 = .ok (.invokevirtual 134, 3) := sdX7_hunter_108.2.2.2.2.2.2.1
theorem dX7_hunter_123 : decode cX7_hunter 123 = .ok (.ireturn, 1) := sdX7_hunter_108.2.2.2.2.2.2.2.1
theorem sdX7_hunter_124 : dz_Seg cX7_hunter [(124, .aload_n 0, 1), (125, .aload_n 0, 1), (126, .getfield 26, 3), (129, .getfield 185, 3), (132, .iload_n 1, 1), (133, .invokestatic 175, 3), (136, .invokevirtual 134, 3), (139, .ireturn, 1)] := dz_sg _ 124 (by decide +kernel)
theorem dX7_hunter_124 : decode cX7_hunter 124 = .ok (.aload_n 0, 1) := sdX7_hunter_124.1
theorem dX7_hunter_125 : decode cX7_hunter 125 = .ok (.aload_n 0, 1) := sdX7_hunter_124.2.1
theorem dX7_hunter_126 : decode cX7_hunter 126 = .ok (.getfield 26, 3) := sdX7_hunter_124.2.2.1
theorem dX7_hunter_129 : decode cX7_hunter 129 = .ok (.getfield 185, 3) := sdX7_hunter_124.2.2.2.1
theorem dX7_hunter_132 : decode cX7_hunter 132 = .ok (.iload_n 1, 1) := sdX7_hunter_124.2.2.2.2.1
theorem dX7_hunter_133 : decode cX7_hunter 133 = .ok (.invokestatic 175, 3) := sdX7_hunter_124.2.2.2.2.2.1
theorem dX7_hunter_136 : decode cX7_hunter 136 = .ok (.invokevirtual 134, 3) := sdX7_hunter_124.2.2.2.2.2.2.1
theorem dX7_hunter_139 : decode cX7_hunter 139 = .ok (.ireturn, 1) := sdX7_hunter_124.2.2.2.2.2.2.2.1
theorem sdX7_unit_0 : dz_Seg cX7_unit [(0, .iload_n 2, 1), (1, .ifCond .lt 8, 3), (4, .iload_n 2, 1), (5, .iconst 5, 1), (6, .if_icmp .le 9, 3), (9, .aload_n 0, 1), (10, .iconst 1, 1), (11, .invokevirtual 102, 3)] := dz_sg _ 0 (by decide +kernel)
theorem dX7_unit_0 : decode cX7_unit 0 = .ok (.iload_n 2, 1) := sdX7_unit_0.1
theorem dX7_unit_1 : decode cX7_unit 1 = .ok (.ifCond .lt 8, 3) := sdX7_unit_0.2.1
theorem dX7_unit_4 : decode cX7_unit 4 = .ok (.iload_n 2, 1) := sdX7_unit_0.2.2.1
theorem dX7_unit_5 : decode cX7_unit 5 = .ok (.iconst 5, 1) := sdX7_unit_0.2.2.2.1
theorem dX7_unit_6 : decode cX7_unit 6 = .ok (.if_icmp .le 9, 3) := sdX7_unit_0.2.2.2.2.1
theorem dX7_unit_9 : decode cX7_unit 9 = .ok (.aload_n 0, 1) := sdX7_unit_0.2.2.2.2.2.1
theorem dX7_unit_10 : decode cX7_unit 10 = .ok (.iconst 1, 1) := sdX7_unit_0.2.2.2.2.2.2.1
theorem dX7_unit_11 : decode cX7_unit 11 = .ok (.invokevirtual 102, 3) := sdX7_unit_0.2.2.2.2.2.2.2.1
theorem sdX7_unit_14 : dz_Seg cX7_unit [(14, .ireturn, 1), (15, .aload_n 0, 1), (16, .iload_n 1, 1), (17, .invokevirtual 188, 3), (20, .ifCond .ne 9, 3), (23, .aload_n 0, 1), (24, .iconst 2, 1), (25, .invokevirtual 102, 3)] := dz_sg _ 14 (by decide +kernel)
theorem dX7_unit_14 : decode cX7_unit 14 = .ok (.ireturn, 1) := sdX7_unit_14.1
theorem dX7_unit_15 : decode cX7_unit 15 = .ok (.aload_n 0, 1) := sdX7_unit_14.2.1
theorem dX7_unit_16 : decode cX7_unit 16 = .ok (.iload_n 1, 1) := sdX7_unit_14.2.2.1
theorem dX7_unit_17 : decode cX7_unit 17 = .ok (.invokevirtual 188, 3) := sdX7_unit_14.2.2.2.1
theorem dX7_unit_20 : decode cX7_unit 20 = .ok (.ifCond .ne 9, 3) := sdX7_unit_14.2.2.2.2.1
theorem dX7_unit_23 : decode cX7_unit 23 = .ok (.aload_n 0, 1) := sdX7_unit_14.2.2.2.2.2.1
theorem dX7_unit_24 : decode cX7_unit 24 = .ok (.iconst 2, 1) := sdX7_unit_14.2.2.2.2.2.2.1
theorem dX7_unit_25 : decode cX7_unit 25 = .ok (.invokevirtual 102, 3) := sdX7_unit_14.2.2.2.2.2.2.2.1
theorem sdX7_unit_28 : dz_Seg cX7_unit [(28, .ireturn, 1), (29, .iload_n 2, 1)] := dz_sg _ 28 (by decide +kernel)
theorem dX7_unit_28 : decode cX7_unit 28 = .ok (.ireturn, 1) := sdX7_unit_28.1
theorem dX7_unit_29 : decode cX7_unit 29 = .ok (.iload_n 2, 1) := sdX7_unit_28.2.1
theorem dX7_unit_30 : decode cX7_unit 30 = .ok (.tableswitch 108 0 4 #[34, 50, 66, 82, 95], 34) := by decide +kernel
theorem sdX7_unit_64 : dz_Seg cX7_unit [(64, .aload_n 0, 1), (65, .aload_n 0, 1), (66, .getfield 26, 3), (69, .getfield 158, 3), (72, .iload_n 1, 1), (73, .invokestatic 175, 3), (76, .invokevirtual 134, 3), (79, .ireturn, 1)] := dz_sg _ 64 (by decide +kernel)
theorem dX7_unit_64 : decode cX7_unit 64 = .ok (.aload_n 0, 1) := sdX7_unit_64.1
theorem dX7_unit_65 : decode cX7_unit 65 = .ok (.aload_n 0, 1) := sdX7_unit_64.2.1
theorem dX7_unit_66 : decode cX7_unit 66 = .ok (.getfield 26, 3) := sdX7_unit_64.2.2.1
theorem dX7_unit_69 : decode cX7_unit 69 = .ok (.getfield 158, 3) := sdX7_unit_64.2.2.2.1
theorem dX7_unit_72 : decode cX7_unit 72 = .ok (.iload_n 1, 1) := sdX7_unit_64.2.2.2.2.1
theorem dX7_unit_73 : decode cX7_unit 73 = .ok (.invokestatic 175, 3) := sdX7_unit_64.2.2.2.2.2.1
theorem dX7_unit_76 : decode cX7_unit 76 = .ok (.invokevirtual 134, 3) := sdX7_unit_64.2.2.2.2.2.2.1
theorem dX7_unit_79 : decode cX7_unit 79 = .ok (.ireturn, 1) := sdX7_unit_64.2.2.2.2.2.2.2.1
theorem sdX7_unit_80 : dz_Seg cX7_unit [(80, .aload_n 0, 1), (81, .aload_n 0, 1), (82, .getfield 40, 3), (85, .getfield 191, 3), (88, .iload_n 1, 1), (89, .invokestatic 175, 3), (92, .invokevirtual 134, 3), (95, .ireturn, 1)] := dz_sg _ 80 (by decide +kernel)
theorem dX7_unit_80 : decode cX7_unit 80 = .ok (.aload_n 0, 1) := sdX7_unit_80.1
theorem dX7_unit_81 : decode cX7_unit 81 = .ok (.aload_n 0, 1) := sdX7_unit_80.2.1
theorem dX7_unit_82 : decode cX7_unit 82 = .ok (.getfield 40, 3) := sdX7_unit_80.2.2.1
theorem dX7_unit_85 : decode cX7_unit 85 = .ok (.getfield 191, 3) := sdX7_unit_80.2.2.2.1
theorem dX7_unit_88 : decode cX7_unit 88 = .ok (.iload_n 1, 1) := sdX7_unit_80.2.2.2.2.1
theorem dX7_unit_89 : decode cX7_unit 89 = .ok (.invokestatic 175, 3) := sdX7_unit_80.2.2.2.2.2.1
theorem dX7_unit_92 : decode cX7_unit 92 = .ok (.invokevirtual 134, 3) := sdX7_unit_80.2.2.2.2.2.2.1
theorem dX7_unit_95 : decode cX7_unit 95 = .ok (.ireturn, 1) := sdX7_unit_80.2.2.2.2.2.2.2.1
theorem sdX7_unit_96 : dz_Seg cX7_unit [(96, .aload_n 0, 1), (97, .aload_n 0, 1), (98, .getfield 40, 3), (101, .getfield 194, 3), (104, .iload_n 1, 1), (105, .invokestatic 175, 3), (108, .invokevirtual 134, 3), (111, .ireturn, 1)] := dz_sg _ 96 (by decide +kernel)
theorem dX7_unit_96 : decode cX7_unit 96 = .ok (.aload_n 0, 1) := sdX7_unit_96.1
theorem dX7_unit_97 : decode cX7_unit 97 = .ok (.aload_n 0, 1) := sdX7_unit_96.2.1
theorem dX7_unit_98 : decode cX7_unit 98 = .ok (.getfield 40, 3) := sdX7_unit_96.2.2.1
theorem dX7_unit_101 : decode cX7_unit 101 = .ok (.getfield 194, 3) := sdX7_unit_96.2.2.2.1
theorem dX7_unit_104 : decode cX7_unit 104 = .ok (.iload_n 1, 1) := sdX7_unit_96.2.2.2.2.1
theorem dX7_unit_105 : decode cX7_unit 105 = .ok (.invokestatic 175, 3) := sdX7_unit_96.2.2.2.2.2.1
theorem dX7_unit_108 : decode cX7_unit 108 = .ok (.invokevirtual 134, 3) := sdX7_unit_96.2.2.2.2.2.2.1
theorem dX7_unit_111 : decode cX7_unit 111 = .ok (.ireturn, 1) := sdX7_unit_96.2.2.2.2.2.2.2.1
theorem sdX7_unit_112 : dz_Seg cX7_unit [(112, .aload_n 0, 1), (113, .aload_n 0, 1), (114, .getfield 40, 3), (117, .iload_n 1, 1), (118, .invokevirtual 197, 3), (121, .invokevirtual 134, 3), (124, .ireturn, 1), (125, .aload_n 0, 1)] := dz_sg _ 112 (by decide +kernel)
theorem dX7_unit_112 : decode cX7_unit 112 = .ok (.aload_n 0, 1) := sdX7_unit_112.1
theorem dX7_unit_113 : decode cX7_unit 113 = .ok (.aload_n 0, 1) := sdX7_unit_112.2.1
theorem dX7_unit_114 : decode cX7_unit 114 = .ok (.getfield 40, 3) := sdX7_unit_112.2.2.1
theorem dX7_unit_117 : decode cX7_unit 117 = .ok (.iload_n 1, 1) := sdX7_unit_112.2.2.2.1
theorem dX7_unit_118 : decode cX7_unit 118 = .ok (.invokevirtual 197, 3) := sdX7_unit_112.2.2.2.2.1
theorem dX7_unit_121 : decode cX7_unit 121 = .ok (.invokevirtual 134, 3) := sdX7_unit_112.2.2.2.2.2.1
theorem dX7_unit_124 : decode cX7_unit 124 = .ok (.ireturn, 1) := sdX7_unit_112.2.2.2.2.2.2.1
theorem dX7_unit_125 : decode cX7_unit 125 = .ok (.aload_n 0, 1) := sdX7_unit_112.2.2.2.2.2.2.2.1
theorem sdX7_unit_126 : dz_Seg cX7_unit [(126, .aload_n 0, 1), (127, .getfield 40, 3), (130, .iload_n 1, 1), (131, .invokevirtual 200, 3), (134, .invokevirtual 134, 3), (137, .ireturn, 1), (138, .aload_n 0, 1), (139, .aload_n 0, 1)] := dz_sg _ 126 (by decide +kernel)
theorem dX7_unit_126 : decode cX7_unit 126 = .ok (.aload_n 0, 1) := sdX7_unit_126.1
theorem dX7_unit_127 : decode cX7_unit 127 = .ok (.getfield 40, 3) := sdX7_unit_126.2.1
theorem dX7_unit_130 : decode cX7_unit 130 = .ok (.iload_n 1, 1) := sdX7_unit_126.2.2.1
theorem dX7_unit_131 : decode cX7_unit 131 = .ok (.invokevirtual 200, 3) := sdX7_unit_126.2.2.2.1
theorem dX7_unit_134 : decode cX7_unit 134 = .ok (.invokevirtual 134, 3) := sdX7_unit_126.2.2.2.2.1
theorem dX7_unit_137 : decode cX7_unit 137 = .ok (.ireturn, 1) := sdX7_unit_126.2.2.2.2.2.1
theorem dX7_unit_138 : decode cX7_unit 138 = .ok (.aload_n 0, 1) := sdX7_unit_126.2.2.2.2.2.2.1
theorem dX7_unit_139 : decode cX7_unit 139 = .ok (.aload_n 0, 1) := sdX7_unit_126.2.2.2.2.2.2.2.1
theorem sdX7_unit_140 : dz_Seg cX7_unit [(140, .getfield 40, 3), (143, .iload_n 1, 1), (144, .invokevirtual 203, 3), (147, .invokevirtual 134, 3), (150, .ireturn, 1)] := dz_sg _ 140 (by decide +kernel)
theorem dX7_unit_140 : decode cX7_unit 140 = .ok (.getfield 40, 3) := sdX7_unit_140.1
theorem dX7_unit_143 : decode cX7_unit 143 = .ok (.iload_n 1, 1) := sdX7_unit_140.2.1
theorem dX7_unit_144 : decode cX7_unit 144 = .ok (.invokevirtual 203, 3) := sdX7_unit_140.2.2.1
theorem dX7_unit_147 : decode cX7_unit 147 = .ok (.invokevirtual 134, 3) := sdX7_unit_140.2.2.2.1
theorem dX7_unit_150 : decode cX7_unit 150 = .ok (.ireturn, 1) := sdX7_unit_140.2.2.2.2.1
theorem sdX7_applicant_0 : dz_Seg cX7_applicant [(0, .iload_n 2, 1), (1, .ifCond .lt 9, 3), (4, .iload_n 2, 1), (5, .bipush 6, 2), (7, .if_icmp .le 9, 3), (10, .aload_n 0, 1), (11, .iconst 1, 1), (12, .invokevirtual 102, 3)] := dz_sg _ 0 (by decide +kernel)
theorem dX7_applicant_0 : decode cX7_applicant 0 = .ok (.iload_n 2, 1) := sdX7_applicant_0.1
theorem dX7_applicant_1 : decode cX7_applicant 1 = .ok (.ifCond .lt 9, 3) := sdX7_applicant_0.2.1
theorem dX7_applicant_4 : decode cX7_applicant 4 = .ok (.iload_n 2, 1) := sdX7_applicant_0.2.2.1
theorem dX7_applicant_5 : decode cX7_applicant 5 = .ok (.bipush 6, 2) := sdX7_applicant_0.2.2.2.1
theorem dX7_applicant_7 : decode cX7_applicant 7 = .ok (.if_icmp .le 9, 3) := sdX7_applicant_0.2.2.2.2.1
theorem dX7_applicant_10 : decode cX7_applicant 10 = .ok (.aload_n 0, 1) := sdX7_applicant_0.2.2.2.2.2.1
theorem dX7_applicant_11 : decode cX7_applicant 11 = .ok (.iconst 1, 1) := sdX7_applicant_0.2.2.2.2.2.2.1
theorem dX7_applicant_12 : decode cX7_applicant 12 = .ok (.invokevirtual 102, 3) := sdX7_applicant_0.2.2.2.2.2.2.2.1
theorem sdX7_applicant_15 : dz_Seg cX7_applicant [(15, .ireturn, 1), (16, .aload_n 0, 1), (17, .iload_n 1, 1), (18, .invokevirtual 206, 3), (21, .ifCond .ne 9, 3), (24, .aload_n 0, 1), (25, .iconst 2, 1), (26, .invokevirtual 102, 3)] := dz_sg _ 15 (by decide +kernel)
theorem dX7_applicant_15 : decode cX7_applicant 15 = .ok (.ireturn, 1) := sdX7_applicant_15.1
theorem dX7_applicant_16 : decode cX7_applicant 16 = .ok (.aload_n 0, 1) := sdX7_applicant_15.2.1
theorem dX7_applicant_17 : decode cX7_applicant 17 = .ok (.iload_n 1, 1) := sdX7_applicant_15.2.2.1
theorem dX7_applicant_18 : decode cX7_applicant 18 = .ok (.invokevirtual 206, 3) := sdX7_applicant_15.2.2.2.1
theorem dX7_applicant_21 : decode cX7_applicant 21 = .ok (.ifCond .ne 9, 3) := sdX7_applicant_15.2.2.2.2.1
theorem dX7_applicant_24 : decode cX7_applicant 24 = .ok (.aload_n 0, 1) := sdX7_applicant_15.2.2.2.2.2.1
theorem dX7_applicant_25 : decode cX7_applicant 25 = .ok (.iconst 2, 1) := sdX7_applicant_15.2.2.2.2.2.2.1
theorem dX7_applicant_26 : decode cX7_applicant 26 = .ok (.invokevirtual 102, 3) := sdX7_applicant_15.2.2.2.2.2.2.2.1
theorem sdX7_applicant_29 : dz_Seg cX7_applicant [(29, .ireturn, 1), (30, .iload_n 2, 1)] := dz_sg _ 29 (by decide +kernel)
theorem dX7_applicant_29 : decode cX7_applicant 29 = .ok (.ireturn, 1) := sdX7_applicant_29.1
theorem dX7_applicant_30 : decode cX7_applicant 30 = .ok (.iload_n 2, 1) := sdX7_applicant_29.2.1
theorem dX7_applicant_31 : decode cX7_applicant 31 = .ok (.tableswitch 133 0 5 #[37, 53, 69, 85, 101, 117], 37) := by decide +kernel
theorem sdX7_applicant_68 : dz_Seg cX7_applicant [(68, .aload_n 0, 1), (69, .aload_n 0, 1), (70, .getfield 40, 3), (73, .getfield 209, 3), (76, .iload_n 1, 1), (77, .invokestatic 175, 3), (80, .invokevirtual 134, 3), (83, .ireturn, 1)] := dz_sg _ 68 (by decide +kernel)
theorem dX7_applicant_68 : decode cX7_applicant 68 = .ok (.aload_n 0, 1) := sdX7_applicant_68.1
theorem dX7_applicant_69 : decode cX7_applicant 69 = .ok (.aload_n 0, 1) := sdX7_applicant_68.2.1
theorem dX7_applicant_70 : decode cX7_applicant 70 = .ok (.getfield 40, 3) := sdX7_applicant_68.2.2.1
theorem dX7_applicant_73 : decode cX7_applicant 73 = .ok (.getfield 209, 3) := sdX7_applicant_68.2.2.2.1
theorem dX7_applicant_76 : decode cX7_applicant 76 = .ok (.iload_n 1, 1) := sdX7_applicant_68.2.2.2.2.1
theorem dX7_applicant_77 : decode cX7_applicant 77 = .ok (.invokestatic 175, 3) := sdX7_applicant_68.2.2.2.2.2.1
theorem dX7_applicant_80 : decode cX7_applicant 80 = .ok (.invokevirtual 134, 3) := sdX7_applicant_68.2.2.2.2.2.2.1
theorem dX7_applicant_83 : decode cX7_applicant 83 = .ok (.ireturn, 1) := sdX7_applicant_68.2.2.2.2.2.2.2.1
theorem sdX7_applicant_84 : dz_Seg cX7_applicant [(84, .aload_n 0, 1), (85, .aload_n 0, 1), (86, .getfield 40, 3), (89, .getfield 212, 3), (92, .iload_n 1, 1), (93, .invokestatic 175, 3), (96, .invokevirtual 134, 3), (99, .ireturn, 1)] := dz_sg _ 84 (by decide +kernel)
theorem dX7_applicant_84 : decode cX7_applicant 84 = .ok (.aload_n 0, 1) := sdX7_applicant_84.1
theorem dX7_applicant_85 : decode cX7_applicant 85 = .ok (.aload_n 0, 1) := sdX7_applicant_84.2.1
theorem dX7_applicant_86 : decode cX7_applicant 86 = .ok (.getfield 40, 3) := sdX7_applicant_84.2.2.1
theorem dX7_applicant_89 : decode cX7_applicant 89 = .ok (.getfield 212, 3) := sdX7_applicant_84.2.2.2.1
theorem dX7_applicant_92 : decode cX7_applicant 92 = .ok (.iload_n 1, 1) := sdX7_applicant_84.2.2.2.2.1
theorem dX7_applicant_93 : decode cX7_applicant 93 = .ok (.invokestatic 175, 3) := sdX7_applicant_84.2.2.2.2.2.1
theorem dX7_applicant_96 : decode cX7_applicant 96 = .ok (.invokevirtual 134, 3) := sdX7_applicant_84.2.2.2.2.2.2.1
theorem dX7_applicant_99 : decode cX7_applicant 99 = .ok (.ireturn, 1) := sdX7_applicant_84.2.2.2.2.2.2.2.1
theorem sdX7_applicant_100 : dz_Seg cX7_applicant [(100, .aload_n 0, 1), (101, .aload_n 0, 1), (102, .getfield 40, 3), (105, .getfield 215, 3), (108, .iload_n 1, 1), (109, .invokestatic 175, 3), (112, .invokevirtual 134, 3), (115, .ireturn, 1)] := dz_sg _ 100 (by decide +kernel)
theorem dX7_applicant_100 : decode cX7_applicant 100 = .ok (.aload_n 0, 1) := sdX7_applicant_100.1
theorem dX7_applicant_101 : decode cX7_applicant 101 = .ok (.aload_n 0, 1) := sdX7_applicant_100.2.1
theorem dX7_applicant_102 : decode cX7_applicant 102 = .ok (.getfield 40, 3) := sdX7_applicant_100.2.2.1
theorem dX7_applicant_105 : decode cX7_applicant 105 = .ok (.getfield 215, 3) := sdX7_applicant_100.2.2.2.1
theorem dX7_applicant_108 : decode cX7_applicant 108 = .ok (.iload_n 1, 1) := sdX7_applicant_100.2.2.2.2.1
theorem dX7_applicant_109 : decode cX7_applicant 109 = .ok (.invokestatic 175, 3) := sdX7_applicant_100.2.2.2.2.2.1
theorem dX7_applicant_112 : decode cX7_applicant 112 = .ok (.invokevirtual 134, 3) := sdX7_applicant_100.2.2.2.2.2.2.1
theorem dX7_applicant_115 : decode cX7_applicant 115 = .ok (.ireturn, 1) := sdX7_applicant_100.2.2.2.2.2.2.2.1
theorem sdX7_applicant_116 : dz_Seg cX7_applicant [(116, .aload_n 0, 1), (117, .aload_n 0, 1), (118, .getfield 40, 3), (121, .getfield 216, 3), (124, .iload_n 1, 1), (125, .invokestatic 175, 3), (128, .invokevirtual 134, 3), (131, .ireturn, 1)] := dz_sg _ 116 (by decide +kernel)
theorem dX7_applicant_116 : decode cX7_applicant 116 = .ok (.aload_n 0, 1) := sdX7_applicant_116.1
theorem dX7_applicant_117 : decode cX7_applicant 117 = .ok (.aload_n 0, 1) := sdX7_applicant_116.2.1
theorem dX7_applicant_118 : decode cX7_applicant 118 = .ok (.getfield 40, 3) := sdX7_applicant_116.2.2.1
theorem dX7_applicant_121 : decode cX7_applicant 121 = .ok (.getfield 216, 3) := sdX7_applicant_116.2.2.2.1
theorem dX7_applicant_124 : decode cX7_applicant 124 = .ok (.iload_n 1, 1) := sdX7_applicant_116.2.2.2.2.1
theorem dX7_applicant_125 : decode cX7_applicant 125 = .ok (.invokestatic 175, 3) := sdX7_applicant_116.2.2.2.2.2.1
theorem dX7_applicant_128 : decode cX7_applicant 128 = .ok (.invokevirtual 134, 3) := sdX7_applicant_116.2.2.2.2.2.2.1
theorem dX7_applicant_131 : decode cX7_applicant 131 = .ok (.ireturn, 1) := sdX7_applicant_116.2.2.2.2.2.2.2.1
theorem sdX7_applicant_132 : dz_Seg cX7_applicant [(132, .aload_n 0, 1), (133, .aload_n 0, 1), (134, .getfield 40, 3), (137, .getfield 219, 3), (140, .iload_n 1, 1), (141, .invokestatic 175, 3), (144, .invokevirtual 134, 3), (147, .ireturn, 1)] := dz_sg _ 132 (by decide +kernel)
theorem dX7_applicant_132 : decode cX7_applicant 132 = .ok (.aload_n 0, 1) := sdX7_applicant_132.1
theorem dX7_applicant_133 : decode cX7_applicant 133 = .ok (.aload_n 0, 1) := sdX7_applicant_132.2.1
theorem dX7_applicant_134 : decode cX7_applicant 134 = .ok (.getfield 40, 3) := sdX7_applicant_132.2.2.1
theorem dX7_applicant_137 : decode cX7_applicant 137 = .ok (.getfield 219, 3) := sdX7_applicant_132.2.2.2.1
theorem dX7_applicant_140 : decode cX7_applicant 140 = .ok (.iload_n 1, 1) := sdX7_applicant_132.2.2.2.2.1
theorem dX7_applicant_141 : decode cX7_applicant 141 = .ok (.invokestatic 175, 3) := sdX7_applicant_132.2.2.2.2.2.1
theorem dX7_applicant_144 : decode cX7_applicant 144 = .ok (.invokevirtual 134, 3) := sdX7_applicant_132.2.2.2.2.2.2.1
theorem dX7_applicant_147 : decode cX7_applicant 147 = .ok (.ireturn, 1) := sdX7_applicant_132.2.2.2.2.2.2.2.1
theorem sdX7_applicant_148 : dz_Seg cX7_applicant [(148, .aload_n 0, 1), (149, .aload_n 0, 1), (150, .getfield 40, 3), (153, .getfield 222, 3), (156, .iload_n 1, 1), (157, .invokestatic 175, 3), (160, .invokevirtual 134, 3), (163, .ireturn, 1)] := dz_sg _ 148 (by decide +kernel)
theorem dX7_applicant_148 : decode cX7_applicant 148 = .ok (.aload_n 0, 1) := sdX7_applicant_148.1
theorem dX7_applicant_149 : decode cX7_applicant 149 = .ok (.aload_n 0, 1) := sdX7_applicant_148.2.1
theorem dX7_applicant_150 : decode cX7_applicant 150 = .ok (.getfield 40, 3) := sdX7_applicant_148.2.2.1
theorem dX7_applicant_153 : decode cX7_applicant 153 = .ok (.getfield 222, 3) := sdX7_applicant_148.2.2.2.1
theorem dX7_applicant_156 : decode cX7_applicant 156 = .ok (.iload_n 1, 1) := sdX7_applicant_148.2.2.2.2.1
theorem dX7_applicant_157 : decode cX7_applicant 157 = .ok (.invokestatic 175, 3) := sdX7_applicant_148.2.2.2.2.2.1
theorem dX7_applicant_160 : decode cX7_applicant 160 = .ok (.invokevirtual 134, 3) := sdX7_applicant_148.2.2.2.2.2.2.1
theorem dX7_applicant_163 : decode cX7_applicant 163 = .ok (.ireturn, 1) := sdX7_applicant_148.2.2.2.2.2.2.2.1
theorem sdX7_applicant_164 : dz_Seg cX7_applicant [(164, .aload_n 0, 1), (165, .aload_n 0, 1), (166, .getfield 40, 3), (169, .getfield 225, 3), (172, .iload_n 1, 1), (173, .invokestatic 175, 3), (176, .invokevirtual 134, 3), (179, .ireturn, 1)] := dz_sg _ 164 (by decide +kernel)
theorem dX7_applicant_164 : decode cX7_applicant 164 = .ok (.aload_n 0, 1) := sdX7_applicant_164.1
theorem dX7_applicant_165 : decode cX7_applicant 165 = .ok (.aload_n 0, 1) := sdX7_applicant_164.2.1
theorem dX7_applicant_166 : decode cX7_applicant 166 = .ok (.getfield 40, 3) := sdX7_applicant_164.2.2.1
theorem dX7_applicant_169 : decode cX7_applicant 169 = .ok (.getfield 225, 3) := sdX7_applicant_164.2.2.2.1
theorem dX7_applicant_172 : decode cX7_applicant 172 = .ok (.iload_n 1, 1) := sdX7_applicant_164.2.2.2.2.1
theorem dX7_applicant_173 : decode cX7_applicant 173 = .ok (.invokestatic 175, 3) := sdX7_applicant_164.2.2.2.2.2.1
theorem dX7_applicant_176 : decode cX7_applicant 176 = .ok (.invokevirtual 134, 3) := sdX7_applicant_164.2.2.2.2.2.2.1
theorem dX7_applicant_179 : decode cX7_applicant 179 = .ok (.ireturn, 1) := sdX7_applicant_164.2.2.2.2.2.2.2.1
theorem sdX7_choice_0 : dz_Seg cX7_choice [(0, .iload_n 2, 1), (1, .ifCond .ge 9, 3), (4, .aload_n 0, 1), (5, .iconst 1, 1), (6, .invokevirtual 102, 3), (9, .ireturn, 1), (10, .aload_n 0, 1), (11, .iload_n 1, 1)] := dz_sg _ 0 (by decide +kernel)
theorem dX7_choice_0 : decode cX7_choice 0 = .ok (.iload_n 2, 1) := sdX7_choice_0.1
theorem dX7_choice_1 : decode cX7_choice 1 = .ok (.ifCond .ge 9, 3) := sdX7_choice_0.2.1
theorem dX7_choice_4 : decode cX7_choice 4 = .ok (.aload_n 0, 1) := sdX7_choice_0.2.2.1
theorem dX7_choice_5 : decode cX7_choice 5 = .ok (.iconst 1, 1) := sdX7_choice_0.2.2.2.1
theorem dX7_choice_6 : decode cX7_choice 6 = .ok (.invokevirtual 102, 3) := sdX7_choice_0.2.2.2.2.1
theorem dX7_choice_9 : decode cX7_choice 9 = .ok (.ireturn, 1) := sdX7_choice_0.2.2.2.2.2.1
theorem dX7_choice_10 : decode cX7_choice 10 = .ok (.aload_n 0, 1) := sdX7_choice_0.2.2.2.2.2.2.1
theorem dX7_choice_11 : decode cX7_choice 11 = .ok (.iload_n 1, 1) := sdX7_choice_0.2.2.2.2.2.2.2.1
theorem sdX7_choice_12 : dz_Seg cX7_choice [(12, .invokevirtual 206, 3), (15, .ifCond .ne 9, 3), (18, .aload_n 0, 1), (19, .iconst 2, 1), (20, .invokevirtual 102, 3), (23, .ireturn, 1), (24, .iload_n 2, 1), (25, .aload_n 0, 1)] := dz_sg _ 12 (by decide +kernel)
theorem dX7_choice_12 : decode cX7_choice 12 = .ok (.invokevirtual 206, 3) := sdX7_choice_12.1
theorem dX7_choice_15 : decode cX7_choice 15 = .ok (.ifCond .ne 9, 3) := sdX7_choice_12.2.1
theorem dX7_choice_18 : decode cX7_choice 18 = .ok (.aload_n 0, 1) := sdX7_choice_12.2.2.1
theorem dX7_choice_19 : decode cX7_choice 19 = .ok (.iconst 2, 1) := sdX7_choice_12.2.2.2.1
theorem dX7_choice_20 : decode cX7_choice 20 = .ok (.invokevirtual 102, 3) := sdX7_choice_12.2.2.2.2.1
theorem dX7_choice_23 : decode cX7_choice 23 = .ok (.ireturn, 1) := sdX7_choice_12.2.2.2.2.2.1
theorem dX7_choice_24 : decode cX7_choice 24 = .ok (.iload_n 2, 1) := sdX7_choice_12.2.2.2.2.2.2.1
theorem dX7_choice_25 : decode cX7_choice 25 = .ok (.aload_n 0, 1) := sdX7_choice_12.2.2.2.2.2.2.2.1
theorem sdX7_choice_26 : dz_Seg cX7_choice [(26, .getfield 40, 3), (29, .getfield 219, 3), (32, .iload_n 1, 1), (33, .invokestatic 175, 3), (36, .if_icmp .lt 9, 3), (39, .aload_n 0, 1), (40, .iconst 5, 1), (41, .invokevirtual 102, 3)] := dz_sg _ 26 (by decide +kernel)
theorem dX7_choice_26 : decode cX7_choice 26 = .ok (.getfield 40, 3) := sdX7_choice_26.1
theorem dX7_choice_29 : decode cX7_choice 29 = .ok (.getfield 219, 3) := sdX7_choice_26.2.1
theorem dX7_choice_32 : decode cX7_choice 32 = .ok (.iload_n 1, 1) := sdX7_choice_26.2.2.1
theorem dX7_choice_33 : decode cX7_choice 33 = .ok (.invokestatic 175, 3) := sdX7_choice_26.2.2.2.1
theorem dX7_choice_36 : decode cX7_choice 36 = .ok (.if_icmp .lt 9, 3) := sdX7_choice_26.2.2.2.2.1
theorem dX7_choice_39 : decode cX7_choice 39 = .ok (.aload_n 0, 1) := sdX7_choice_26.2.2.2.2.2.1
theorem dX7_choice_40 : decode cX7_choice 40 = .ok (.iconst 5, 1) := sdX7_choice_26.2.2.2.2.2.2.1
theorem dX7_choice_41 : decode cX7_choice 41 = .ok (.invokevirtual 102, 3) := sdX7_choice_26.2.2.2.2.2.2.2.1
theorem sdX7_choice_44 : dz_Seg cX7_choice [(44, .ireturn, 1), (45, .aload_n 0, 1), (46, .aload_n 0, 1), (47, .getfield 40, 3), (50, .iload_n 1, 1), (51, .iload_n 2, 1), (52, .invokevirtual 226, 3), (55, .invokevirtual 134, 3)] := dz_sg _ 44 (by decide +kernel)
theorem dX7_choice_44 : decode cX7_choice 44 = .ok (.ireturn, 1) := sdX7_choice_44.1
theorem dX7_choice_45 : decode cX7_choice 45 = .ok (.aload_n 0, 1) := sdX7_choice_44.2.1
theorem dX7_choice_46 : decode cX7_choice 46 = .ok (.aload_n 0, 1) := sdX7_choice_44.2.2.1
theorem dX7_choice_47 : decode cX7_choice 47 = .ok (.getfield 40, 3) := sdX7_choice_44.2.2.2.1
theorem dX7_choice_50 : decode cX7_choice 50 = .ok (.iload_n 1, 1) := sdX7_choice_44.2.2.2.2.1
theorem dX7_choice_51 : decode cX7_choice 51 = .ok (.iload_n 2, 1) := sdX7_choice_44.2.2.2.2.2.1
theorem dX7_choice_52 : decode cX7_choice 52 = .ok (.invokevirtual 226, 3) := sdX7_choice_44.2.2.2.2.2.2.1
theorem dX7_choice_55 : decode cX7_choice 55 = .ok (.invokevirtual 134, 3) := sdX7_choice_44.2.2.2.2.2.2.2.1
theorem sdX7_choice_58 : dz_Seg cX7_choice [(58, .ireturn, 1)] := dz_sg _ 58 (by decide +kernel)
theorem dX7_choice_58 : decode cX7_choice 58 = .ok (.ireturn, 1) := sdX7_choice_58.1
theorem sdX7_demand_0 : dz_Seg cX7_demand [(0, .iload_n 2, 1), (1, .ifCond .lt 8, 3), (4, .iload_n 2, 1), (5, .iconst 1, 1), (6, .if_icmp .le 9, 3), (9, .aload_n 0, 1), (10, .iconst 1, 1), (11, .invokevirtual 102, 3)] := dz_sg _ 0 (by decide +kernel)
theorem dX7_demand_0 : decode cX7_demand 0 = .ok (.iload_n 2, 1) := sdX7_demand_0.1
theorem dX7_demand_1 : decode cX7_demand 1 = .ok (.ifCond .lt 8, 3) := sdX7_demand_0.2.1
theorem dX7_demand_4 : decode cX7_demand 4 = .ok (.iload_n 2, 1) := sdX7_demand_0.2.2.1
theorem dX7_demand_5 : decode cX7_demand 5 = .ok (.iconst 1, 1) := sdX7_demand_0.2.2.2.1
theorem dX7_demand_6 : decode cX7_demand 6 = .ok (.if_icmp .le 9, 3) := sdX7_demand_0.2.2.2.2.1
theorem dX7_demand_9 : decode cX7_demand 9 = .ok (.aload_n 0, 1) := sdX7_demand_0.2.2.2.2.2.1
theorem dX7_demand_10 : decode cX7_demand 10 = .ok (.iconst 1, 1) := sdX7_demand_0.2.2.2.2.2.2.1
theorem dX7_demand_11 : decode cX7_demand 11 = .ok (.invokevirtual 102, 3) := sdX7_demand_0.2.2.2.2.2.2.2.1
theorem sdX7_demand_14 : dz_Seg cX7_demand [(14, .ireturn, 1), (15, .aload_n 0, 1), (16, .iload_n 1, 1), (17, .invokevirtual 188, 3), (20, .ifCond .ne 9, 3), (23, .aload_n 0, 1), (24, .iconst 2, 1), (25, .invokevirtual 102, 3)] := dz_sg _ 14 (by decide +kernel)
theorem dX7_demand_14 : decode cX7_demand 14 = .ok (.ireturn, 1) := sdX7_demand_14.1
theorem dX7_demand_15 : decode cX7_demand 15 = .ok (.aload_n 0, 1) := sdX7_demand_14.2.1
theorem dX7_demand_16 : decode cX7_demand 16 = .ok (.iload_n 1, 1) := sdX7_demand_14.2.2.1
theorem dX7_demand_17 : decode cX7_demand 17 = .ok (.invokevirtual 188, 3) := sdX7_demand_14.2.2.2.1
theorem dX7_demand_20 : decode cX7_demand 20 = .ok (.ifCond .ne 9, 3) := sdX7_demand_14.2.2.2.2.1
theorem dX7_demand_23 : decode cX7_demand 23 = .ok (.aload_n 0, 1) := sdX7_demand_14.2.2.2.2.2.1
theorem dX7_demand_24 : decode cX7_demand 24 = .ok (.iconst 2, 1) := sdX7_demand_14.2.2.2.2.2.2.1
theorem dX7_demand_25 : decode cX7_demand 25 = .ok (.invokevirtual 102, 3) := sdX7_demand_14.2.2.2.2.2.2.2.1
theorem sdX7_demand_28 : dz_Seg cX7_demand [(28, .ireturn, 1), (29, .aload_n 0, 1), (30, .getfield 26, 3), (33, .getfield 158, 3), (36, .iload_n 1, 1), (37, .invokestatic 175, 3), (40, .ifCond .ne 9, 3), (43, .aload_n 0, 1)] := dz_sg _ 28 (by decide +kernel)
theorem dX7_demand_28 : decode cX7_demand 28 = .ok (.ireturn, 1) := sdX7_demand_28.1
theorem dX7_demand_29 : decode cX7_demand 29 = .ok (.aload_n 0, 1) := sdX7_demand_28.2.1
theorem dX7_demand_30 : decode cX7_demand 30 = .ok (.getfield 26, 3) := sdX7_demand_28.2.2.1
theorem dX7_demand_33 : decode cX7_demand 33 = .ok (.getfield 158, 3) := sdX7_demand_28.2.2.2.1
theorem dX7_demand_36 : decode cX7_demand 36 = .ok (.iload_n 1, 1) := sdX7_demand_28.2.2.2.2.1
theorem dX7_demand_37 : decode cX7_demand 37 = .ok (.invokestatic 175, 3) := sdX7_demand_28.2.2.2.2.2.1
theorem dX7_demand_40 : decode cX7_demand 40 = .ok (.ifCond .ne 9, 3) := sdX7_demand_28.2.2.2.2.2.2.1
theorem dX7_demand_43 : decode cX7_demand 43 = .ok (.aload_n 0, 1) := sdX7_demand_28.2.2.2.2.2.2.2.1
theorem sdX7_demand_44 : dz_Seg cX7_demand [(44, .iconst 5, 1), (45, .invokevirtual 102, 3), (48, .ireturn, 1), (49, .aload_n 0, 1), (50, .aload_n 0, 1), (51, .getfield 40, 3), (54, .iload_n 1, 1), (55, .invokevirtual 200, 3)] := dz_sg _ 44 (by decide +kernel)
theorem dX7_demand_44 : decode cX7_demand 44 = .ok (.iconst 5, 1) := sdX7_demand_44.1
theorem dX7_demand_45 : decode cX7_demand 45 = .ok (.invokevirtual 102, 3) := sdX7_demand_44.2.1
theorem dX7_demand_48 : decode cX7_demand 48 = .ok (.ireturn, 1) := sdX7_demand_44.2.2.1
theorem dX7_demand_49 : decode cX7_demand 49 = .ok (.aload_n 0, 1) := sdX7_demand_44.2.2.2.1
theorem dX7_demand_50 : decode cX7_demand 50 = .ok (.aload_n 0, 1) := sdX7_demand_44.2.2.2.2.1
theorem dX7_demand_51 : decode cX7_demand 51 = .ok (.getfield 40, 3) := sdX7_demand_44.2.2.2.2.2.1
theorem dX7_demand_54 : decode cX7_demand 54 = .ok (.iload_n 1, 1) := sdX7_demand_44.2.2.2.2.2.2.1
theorem dX7_demand_55 : decode cX7_demand 55 = .ok (.invokevirtual 200, 3) := sdX7_demand_44.2.2.2.2.2.2.2.1
theorem sdX7_demand_58 : dz_Seg cX7_demand [(58, .aload_n 0, 1), (59, .getfield 26, 3), (62, .getfield 158, 3), (65, .iload_n 1, 1), (66, .invokestatic 175, 3), (69, .iload_n 2, 1), (70, .invokestatic 230, 3), (73, .invokevirtual 134, 3)] := dz_sg _ 58 (by decide +kernel)
theorem dX7_demand_58 : decode cX7_demand 58 = .ok (.aload_n 0, 1) := sdX7_demand_58.1
theorem dX7_demand_59 : decode cX7_demand 59 = .ok (.getfield 26, 3) := sdX7_demand_58.2.1
theorem dX7_demand_62 : decode cX7_demand 62 = .ok (.getfield 158, 3) := sdX7_demand_58.2.2.1
theorem dX7_demand_65 : decode cX7_demand 65 = .ok (.iload_n 1, 1) := sdX7_demand_58.2.2.2.1
theorem dX7_demand_66 : decode cX7_demand 66 = .ok (.invokestatic 175, 3) := sdX7_demand_58.2.2.2.2.1
theorem dX7_demand_69 : decode cX7_demand 69 = .ok (.iload_n 2, 1) := sdX7_demand_58.2.2.2.2.2.1
theorem dX7_demand_70 : decode cX7_demand 70 = .ok (.invokestatic 230, 3) := sdX7_demand_58.2.2.2.2.2.2.1
theorem dX7_demand_73 : decode cX7_demand 73 = .ok (.invokevirtual 134, 3) := sdX7_demand_58.2.2.2.2.2.2.2.1
theorem sdX7_demand_76 : dz_Seg cX7_demand [(76, .ireturn, 1)] := dz_sg _ 76 (by decide +kernel)
theorem dX7_demand_76 : decode cX7_demand 76 = .ok (.ireturn, 1) := sdX7_demand_76.1
theorem sdX7_share_0 : dz_Seg cX7_share [(0, .iload_n 2, 1), (1, .ifCond .lt 8, 3), (4, .iload_n 2, 1), (5, .iconst 1, 1), (6, .if_icmp .le 9, 3), (9, .aload_n 0, 1), (10, .iconst 1, 1), (11, .invokevirtual 102, 3)] := dz_sg _ 0 (by decide +kernel)
theorem dX7_share_0 : decode cX7_share 0 = .ok (.iload_n 2, 1) := sdX7_share_0.1
theorem dX7_share_1 : decode cX7_share 1 = .ok (.ifCond .lt 8, 3) := sdX7_share_0.2.1
theorem dX7_share_4 : decode cX7_share 4 = .ok (.iload_n 2, 1) := sdX7_share_0.2.2.1
theorem dX7_share_5 : decode cX7_share 5 = .ok (.iconst 1, 1) := sdX7_share_0.2.2.2.1
theorem dX7_share_6 : decode cX7_share 6 = .ok (.if_icmp .le 9, 3) := sdX7_share_0.2.2.2.2.1
theorem dX7_share_9 : decode cX7_share 9 = .ok (.aload_n 0, 1) := sdX7_share_0.2.2.2.2.2.1
theorem dX7_share_10 : decode cX7_share 10 = .ok (.iconst 1, 1) := sdX7_share_0.2.2.2.2.2.2.1
theorem dX7_share_11 : decode cX7_share 11 = .ok (.invokevirtual 102, 3) := sdX7_share_0.2.2.2.2.2.2.2.1
theorem sdX7_share_14 : dz_Seg cX7_share [(14, .ireturn, 1), (15, .aload_n 0, 1), (16, .iload_n 1, 1), (17, .invokevirtual 206, 3), (20, .ifCond .ne 9, 3), (23, .aload_n 0, 1), (24, .iconst 2, 1), (25, .invokevirtual 102, 3)] := dz_sg _ 14 (by decide +kernel)
theorem dX7_share_14 : decode cX7_share 14 = .ok (.ireturn, 1) := sdX7_share_14.1
theorem dX7_share_15 : decode cX7_share 15 = .ok (.aload_n 0, 1) := sdX7_share_14.2.1
theorem dX7_share_16 : decode cX7_share 16 = .ok (.iload_n 1, 1) := sdX7_share_14.2.2.1
theorem dX7_share_17 : decode cX7_share 17 = .ok (.invokevirtual 206, 3) := sdX7_share_14.2.2.2.1
theorem dX7_share_20 : decode cX7_share 20 = .ok (.ifCond .ne 9, 3) := sdX7_share_14.2.2.2.2.1
theorem dX7_share_23 : decode cX7_share 23 = .ok (.aload_n 0, 1) := sdX7_share_14.2.2.2.2.2.1
theorem dX7_share_24 : decode cX7_share 24 = .ok (.iconst 2, 1) := sdX7_share_14.2.2.2.2.2.2.1
theorem dX7_share_25 : decode cX7_share 25 = .ok (.invokevirtual 102, 3) := sdX7_share_14.2.2.2.2.2.2.2.1
theorem sdX7_share_28 : dz_Seg cX7_share [(28, .ireturn, 1), (29, .aload_n 0, 1), (30, .aload_n 0, 1), (31, .getfield 40, 3), (34, .getfield 216, 3), (37, .iload_n 1, 1), (38, .invokestatic 175, 3), (41, .aload_n 0, 1)] := dz_sg _ 28 (by decide +kernel)
theorem dX7_share_28 : decode cX7_share 28 = .ok (.ireturn, 1) := sdX7_share_28.1
theorem dX7_share_29 : decode cX7_share 29 = .ok (.aload_n 0, 1) := sdX7_share_28.2.1
theorem dX7_share_30 : decode cX7_share 30 = .ok (.aload_n 0, 1) := sdX7_share_28.2.2.1
theorem dX7_share_31 : decode cX7_share 31 = .ok (.getfield 40, 3) := sdX7_share_28.2.2.2.1
theorem dX7_share_34 : decode cX7_share 34 = .ok (.getfield 216, 3) := sdX7_share_28.2.2.2.2.1
theorem dX7_share_37 : decode cX7_share 37 = .ok (.iload_n 1, 1) := sdX7_share_28.2.2.2.2.2.1
theorem dX7_share_38 : decode cX7_share 38 = .ok (.invokestatic 175, 3) := sdX7_share_28.2.2.2.2.2.2.1
theorem dX7_share_41 : decode cX7_share 41 = .ok (.aload_n 0, 1) := sdX7_share_28.2.2.2.2.2.2.2.1
theorem sdX7_share_42 : dz_Seg cX7_share [(42, .getfield 40, 3), (45, .getfield 234, 3), (48, .iload_n 2, 1), (49, .invokestatic 230, 3), (52, .invokevirtual 134, 3), (55, .ireturn, 1)] := dz_sg _ 42 (by decide +kernel)
theorem dX7_share_42 : decode cX7_share 42 = .ok (.getfield 40, 3) := sdX7_share_42.1
theorem dX7_share_45 : decode cX7_share 45 = .ok (.getfield 234, 3) := sdX7_share_42.2.1
theorem dX7_share_48 : decode cX7_share 48 = .ok (.iload_n 2, 1) := sdX7_share_42.2.2.1
theorem dX7_share_49 : decode cX7_share 49 = .ok (.invokestatic 230, 3) := sdX7_share_42.2.2.2.1
theorem dX7_share_52 : decode cX7_share 52 = .ok (.invokevirtual 134, 3) := sdX7_share_42.2.2.2.2.1
theorem dX7_share_55 : decode cX7_share 55 = .ok (.ireturn, 1) := sdX7_share_42.2.2.2.2.2.1
theorem sdX7_order_0 : dz_Seg cX7_order [(0, .iload_n 1, 1), (1, .invokestatic 237, 3), (4, .ifCond .eq 7, 3), (7, .iload_n 2, 1), (8, .ifCond .ge 9, 3), (11, .aload_n 0, 1), (12, .iconst 1, 1), (13, .invokevirtual 102, 3)] := dz_sg _ 0 (by decide +kernel)
theorem dX7_order_0 : decode cX7_order 0 = .ok (.iload_n 1, 1) := sdX7_order_0.1
theorem dX7_order_1 : decode cX7_order 1 = .ok (.invokestatic 237, 3) := sdX7_order_0.2.1
theorem dX7_order_4 : decode cX7_order 4 = .ok (.ifCond .eq 7, 3) := sdX7_order_0.2.2.1
theorem dX7_order_7 : decode cX7_order 7 = .ok (.iload_n 2, 1) := sdX7_order_0.2.2.2.1
theorem dX7_order_8 : decode cX7_order 8 = .ok (.ifCond .ge 9, 3) := sdX7_order_0.2.2.2.2.1
theorem dX7_order_11 : decode cX7_order 11 = .ok (.aload_n 0, 1) := sdX7_order_0.2.2.2.2.2.1
theorem dX7_order_12 : decode cX7_order 12 = .ok (.iconst 1, 1) := sdX7_order_0.2.2.2.2.2.2.1
theorem dX7_order_13 : decode cX7_order 13 = .ok (.invokevirtual 102, 3) := sdX7_order_0.2.2.2.2.2.2.2.1
theorem sdX7_order_16 : dz_Seg cX7_order [(16, .ireturn, 1), (17, .iload_n 2, 1), (18, .aload_n 0, 1), (19, .getfield 40, 3), (22, .getfield 140, 3), (25, .if_icmp .lt 9, 3), (28, .aload_n 0, 1), (29, .iconst 5, 1)] := dz_sg _ 16 (by decide +kernel)
theorem dX7_order_16 : decode cX7_order 16 = .ok (.ireturn, 1) := sdX7_order_16.1
theorem dX7_order_17 : decode cX7_order 17 = .ok (.iload_n 2, 1) := sdX7_order_16.2.1
theorem dX7_order_18 : decode cX7_order 18 = .ok (.aload_n 0, 1) := sdX7_order_16.2.2.1
theorem dX7_order_19 : decode cX7_order 19 = .ok (.getfield 40, 3) := sdX7_order_16.2.2.2.1
theorem dX7_order_22 : decode cX7_order 22 = .ok (.getfield 140, 3) := sdX7_order_16.2.2.2.2.1
theorem dX7_order_25 : decode cX7_order 25 = .ok (.if_icmp .lt 9, 3) := sdX7_order_16.2.2.2.2.2.1
theorem dX7_order_28 : decode cX7_order 28 = .ok (.aload_n 0, 1) := sdX7_order_16.2.2.2.2.2.2.1
theorem dX7_order_29 : decode cX7_order 29 = .ok (.iconst 5, 1) := sdX7_order_16.2.2.2.2.2.2.2.1
theorem sdX7_order_30 : dz_Seg cX7_order [(30, .invokevirtual 102, 3), (33, .ireturn, 1), (34, .aload_n 0, 1), (35, .getfield 47, 3), (38, .aload_n 0, 1), (39, .getfield 40, 3), (42, .iload_n 1, 1), (43, .invokevirtual 240, 3)] := dz_sg _ 30 (by decide +kernel)
theorem dX7_order_30 : decode cX7_order 30 = .ok (.invokevirtual 102, 3) := sdX7_order_30.1
theorem dX7_order_33 : decode cX7_order 33 = .ok (.ireturn, 1) := sdX7_order_30.2.1
theorem dX7_order_34 : decode cX7_order 34 = .ok (.aload_n 0, 1) := sdX7_order_30.2.2.1
theorem dX7_order_35 : decode cX7_order 35 = .ok (.getfield 47, 3) := sdX7_order_30.2.2.2.1
theorem dX7_order_38 : decode cX7_order 38 = .ok (.aload_n 0, 1) := sdX7_order_30.2.2.2.2.1
theorem dX7_order_39 : decode cX7_order 39 = .ok (.getfield 40, 3) := sdX7_order_30.2.2.2.2.2.1
theorem dX7_order_42 : decode cX7_order 42 = .ok (.iload_n 1, 1) := sdX7_order_30.2.2.2.2.2.2.1
theorem dX7_order_43 : decode cX7_order 43 = .ok (.invokevirtual 240, 3) := sdX7_order_30.2.2.2.2.2.2.2.1
theorem sdX7_order_46 : dz_Seg cX7_order [(46, .aload_n 0, 1), (47, .aload_n 0, 1), (48, .getfield 47, 3), (51, .getfield 244, 3), (54, .iload_n 2, 1), (55, .invokestatic 175, 3), (58, .invokevirtual 134, 3), (61, .ireturn, 1)] := dz_sg _ 46 (by decide +kernel)
theorem dX7_order_46 : decode cX7_order 46 = .ok (.aload_n 0, 1) := sdX7_order_46.1
theorem dX7_order_47 : decode cX7_order 47 = .ok (.aload_n 0, 1) := sdX7_order_46.2.1
theorem dX7_order_48 : decode cX7_order 48 = .ok (.getfield 47, 3) := sdX7_order_46.2.2.1
theorem dX7_order_51 : decode cX7_order 51 = .ok (.getfield 244, 3) := sdX7_order_46.2.2.2.1
theorem dX7_order_54 : decode cX7_order 54 = .ok (.iload_n 2, 1) := sdX7_order_46.2.2.2.2.1
theorem dX7_order_55 : decode cX7_order 55 = .ok (.invokestatic 175, 3) := sdX7_order_46.2.2.2.2.2.1
theorem dX7_order_58 : decode cX7_order 58 = .ok (.invokevirtual 134, 3) := sdX7_order_46.2.2.2.2.2.2.1
theorem dX7_order_61 : decode cX7_order 61 = .ok (.ireturn, 1) := sdX7_order_46.2.2.2.2.2.2.2.1
theorem sdX7_drawn_0 : dz_Seg cX7_drawn [(0, .iload_n 1, 1), (1, .invokestatic 237, 3), (4, .ifCond .ne 9, 3), (7, .aload_n 0, 1), (8, .iconst 1, 1), (9, .invokevirtual 102, 3), (12, .ireturn, 1), (13, .aload_n 0, 1)] := dz_sg _ 0 (by decide +kernel)
theorem dX7_drawn_0 : decode cX7_drawn 0 = .ok (.iload_n 1, 1) := sdX7_drawn_0.1
theorem dX7_drawn_1 : decode cX7_drawn 1 = .ok (.invokestatic 237, 3) := sdX7_drawn_0.2.1
theorem dX7_drawn_4 : decode cX7_drawn 4 = .ok (.ifCond .ne 9, 3) := sdX7_drawn_0.2.2.1
theorem dX7_drawn_7 : decode cX7_drawn 7 = .ok (.aload_n 0, 1) := sdX7_drawn_0.2.2.2.1
theorem dX7_drawn_8 : decode cX7_drawn 8 = .ok (.iconst 1, 1) := sdX7_drawn_0.2.2.2.2.1
theorem dX7_drawn_9 : decode cX7_drawn 9 = .ok (.invokevirtual 102, 3) := sdX7_drawn_0.2.2.2.2.2.1
theorem dX7_drawn_12 : decode cX7_drawn 12 = .ok (.ireturn, 1) := sdX7_drawn_0.2.2.2.2.2.2.1
theorem dX7_drawn_13 : decode cX7_drawn 13 = .ok (.aload_n 0, 1) := sdX7_drawn_0.2.2.2.2.2.2.2.1
theorem sdX7_drawn_14 : dz_Seg cX7_drawn [(14, .iload_n 2, 1), (15, .invokevirtual 206, 3), (18, .ifCond .ne 9, 3), (21, .aload_n 0, 1), (22, .iconst 2, 1), (23, .invokevirtual 102, 3), (26, .ireturn, 1), (27, .aload_n 0, 1)] := dz_sg _ 14 (by decide +kernel)
theorem dX7_drawn_14 : decode cX7_drawn 14 = .ok (.iload_n 2, 1) := sdX7_drawn_14.1
theorem dX7_drawn_15 : decode cX7_drawn 15 = .ok (.invokevirtual 206, 3) := sdX7_drawn_14.2.1
theorem dX7_drawn_18 : decode cX7_drawn 18 = .ok (.ifCond .ne 9, 3) := sdX7_drawn_14.2.2.1
theorem dX7_drawn_21 : decode cX7_drawn 21 = .ok (.aload_n 0, 1) := sdX7_drawn_14.2.2.2.1
theorem dX7_drawn_22 : decode cX7_drawn 22 = .ok (.iconst 2, 1) := sdX7_drawn_14.2.2.2.2.1
theorem dX7_drawn_23 : decode cX7_drawn 23 = .ok (.invokevirtual 102, 3) := sdX7_drawn_14.2.2.2.2.2.1
theorem dX7_drawn_26 : decode cX7_drawn 26 = .ok (.ireturn, 1) := sdX7_drawn_14.2.2.2.2.2.2.1
theorem dX7_drawn_27 : decode cX7_drawn 27 = .ok (.aload_n 0, 1) := sdX7_drawn_14.2.2.2.2.2.2.2.1
theorem sdX7_drawn_28 : dz_Seg cX7_drawn [(28, .getfield 47, 3), (31, .aload_n 0, 1), (32, .getfield 40, 3), (35, .iload_n 1, 1), (36, .invokevirtual 247, 3), (39, .aload_n 0, 1), (40, .getfield 47, 3), (43, .getfield 250, 3)] := dz_sg _ 28 (by decide +kernel)
theorem dX7_drawn_28 : decode cX7_drawn 28 = .ok (.getfield 47, 3) := sdX7_drawn_28.1
theorem dX7_drawn_31 : decode cX7_drawn 31 = .ok (.aload_n 0, 1) := sdX7_drawn_28.2.1
theorem dX7_drawn_32 : decode cX7_drawn 32 = .ok (.getfield 40, 3) := sdX7_drawn_28.2.2.1
theorem dX7_drawn_35 : decode cX7_drawn 35 = .ok (.iload_n 1, 1) := sdX7_drawn_28.2.2.2.1
theorem dX7_drawn_36 : decode cX7_drawn 36 = .ok (.invokevirtual 247, 3) := sdX7_drawn_28.2.2.2.2.1
theorem dX7_drawn_39 : decode cX7_drawn 39 = .ok (.aload_n 0, 1) := sdX7_drawn_28.2.2.2.2.2.1
theorem dX7_drawn_40 : decode cX7_drawn 40 = .ok (.getfield 47, 3) := sdX7_drawn_28.2.2.2.2.2.2.1
theorem dX7_drawn_43 : decode cX7_drawn 43 = .ok (.getfield 250, 3) := sdX7_drawn_28.2.2.2.2.2.2.2.1
theorem sdX7_drawn_46 : dz_Seg cX7_drawn [(46, .iload_n 2, 1), (47, .invokestatic 175, 3), (50, .istore_n 3, 1), (51, .iload_n 3, 1), (52, .iconst (-1), 1), (53, .if_icmp .ne 11, 3), (56, .aload_n 0, 1), (57, .iconst 5, 1)] := dz_sg _ 46 (by decide +kernel)
theorem dX7_drawn_46 : decode cX7_drawn 46 = .ok (.iload_n 2, 1) := sdX7_drawn_46.1
theorem dX7_drawn_47 : decode cX7_drawn 47 = .ok (.invokestatic 175, 3) := sdX7_drawn_46.2.1
theorem dX7_drawn_50 : decode cX7_drawn 50 = .ok (.istore_n 3, 1) := sdX7_drawn_46.2.2.1
theorem dX7_drawn_51 : decode cX7_drawn 51 = .ok (.iload_n 3, 1) := sdX7_drawn_46.2.2.2.1
theorem dX7_drawn_52 : decode cX7_drawn 52 = .ok (.iconst (-1), 1) := sdX7_drawn_46.2.2.2.2.1
theorem dX7_drawn_53 : decode cX7_drawn 53 = .ok (.if_icmp .ne 11, 3) := sdX7_drawn_46.2.2.2.2.2.1
theorem dX7_drawn_56 : decode cX7_drawn 56 = .ok (.aload_n 0, 1) := sdX7_drawn_46.2.2.2.2.2.2.1
theorem dX7_drawn_57 : decode cX7_drawn 57 = .ok (.iconst 5, 1) := sdX7_drawn_46.2.2.2.2.2.2.2.1
theorem sdX7_drawn_58 : dz_Seg cX7_drawn [(58, .invokevirtual 102, 3), (61, .goto 8, 3), (64, .aload_n 0, 1), (65, .iload_n 3, 1), (66, .invokevirtual 134, 3), (69, .ireturn, 1)] := dz_sg _ 58 (by decide +kernel)
theorem dX7_drawn_58 : decode cX7_drawn 58 = .ok (.invokevirtual 102, 3) := sdX7_drawn_58.1
theorem dX7_drawn_61 : decode cX7_drawn 61 = .ok (.goto 8, 3) := sdX7_drawn_58.2.1
theorem dX7_drawn_64 : decode cX7_drawn 64 = .ok (.aload_n 0, 1) := sdX7_drawn_58.2.2.1
theorem dX7_drawn_65 : decode cX7_drawn 65 = .ok (.iload_n 3, 1) := sdX7_drawn_58.2.2.2.1
theorem dX7_drawn_66 : decode cX7_drawn 66 = .ok (.invokevirtual 134, 3) := sdX7_drawn_58.2.2.2.2.1
theorem dX7_drawn_69 : decode cX7_drawn 69 = .ok (.ireturn, 1) := sdX7_drawn_58.2.2.2.2.2.1
theorem sdX7_round_0 : dz_Seg cX7_round [(0, .iload_n 1, 1), (1, .invokestatic 237, 3), (4, .ifCond .ne 9, 3), (7, .aload_n 0, 1), (8, .iconst 1, 1), (9, .invokevirtual 102, 3), (12, .ireturn, 1), (13, .aload_n 0, 1)] := dz_sg _ 0 (by decide +kernel)
theorem dX7_round_0 : decode cX7_round 0 = .ok (.iload_n 1, 1) := sdX7_round_0.1
theorem dX7_round_1 : decode cX7_round 1 = .ok (.invokestatic 237, 3) := sdX7_round_0.2.1
theorem dX7_round_4 : decode cX7_round 4 = .ok (.ifCond .ne 9, 3) := sdX7_round_0.2.2.1
theorem dX7_round_7 : decode cX7_round 7 = .ok (.aload_n 0, 1) := sdX7_round_0.2.2.2.1
theorem dX7_round_8 : decode cX7_round 8 = .ok (.iconst 1, 1) := sdX7_round_0.2.2.2.2.1
theorem dX7_round_9 : decode cX7_round 9 = .ok (.invokevirtual 102, 3) := sdX7_round_0.2.2.2.2.2.1
theorem dX7_round_12 : decode cX7_round 12 = .ok (.ireturn, 1) := sdX7_round_0.2.2.2.2.2.2.1
theorem dX7_round_13 : decode cX7_round 13 = .ok (.aload_n 0, 1) := sdX7_round_0.2.2.2.2.2.2.2.1
theorem sdX7_round_14 : dz_Seg cX7_round [(14, .iload_n 2, 1), (15, .invokevirtual 206, 3), (18, .ifCond .ne 9, 3), (21, .aload_n 0, 1), (22, .iconst 2, 1), (23, .invokevirtual 102, 3), (26, .ireturn, 1), (27, .aload_n 0, 1)] := dz_sg _ 14 (by decide +kernel)
theorem dX7_round_14 : decode cX7_round 14 = .ok (.iload_n 2, 1) := sdX7_round_14.1
theorem dX7_round_15 : decode cX7_round 15 = .ok (.invokevirtual 206, 3) := sdX7_round_14.2.1
theorem dX7_round_18 : decode cX7_round 18 = .ok (.ifCond .ne 9, 3) := sdX7_round_14.2.2.1
theorem dX7_round_21 : decode cX7_round 21 = .ok (.aload_n 0, 1) := sdX7_round_14.2.2.2.1
theorem dX7_round_22 : decode cX7_round 22 = .ok (.iconst 2, 1) := sdX7_round_14.2.2.2.2.1
theorem dX7_round_23 : decode cX7_round 23 = .ok (.invokevirtual 102, 3) := sdX7_round_14.2.2.2.2.2.1
theorem dX7_round_26 : decode cX7_round 26 = .ok (.ireturn, 1) := sdX7_round_14.2.2.2.2.2.2.1
theorem dX7_round_27 : decode cX7_round 27 = .ok (.aload_n 0, 1) := sdX7_round_14.2.2.2.2.2.2.2.1
theorem sdX7_round_28 : dz_Seg cX7_round [(28, .getfield 47, 3), (31, .aload_n 0, 1), (32, .getfield 40, 3), (35, .iload_n 1, 1), (36, .invokevirtual 247, 3), (39, .aload_n 0, 1), (40, .getfield 47, 3), (43, .getfield 250, 3)] := dz_sg _ 28 (by decide +kernel)
theorem dX7_round_28 : decode cX7_round 28 = .ok (.getfield 47, 3) := sdX7_round_28.1
theorem dX7_round_31 : decode cX7_round 31 = .ok (.aload_n 0, 1) := sdX7_round_28.2.1
theorem dX7_round_32 : decode cX7_round 32 = .ok (.getfield 40, 3) := sdX7_round_28.2.2.1
theorem dX7_round_35 : decode cX7_round 35 = .ok (.iload_n 1, 1) := sdX7_round_28.2.2.2.1
theorem dX7_round_36 : decode cX7_round 36 = .ok (.invokevirtual 247, 3) := sdX7_round_28.2.2.2.2.1
theorem dX7_round_39 : decode cX7_round 39 = .ok (.aload_n 0, 1) := sdX7_round_28.2.2.2.2.2.1
theorem dX7_round_40 : decode cX7_round 40 = .ok (.getfield 47, 3) := sdX7_round_28.2.2.2.2.2.2.1
theorem dX7_round_43 : decode cX7_round 43 = .ok (.getfield 250, 3) := sdX7_round_28.2.2.2.2.2.2.2.1
theorem sdX7_round_46 : dz_Seg cX7_round [(46, .iload_n 2, 1), (47, .invokestatic 175, 3), (50, .iconst (-1), 1), (51, .if_icmp .ne 11, 3), (54, .aload_n 0, 1), (55, .iconst 5, 1), (56, .invokevirtual 102, 3), (59, .goto 18, 3)] := dz_sg _ 46 (by decide +kernel)
theorem dX7_round_46 : decode cX7_round 46 = .ok (.iload_n 2, 1) := sdX7_round_46.1
theorem dX7_round_47 : decode cX7_round 47 = .ok (.invokestatic 175, 3) := sdX7_round_46.2.1
theorem dX7_round_50 : decode cX7_round 50 = .ok (.iconst (-1), 1) := sdX7_round_46.2.2.1
theorem dX7_round_51 : decode cX7_round 51 = .ok (.if_icmp .ne 11, 3) := sdX7_round_46.2.2.2.1
theorem dX7_round_54 : decode cX7_round 54 = .ok (.aload_n 0, 1) := sdX7_round_46.2.2.2.2.1
theorem dX7_round_55 : decode cX7_round 55 = .ok (.iconst 5, 1) := sdX7_round_46.2.2.2.2.2.1
theorem dX7_round_56 : decode cX7_round 56 = .ok (.invokevirtual 102, 3) := sdX7_round_46.2.2.2.2.2.2.1
theorem dX7_round_59 : decode cX7_round 59 = .ok (.goto 18, 3) := sdX7_round_46.2.2.2.2.2.2.2.1
theorem sdX7_round_62 : dz_Seg cX7_round [(62, .aload_n 0, 1), (63, .aload_n 0, 1), (64, .getfield 47, 3), (67, .getfield 253, 3), (70, .iload_n 2, 1), (71, .invokestatic 175, 3), (74, .invokevirtual 134, 3), (77, .ireturn, 1)] := dz_sg _ 62 (by decide +kernel)
theorem dX7_round_62 : decode cX7_round 62 = .ok (.aload_n 0, 1) := sdX7_round_62.1
theorem dX7_round_63 : decode cX7_round 63 = .ok (.aload_n 0, 1) := sdX7_round_62.2.1
theorem dX7_round_64 : decode cX7_round 64 = .ok (.getfield 47, 3) := sdX7_round_62.2.2.1
theorem dX7_round_67 : decode cX7_round 67 = .ok (.getfield 253, 3) := sdX7_round_62.2.2.2.1
theorem dX7_round_70 : decode cX7_round 70 = .ok (.iload_n 2, 1) := sdX7_round_62.2.2.2.2.1
theorem dX7_round_71 : decode cX7_round 71 = .ok (.invokestatic 175, 3) := sdX7_round_62.2.2.2.2.2.1
theorem dX7_round_74 : decode cX7_round 74 = .ok (.invokevirtual 134, 3) := sdX7_round_62.2.2.2.2.2.2.1
theorem dX7_round_77 : decode cX7_round 77 = .ok (.ireturn, 1) := sdX7_round_62.2.2.2.2.2.2.2.1
theorem sdX7_left_0 : dz_Seg cX7_left [(0, .iload_n 1, 1), (1, .invokestatic 237, 3), (4, .ifCond .eq 12, 3), (7, .iload_n 3, 1), (8, .ifCond .lt 8, 3), (11, .iload_n 3, 1), (12, .iconst 3, 1), (13, .if_icmp .le 9, 3)] := dz_sg _ 0 (by decide +kernel)
theorem dX7_left_0 : decode cX7_left 0 = .ok (.iload_n 1, 1) := sdX7_left_0.1
theorem dX7_left_1 : decode cX7_left 1 = .ok (.invokestatic 237, 3) := sdX7_left_0.2.1
theorem dX7_left_4 : decode cX7_left 4 = .ok (.ifCond .eq 12, 3) := sdX7_left_0.2.2.1
theorem dX7_left_7 : decode cX7_left 7 = .ok (.iload_n 3, 1) := sdX7_left_0.2.2.2.1
theorem dX7_left_8 : decode cX7_left 8 = .ok (.ifCond .lt 8, 3) := sdX7_left_0.2.2.2.2.1
theorem dX7_left_11 : decode cX7_left 11 = .ok (.iload_n 3, 1) := sdX7_left_0.2.2.2.2.2.1
theorem dX7_left_12 : decode cX7_left 12 = .ok (.iconst 3, 1) := sdX7_left_0.2.2.2.2.2.2.1
theorem dX7_left_13 : decode cX7_left 13 = .ok (.if_icmp .le 9, 3) := sdX7_left_0.2.2.2.2.2.2.2.1
theorem sdX7_left_16 : dz_Seg cX7_left [(16, .aload_n 0, 1), (17, .iconst 1, 1), (18, .invokevirtual 102, 3), (21, .ireturn, 1), (22, .aload_n 0, 1), (23, .iload_n 2, 1), (24, .invokevirtual 188, 3), (27, .ifCond .ne 9, 3)] := dz_sg _ 16 (by decide +kernel)
theorem dX7_left_16 : decode cX7_left 16 = .ok (.aload_n 0, 1) := sdX7_left_16.1
theorem dX7_left_17 : decode cX7_left 17 = .ok (.iconst 1, 1) := sdX7_left_16.2.1
theorem dX7_left_18 : decode cX7_left 18 = .ok (.invokevirtual 102, 3) := sdX7_left_16.2.2.1
theorem dX7_left_21 : decode cX7_left 21 = .ok (.ireturn, 1) := sdX7_left_16.2.2.2.1
theorem dX7_left_22 : decode cX7_left 22 = .ok (.aload_n 0, 1) := sdX7_left_16.2.2.2.2.1
theorem dX7_left_23 : decode cX7_left 23 = .ok (.iload_n 2, 1) := sdX7_left_16.2.2.2.2.2.1
theorem dX7_left_24 : decode cX7_left 24 = .ok (.invokevirtual 188, 3) := sdX7_left_16.2.2.2.2.2.2.1
theorem dX7_left_27 : decode cX7_left 27 = .ok (.ifCond .ne 9, 3) := sdX7_left_16.2.2.2.2.2.2.2.1
theorem sdX7_left_30 : dz_Seg cX7_left [(30, .aload_n 0, 1), (31, .iconst 2, 1), (32, .invokevirtual 102, 3), (35, .ireturn, 1), (36, .aload_n 0, 1), (37, .getfield 47, 3), (40, .aload_n 0, 1), (41, .getfield 40, 3)] := dz_sg _ 30 (by decide +kernel)
theorem dX7_left_30 : decode cX7_left 30 = .ok (.aload_n 0, 1) := sdX7_left_30.1
theorem dX7_left_31 : decode cX7_left 31 = .ok (.iconst 2, 1) := sdX7_left_30.2.1
theorem dX7_left_32 : decode cX7_left 32 = .ok (.invokevirtual 102, 3) := sdX7_left_30.2.2.1
theorem dX7_left_35 : decode cX7_left 35 = .ok (.ireturn, 1) := sdX7_left_30.2.2.2.1
theorem dX7_left_36 : decode cX7_left 36 = .ok (.aload_n 0, 1) := sdX7_left_30.2.2.2.2.1
theorem dX7_left_37 : decode cX7_left 37 = .ok (.getfield 47, 3) := sdX7_left_30.2.2.2.2.2.1
theorem dX7_left_40 : decode cX7_left 40 = .ok (.aload_n 0, 1) := sdX7_left_30.2.2.2.2.2.2.1
theorem dX7_left_41 : decode cX7_left 41 = .ok (.getfield 40, 3) := sdX7_left_30.2.2.2.2.2.2.2.1
theorem sdX7_left_44 : dz_Seg cX7_left [(44, .iload_n 1, 1), (45, .invokevirtual 247, 3), (48, .iload_n 3, 1)] := dz_sg _ 44 (by decide +kernel)
theorem dX7_left_44 : decode cX7_left 44 = .ok (.iload_n 1, 1) := sdX7_left_44.1
theorem dX7_left_45 : decode cX7_left 45 = .ok (.invokevirtual 247, 3) := sdX7_left_44.2.1
theorem dX7_left_48 : decode cX7_left 48 = .ok (.iload_n 3, 1) := sdX7_left_44.2.2.1
theorem dX7_left_49 : decode cX7_left 49 = .ok (.tableswitch 76 0 2 #[27, 43, 59], 27) := by decide +kernel
theorem sdX7_left_76 : dz_Seg cX7_left [(76, .aload_n 0, 1), (77, .aload_n 0, 1), (78, .getfield 47, 3), (81, .getfield 256, 3), (84, .iload_n 2, 1), (85, .invokestatic 175, 3), (88, .invokevirtual 134, 3), (91, .ireturn, 1)] := dz_sg _ 76 (by decide +kernel)
theorem dX7_left_76 : decode cX7_left 76 = .ok (.aload_n 0, 1) := sdX7_left_76.1
theorem dX7_left_77 : decode cX7_left 77 = .ok (.aload_n 0, 1) := sdX7_left_76.2.1
theorem dX7_left_78 : decode cX7_left 78 = .ok (.getfield 47, 3) := sdX7_left_76.2.2.1
theorem dX7_left_81 : decode cX7_left 81 = .ok (.getfield 256, 3) := sdX7_left_76.2.2.2.1
theorem dX7_left_84 : decode cX7_left 84 = .ok (.iload_n 2, 1) := sdX7_left_76.2.2.2.2.1
theorem dX7_left_85 : decode cX7_left 85 = .ok (.invokestatic 175, 3) := sdX7_left_76.2.2.2.2.2.1
theorem dX7_left_88 : decode cX7_left 88 = .ok (.invokevirtual 134, 3) := sdX7_left_76.2.2.2.2.2.2.1
theorem dX7_left_91 : decode cX7_left 91 = .ok (.ireturn, 1) := sdX7_left_76.2.2.2.2.2.2.2.1
theorem sdX7_left_92 : dz_Seg cX7_left [(92, .aload_n 0, 1), (93, .aload_n 0, 1), (94, .getfield 47, 3), (97, .getfield 259, 3), (100, .iload_n 2, 1), (101, .invokestatic 175, 3), (104, .invokevirtual 134, 3), (107, .ireturn, 1)] := dz_sg _ 92 (by decide +kernel)
theorem dX7_left_92 : decode cX7_left 92 = .ok (.aload_n 0, 1) := sdX7_left_92.1
theorem dX7_left_93 : decode cX7_left 93 = .ok (.aload_n 0, 1) := sdX7_left_92.2.1
theorem dX7_left_94 : decode cX7_left 94 = .ok (.getfield 47, 3) := sdX7_left_92.2.2.1
theorem dX7_left_97 : decode cX7_left 97 = .ok (.getfield 259, 3) := sdX7_left_92.2.2.2.1
theorem dX7_left_100 : decode cX7_left 100 = .ok (.iload_n 2, 1) := sdX7_left_92.2.2.2.2.1
theorem dX7_left_101 : decode cX7_left 101 = .ok (.invokestatic 175, 3) := sdX7_left_92.2.2.2.2.2.1
theorem dX7_left_104 : decode cX7_left 104 = .ok (.invokevirtual 134, 3) := sdX7_left_92.2.2.2.2.2.2.1
theorem dX7_left_107 : decode cX7_left 107 = .ok (.ireturn, 1) := sdX7_left_92.2.2.2.2.2.2.2.1
theorem sdX7_left_108 : dz_Seg cX7_left [(108, .aload_n 0, 1), (109, .aload_n 0, 1), (110, .getfield 47, 3), (113, .aload_n 0, 1), (114, .getfield 40, 3), (117, .iload_n 2, 1), (118, .invokevirtual 262, 3), (121, .invokevirtual 134, 3)] := dz_sg _ 108 (by decide +kernel)
theorem dX7_left_108 : decode cX7_left 108 = .ok (.aload_n 0, 1) := sdX7_left_108.1
theorem dX7_left_109 : decode cX7_left 109 = .ok (.aload_n 0, 1) := sdX7_left_108.2.1
theorem dX7_left_110 : decode cX7_left 110 = .ok (.getfield 47, 3) := sdX7_left_108.2.2.1
theorem dX7_left_113 : decode cX7_left 113 = .ok (.aload_n 0, 1) := sdX7_left_108.2.2.2.1
theorem dX7_left_114 : decode cX7_left 114 = .ok (.getfield 40, 3) := sdX7_left_108.2.2.2.2.1
theorem dX7_left_117 : decode cX7_left 117 = .ok (.iload_n 2, 1) := sdX7_left_108.2.2.2.2.2.1
theorem dX7_left_118 : decode cX7_left 118 = .ok (.invokevirtual 262, 3) := sdX7_left_108.2.2.2.2.2.2.1
theorem dX7_left_121 : decode cX7_left 121 = .ok (.invokevirtual 134, 3) := sdX7_left_108.2.2.2.2.2.2.2.1
theorem sdX7_left_124 : dz_Seg cX7_left [(124, .ireturn, 1), (125, .aload_n 0, 1), (126, .getfield 47, 3), (129, .aload_n 0, 1), (130, .getfield 40, 3), (133, .iload_n 2, 1), (134, .invokevirtual 266, 3), (137, .istore 4, 2)] := dz_sg _ 124 (by decide +kernel)
theorem dX7_left_124 : decode cX7_left 124 = .ok (.ireturn, 1) := sdX7_left_124.1
theorem dX7_left_125 : decode cX7_left 125 = .ok (.aload_n 0, 1) := sdX7_left_124.2.1
theorem dX7_left_126 : decode cX7_left 126 = .ok (.getfield 47, 3) := sdX7_left_124.2.2.1
theorem dX7_left_129 : decode cX7_left 129 = .ok (.aload_n 0, 1) := sdX7_left_124.2.2.2.1
theorem dX7_left_130 : decode cX7_left 130 = .ok (.getfield 40, 3) := sdX7_left_124.2.2.2.2.1
theorem dX7_left_133 : decode cX7_left 133 = .ok (.iload_n 2, 1) := sdX7_left_124.2.2.2.2.2.1
theorem dX7_left_134 : decode cX7_left 134 = .ok (.invokevirtual 266, 3) := sdX7_left_124.2.2.2.2.2.2.1
theorem dX7_left_137 : decode cX7_left 137 = .ok (.istore 4, 2) := sdX7_left_124.2.2.2.2.2.2.2.1
theorem sdX7_left_139 : dz_Seg cX7_left [(139, .iload 4, 2), (141, .iconst (-1), 1), (142, .if_icmp .ne 11, 3), (145, .aload_n 0, 1), (146, .iconst 5, 1), (147, .invokevirtual 102, 3), (150, .goto 9, 3), (153, .aload_n 0, 1)] := dz_sg _ 139 (by decide +kernel)
theorem dX7_left_139 : decode cX7_left 139 = .ok (.iload 4, 2) := sdX7_left_139.1
theorem dX7_left_141 : decode cX7_left 141 = .ok (.iconst (-1), 1) := sdX7_left_139.2.1
theorem dX7_left_142 : decode cX7_left 142 = .ok (.if_icmp .ne 11, 3) := sdX7_left_139.2.2.1
theorem dX7_left_145 : decode cX7_left 145 = .ok (.aload_n 0, 1) := sdX7_left_139.2.2.2.1
theorem dX7_left_146 : decode cX7_left 146 = .ok (.iconst 5, 1) := sdX7_left_139.2.2.2.2.1
theorem dX7_left_147 : decode cX7_left 147 = .ok (.invokevirtual 102, 3) := sdX7_left_139.2.2.2.2.2.1
theorem dX7_left_150 : decode cX7_left 150 = .ok (.goto 9, 3) := sdX7_left_139.2.2.2.2.2.2.1
theorem dX7_left_153 : decode cX7_left 153 = .ok (.aload_n 0, 1) := sdX7_left_139.2.2.2.2.2.2.2.1
theorem sdX7_left_154 : dz_Seg cX7_left [(154, .iload 4, 2), (156, .invokevirtual 134, 3), (159, .ireturn, 1)] := dz_sg _ 154 (by decide +kernel)
theorem dX7_left_154 : decode cX7_left 154 = .ok (.iload 4, 2) := sdX7_left_154.1
theorem dX7_left_156 : decode cX7_left 156 = .ok (.invokevirtual 134, 3) := sdX7_left_154.2.1
theorem dX7_left_159 : decode cX7_left 159 = .ok (.ireturn, 1) := sdX7_left_154.2.2.1
theorem sdX7_winners_0 : dz_Seg cX7_winners [(0, .iload_n 1, 1), (1, .invokestatic 237, 3), (4, .ifCond .ne 9, 3), (7, .aload_n 0, 1), (8, .iconst 1, 1), (9, .invokevirtual 102, 3), (12, .ireturn, 1), (13, .aload_n 0, 1)] := dz_sg _ 0 (by decide +kernel)
theorem dX7_winners_0 : decode cX7_winners 0 = .ok (.iload_n 1, 1) := sdX7_winners_0.1
theorem dX7_winners_1 : decode cX7_winners 1 = .ok (.invokestatic 237, 3) := sdX7_winners_0.2.1
theorem dX7_winners_4 : decode cX7_winners 4 = .ok (.ifCond .ne 9, 3) := sdX7_winners_0.2.2.1
theorem dX7_winners_7 : decode cX7_winners 7 = .ok (.aload_n 0, 1) := sdX7_winners_0.2.2.2.1
theorem dX7_winners_8 : decode cX7_winners 8 = .ok (.iconst 1, 1) := sdX7_winners_0.2.2.2.2.1
theorem dX7_winners_9 : decode cX7_winners 9 = .ok (.invokevirtual 102, 3) := sdX7_winners_0.2.2.2.2.2.1
theorem dX7_winners_12 : decode cX7_winners 12 = .ok (.ireturn, 1) := sdX7_winners_0.2.2.2.2.2.2.1
theorem dX7_winners_13 : decode cX7_winners 13 = .ok (.aload_n 0, 1) := sdX7_winners_0.2.2.2.2.2.2.2.1
theorem sdX7_winners_14 : dz_Seg cX7_winners [(14, .getfield 47, 3), (17, .aload_n 0, 1), (18, .getfield 40, 3), (21, .iload_n 1, 1), (22, .invokevirtual 247, 3), (25, .iconst 0, 1), (26, .istore_n 2, 1), (27, .iconst 0, 1)] := dz_sg _ 14 (by decide +kernel)
theorem dX7_winners_14 : decode cX7_winners 14 = .ok (.getfield 47, 3) := sdX7_winners_14.1
theorem dX7_winners_17 : decode cX7_winners 17 = .ok (.aload_n 0, 1) := sdX7_winners_14.2.1
theorem dX7_winners_18 : decode cX7_winners 18 = .ok (.getfield 40, 3) := sdX7_winners_14.2.2.1
theorem dX7_winners_21 : decode cX7_winners 21 = .ok (.iload_n 1, 1) := sdX7_winners_14.2.2.2.1
theorem dX7_winners_22 : decode cX7_winners 22 = .ok (.invokevirtual 247, 3) := sdX7_winners_14.2.2.2.2.1
theorem dX7_winners_25 : decode cX7_winners 25 = .ok (.iconst 0, 1) := sdX7_winners_14.2.2.2.2.2.1
theorem dX7_winners_26 : decode cX7_winners 26 = .ok (.istore_n 2, 1) := sdX7_winners_14.2.2.2.2.2.2.1
theorem dX7_winners_27 : decode cX7_winners 27 = .ok (.iconst 0, 1) := sdX7_winners_14.2.2.2.2.2.2.2.1
theorem sdX7_winners_28 : dz_Seg cX7_winners [(28, .istore_n 3, 1), (29, .iload_n 3, 1), (30, .aload_n 0, 1), (31, .getfield 40, 3), (34, .getfield 140, 3), (37, .if_icmp .ge 38, 3), (40, .aload_n 0, 1), (41, .getfield 47, 3)] := dz_sg _ 28 (by decide +kernel)
theorem dX7_winners_28 : decode cX7_winners 28 = .ok (.istore_n 3, 1) := sdX7_winners_28.1
theorem dX7_winners_29 : decode cX7_winners 29 = .ok (.iload_n 3, 1) := sdX7_winners_28.2.1
theorem dX7_winners_30 : decode cX7_winners 30 = .ok (.aload_n 0, 1) := sdX7_winners_28.2.2.1
theorem dX7_winners_31 : decode cX7_winners 31 = .ok (.getfield 40, 3) := sdX7_winners_28.2.2.2.1
theorem dX7_winners_34 : decode cX7_winners 34 = .ok (.getfield 140, 3) := sdX7_winners_28.2.2.2.2.1
theorem dX7_winners_37 : decode cX7_winners 37 = .ok (.if_icmp .ge 38, 3) := sdX7_winners_28.2.2.2.2.2.1
theorem dX7_winners_40 : decode cX7_winners 40 = .ok (.aload_n 0, 1) := sdX7_winners_28.2.2.2.2.2.2.1
theorem dX7_winners_41 : decode cX7_winners 41 = .ok (.getfield 47, 3) := sdX7_winners_28.2.2.2.2.2.2.2.1
theorem sdX7_winners_44 : dz_Seg cX7_winners [(44, .getfield 250, 3), (47, .iload_n 3, 1), (48, .invokestatic 175, 3), (51, .iconst (-1), 1), (52, .if_icmp .eq 17, 3), (55, .iload_n 2, 1), (56, .aload_n 0, 1), (57, .getfield 40, 3)] := dz_sg _ 44 (by decide +kernel)
theorem dX7_winners_44 : decode cX7_winners 44 = .ok (.getfield 250, 3) := sdX7_winners_44.1
theorem dX7_winners_47 : decode cX7_winners 47 = .ok (.iload_n 3, 1) := sdX7_winners_44.2.1
theorem dX7_winners_48 : decode cX7_winners 48 = .ok (.invokestatic 175, 3) := sdX7_winners_44.2.2.1
theorem dX7_winners_51 : decode cX7_winners 51 = .ok (.iconst (-1), 1) := sdX7_winners_44.2.2.2.1
theorem dX7_winners_52 : decode cX7_winners 52 = .ok (.if_icmp .eq 17, 3) := sdX7_winners_44.2.2.2.2.1
theorem dX7_winners_55 : decode cX7_winners 55 = .ok (.iload_n 2, 1) := sdX7_winners_44.2.2.2.2.2.1
theorem dX7_winners_56 : decode cX7_winners 56 = .ok (.aload_n 0, 1) := sdX7_winners_44.2.2.2.2.2.2.1
theorem dX7_winners_57 : decode cX7_winners 57 = .ok (.getfield 40, 3) := sdX7_winners_44.2.2.2.2.2.2.2.1
theorem sdX7_winners_60 : dz_Seg cX7_winners [(60, .getfield 222, 3), (63, .iload_n 3, 1), (64, .invokestatic 175, 3), (67, .ior, 1), (68, .istore_n 2, 1), (69, .iinc 3 1, 3), (72, .goto (-43), 3), (75, .aload_n 0, 1)] := dz_sg _ 60 (by decide +kernel)
theorem dX7_winners_60 : decode cX7_winners 60 = .ok (.getfield 222, 3) := sdX7_winners_60.1
theorem dX7_winners_63 : decode cX7_winners 63 = .ok (.iload_n 3, 1) := sdX7_winners_60.2.1
theorem dX7_winners_64 : decode cX7_winners 64 = .ok (.invokestatic 175, 3) := sdX7_winners_60.2.2.1
theorem dX7_winners_67 : decode cX7_winners 67 = .ok (.ior, 1) := sdX7_winners_60.2.2.2.1
theorem dX7_winners_68 : decode cX7_winners 68 = .ok (.istore_n 2, 1) := sdX7_winners_60.2.2.2.2.1
theorem dX7_winners_69 : decode cX7_winners 69 = .ok (.iinc 3 1, 3) := sdX7_winners_60.2.2.2.2.2.1
theorem dX7_winners_72 : decode cX7_winners 72 = .ok (.goto (-43), 3) := sdX7_winners_60.2.2.2.2.2.2.1
theorem dX7_winners_75 : decode cX7_winners 75 = .ok (.aload_n 0, 1) := sdX7_winners_60.2.2.2.2.2.2.2.1
theorem sdX7_winners_76 : dz_Seg cX7_winners [(76, .iload_n 2, 1), (77, .invokevirtual 134, 3), (80, .ireturn, 1)] := dz_sg _ 76 (by decide +kernel)
theorem dX7_winners_76 : decode cX7_winners 76 = .ok (.iload_n 2, 1) := sdX7_winners_76.1
theorem dX7_winners_77 : decode cX7_winners 77 = .ok (.invokevirtual 134, 3) := sdX7_winners_76.2.1
theorem dX7_winners_80 : decode cX7_winners 80 = .ok (.ireturn, 1) := sdX7_winners_76.2.2.1
theorem sdX7_waits_0 : dz_Seg cX7_waits [(0, .iload_n 1, 1), (1, .invokestatic 237, 3), (4, .ifCond .eq 8, 3), (7, .iload_n 3, 1), (8, .iconst (-1), 1), (9, .if_icmp .ge 9, 3), (12, .aload_n 0, 1), (13, .iconst 1, 1)] := dz_sg _ 0 (by decide +kernel)
theorem dX7_waits_0 : decode cX7_waits 0 = .ok (.iload_n 1, 1) := sdX7_waits_0.1
theorem dX7_waits_1 : decode cX7_waits 1 = .ok (.invokestatic 237, 3) := sdX7_waits_0.2.1
theorem dX7_waits_4 : decode cX7_waits 4 = .ok (.ifCond .eq 8, 3) := sdX7_waits_0.2.2.1
theorem dX7_waits_7 : decode cX7_waits 7 = .ok (.iload_n 3, 1) := sdX7_waits_0.2.2.2.1
theorem dX7_waits_8 : decode cX7_waits 8 = .ok (.iconst (-1), 1) := sdX7_waits_0.2.2.2.2.1
theorem dX7_waits_9 : decode cX7_waits 9 = .ok (.if_icmp .ge 9, 3) := sdX7_waits_0.2.2.2.2.2.1
theorem dX7_waits_12 : decode cX7_waits 12 = .ok (.aload_n 0, 1) := sdX7_waits_0.2.2.2.2.2.2.1
theorem dX7_waits_13 : decode cX7_waits 13 = .ok (.iconst 1, 1) := sdX7_waits_0.2.2.2.2.2.2.2.1
theorem sdX7_waits_14 : dz_Seg cX7_waits [(14, .invokevirtual 102, 3), (17, .ireturn, 1), (18, .aload_n 0, 1), (19, .iload_n 2, 1), (20, .invokevirtual 188, 3), (23, .ifCond .ne 9, 3), (26, .aload_n 0, 1), (27, .iconst 2, 1)] := dz_sg _ 14 (by decide +kernel)
theorem dX7_waits_14 : decode cX7_waits 14 = .ok (.invokevirtual 102, 3) := sdX7_waits_14.1
theorem dX7_waits_17 : decode cX7_waits 17 = .ok (.ireturn, 1) := sdX7_waits_14.2.1
theorem dX7_waits_18 : decode cX7_waits 18 = .ok (.aload_n 0, 1) := sdX7_waits_14.2.2.1
theorem dX7_waits_19 : decode cX7_waits 19 = .ok (.iload_n 2, 1) := sdX7_waits_14.2.2.2.1
theorem dX7_waits_20 : decode cX7_waits 20 = .ok (.invokevirtual 188, 3) := sdX7_waits_14.2.2.2.2.1
theorem dX7_waits_23 : decode cX7_waits 23 = .ok (.ifCond .ne 9, 3) := sdX7_waits_14.2.2.2.2.2.1
theorem dX7_waits_26 : decode cX7_waits 26 = .ok (.aload_n 0, 1) := sdX7_waits_14.2.2.2.2.2.2.1
theorem dX7_waits_27 : decode cX7_waits 27 = .ok (.iconst 2, 1) := sdX7_waits_14.2.2.2.2.2.2.2.1
theorem sdX7_waits_28 : dz_Seg cX7_waits [(28, .invokevirtual 102, 3), (31, .ireturn, 1), (32, .aload_n 0, 1), (33, .getfield 47, 3), (36, .aload_n 0, 1), (37, .getfield 40, 3), (40, .iload_n 1, 1), (41, .invokevirtual 247, 3)] := dz_sg _ 28 (by decide +kernel)
theorem dX7_waits_28 : decode cX7_waits 28 = .ok (.invokevirtual 102, 3) := sdX7_waits_28.1
theorem dX7_waits_31 : decode cX7_waits 31 = .ok (.ireturn, 1) := sdX7_waits_28.2.1
theorem dX7_waits_32 : decode cX7_waits 32 = .ok (.aload_n 0, 1) := sdX7_waits_28.2.2.1
theorem dX7_waits_33 : decode cX7_waits 33 = .ok (.getfield 47, 3) := sdX7_waits_28.2.2.2.1
theorem dX7_waits_36 : decode cX7_waits 36 = .ok (.aload_n 0, 1) := sdX7_waits_28.2.2.2.2.1
theorem dX7_waits_37 : decode cX7_waits 37 = .ok (.getfield 40, 3) := sdX7_waits_28.2.2.2.2.2.1
theorem dX7_waits_40 : decode cX7_waits 40 = .ok (.iload_n 1, 1) := sdX7_waits_28.2.2.2.2.2.2.1
theorem dX7_waits_41 : decode cX7_waits 41 = .ok (.invokevirtual 247, 3) := sdX7_waits_28.2.2.2.2.2.2.2.1
theorem sdX7_waits_44 : dz_Seg cX7_waits [(44, .iconst 0, 1), (45, .istore 4, 2), (47, .iconst 0, 1), (48, .istore 5, 2), (50, .iload 5, 2), (52, .aload_n 0, 1), (53, .getfield 40, 3), (56, .getfield 140, 3)] := dz_sg _ 44 (by decide +kernel)
theorem dX7_waits_44 : decode cX7_waits 44 = .ok (.iconst 0, 1) := sdX7_waits_44.1
theorem dX7_waits_45 : decode cX7_waits 45 = .ok (.istore 4, 2) := sdX7_waits_44.2.1
theorem dX7_waits_47 : decode cX7_waits 47 = .ok (.iconst 0, 1) := sdX7_waits_44.2.2.1
theorem dX7_waits_48 : decode cX7_waits 48 = .ok (.istore 5, 2) := sdX7_waits_44.2.2.2.1
theorem dX7_waits_50 : decode cX7_waits 50 = .ok (.iload 5, 2) := sdX7_waits_44.2.2.2.2.1
theorem dX7_waits_52 : decode cX7_waits 52 = .ok (.aload_n 0, 1) := sdX7_waits_44.2.2.2.2.2.1
theorem dX7_waits_53 : decode cX7_waits 53 = .ok (.getfield 40, 3) := sdX7_waits_44.2.2.2.2.2.2.1
theorem dX7_waits_56 : decode cX7_waits 56 = .ok (.getfield 140, 3) := sdX7_waits_44.2.2.2.2.2.2.2.1
theorem sdX7_waits_59 : dz_Seg cX7_waits [(59, .if_icmp .ge 59, 3), (62, .aload_n 0, 1), (63, .getfield 47, 3), (66, .getfield 244, 3), (69, .iload 5, 2), (71, .invokestatic 175, 3), (74, .istore 6, 2), (76, .aload_n 0, 1)] := dz_sg _ 59 (by decide +kernel)
theorem dX7_waits_59 : decode cX7_waits 59 = .ok (.if_icmp .ge 59, 3) := sdX7_waits_59.1
theorem dX7_waits_62 : decode cX7_waits 62 = .ok (.aload_n 0, 1) := sdX7_waits_59.2.1
theorem dX7_waits_63 : decode cX7_waits 63 = .ok (.getfield 47, 3) := sdX7_waits_59.2.2.1
theorem dX7_waits_66 : decode cX7_waits 66 = .ok (.getfield 244, 3) := sdX7_waits_59.2.2.2.1
theorem dX7_waits_69 : decode cX7_waits 69 = .ok (.iload 5, 2) := sdX7_waits_59.2.2.2.2.1
theorem dX7_waits_71 : decode cX7_waits 71 = .ok (.invokestatic 175, 3) := sdX7_waits_59.2.2.2.2.2.1
theorem dX7_waits_74 : decode cX7_waits 74 = .ok (.istore 6, 2) := sdX7_waits_59.2.2.2.2.2.2.1
theorem dX7_waits_76 : decode cX7_waits 76 = .ok (.aload_n 0, 1) := sdX7_waits_59.2.2.2.2.2.2.2.1
theorem sdX7_waits_77 : dz_Seg cX7_waits [(77, .getfield 47, 3), (80, .aload_n 0, 1), (81, .getfield 40, 3), (84, .iload 6, 2), (86, .iload_n 2, 1), (87, .invokevirtual 269, 3), (90, .ifCond .ne 6, 3), (93, .goto 19, 3)] := dz_sg _ 77 (by decide +kernel)
theorem dX7_waits_77 : decode cX7_waits 77 = .ok (.getfield 47, 3) := sdX7_waits_77.1
theorem dX7_waits_80 : decode cX7_waits 80 = .ok (.aload_n 0, 1) := sdX7_waits_77.2.1
theorem dX7_waits_81 : decode cX7_waits 81 = .ok (.getfield 40, 3) := sdX7_waits_77.2.2.1
theorem dX7_waits_84 : decode cX7_waits 84 = .ok (.iload 6, 2) := sdX7_waits_77.2.2.2.1
theorem dX7_waits_86 : decode cX7_waits 86 = .ok (.iload_n 2, 1) := sdX7_waits_77.2.2.2.2.1
theorem dX7_waits_87 : decode cX7_waits 87 = .ok (.invokevirtual 269, 3) := sdX7_waits_77.2.2.2.2.2.1
theorem dX7_waits_90 : decode cX7_waits 90 = .ok (.ifCond .ne 6, 3) := sdX7_waits_77.2.2.2.2.2.2.1
theorem dX7_waits_93 : decode cX7_waits 93 = .ok (.goto 19, 3) := sdX7_waits_77.2.2.2.2.2.2.2.1
theorem sdX7_waits_96 : dz_Seg cX7_waits [(96, .iload 4, 2), (98, .iload_n 3, 1), (99, .if_icmp .ne 10, 3), (102, .aload_n 0, 1), (103, .iload 6, 2), (105, .invokevirtual 134, 3), (108, .ireturn, 1), (109, .iinc 4 1, 3)] := dz_sg _ 96 (by decide +kernel)
theorem dX7_waits_96 : decode cX7_waits 96 = .ok (.iload 4, 2) := sdX7_waits_96.1
theorem dX7_waits_98 : decode cX7_waits 98 = .ok (.iload_n 3, 1) := sdX7_waits_96.2.1
theorem dX7_waits_99 : decode cX7_waits 99 = .ok (.if_icmp .ne 10, 3) := sdX7_waits_96.2.2.1
theorem dX7_waits_102 : decode cX7_waits 102 = .ok (.aload_n 0, 1) := sdX7_waits_96.2.2.2.1
theorem dX7_waits_103 : decode cX7_waits 103 = .ok (.iload 6, 2) := sdX7_waits_96.2.2.2.2.1
theorem dX7_waits_105 : decode cX7_waits 105 = .ok (.invokevirtual 134, 3) := sdX7_waits_96.2.2.2.2.2.1
theorem dX7_waits_108 : decode cX7_waits 108 = .ok (.ireturn, 1) := sdX7_waits_96.2.2.2.2.2.2.1
theorem dX7_waits_109 : decode cX7_waits 109 = .ok (.iinc 4 1, 3) := sdX7_waits_96.2.2.2.2.2.2.2.1
theorem sdX7_waits_112 : dz_Seg cX7_waits [(112, .iinc 5 1, 3), (115, .goto (-65), 3), (118, .iload_n 3, 1), (119, .iconst (-1), 1), (120, .if_icmp .ne 12, 3), (123, .aload_n 0, 1), (124, .iload 4, 2), (126, .invokevirtual 134, 3)] := dz_sg _ 112 (by decide +kernel)
theorem dX7_waits_112 : decode cX7_waits 112 = .ok (.iinc 5 1, 3) := sdX7_waits_112.1
theorem dX7_waits_115 : decode cX7_waits 115 = .ok (.goto (-65), 3) := sdX7_waits_112.2.1
theorem dX7_waits_118 : decode cX7_waits 118 = .ok (.iload_n 3, 1) := sdX7_waits_112.2.2.1
theorem dX7_waits_119 : decode cX7_waits 119 = .ok (.iconst (-1), 1) := sdX7_waits_112.2.2.2.1
theorem dX7_waits_120 : decode cX7_waits 120 = .ok (.if_icmp .ne 12, 3) := sdX7_waits_112.2.2.2.2.1
theorem dX7_waits_123 : decode cX7_waits 123 = .ok (.aload_n 0, 1) := sdX7_waits_112.2.2.2.2.2.1
theorem dX7_waits_124 : decode cX7_waits 124 = .ok (.iload 4, 2) := sdX7_waits_112.2.2.2.2.2.2.1
theorem dX7_waits_126 : decode cX7_waits 126 = .ok (.invokevirtual 134, 3) := sdX7_waits_112.2.2.2.2.2.2.2.1
theorem sdX7_waits_129 : dz_Seg cX7_waits [(129, .goto 8, 3), (132, .aload_n 0, 1), (133, .iconst 5, 1), (134, .invokevirtual 102, 3), (137, .ireturn, 1)] := dz_sg _ 129 (by decide +kernel)
theorem dX7_waits_129 : decode cX7_waits 129 = .ok (.goto 8, 3) := sdX7_waits_129.1
theorem dX7_waits_132 : decode cX7_waits 132 = .ok (.aload_n 0, 1) := sdX7_waits_129.2.1
theorem dX7_waits_133 : decode cX7_waits 133 = .ok (.iconst 5, 1) := sdX7_waits_129.2.2.1
theorem dX7_waits_134 : decode cX7_waits 134 = .ok (.invokevirtual 102, 3) := sdX7_waits_129.2.2.2.1
theorem dX7_waits_137 : decode cX7_waits 137 = .ok (.ireturn, 1) := sdX7_waits_129.2.2.2.2.1
theorem sdX7_next_0 : dz_Seg cX7_next [(0, .iload_n 1, 1), (1, .invokestatic 237, 3), (4, .ifCond .eq 13, 3), (7, .iload_n 3, 1), (8, .ifCond .lt 9, 3), (11, .iload_n 3, 1), (12, .bipush 20, 2), (14, .if_icmp .le 9, 3)] := dz_sg _ 0 (by decide +kernel)
theorem dX7_next_0 : decode cX7_next 0 = .ok (.iload_n 1, 1) := sdX7_next_0.1
theorem dX7_next_1 : decode cX7_next 1 = .ok (.invokestatic 237, 3) := sdX7_next_0.2.1
theorem dX7_next_4 : decode cX7_next 4 = .ok (.ifCond .eq 13, 3) := sdX7_next_0.2.2.1
theorem dX7_next_7 : decode cX7_next 7 = .ok (.iload_n 3, 1) := sdX7_next_0.2.2.2.1
theorem dX7_next_8 : decode cX7_next 8 = .ok (.ifCond .lt 9, 3) := sdX7_next_0.2.2.2.2.1
theorem dX7_next_11 : decode cX7_next 11 = .ok (.iload_n 3, 1) := sdX7_next_0.2.2.2.2.2.1
theorem dX7_next_12 : decode cX7_next 12 = .ok (.bipush 20, 2) := sdX7_next_0.2.2.2.2.2.2.1
theorem dX7_next_14 : decode cX7_next 14 = .ok (.if_icmp .le 9, 3) := sdX7_next_0.2.2.2.2.2.2.2.1
theorem sdX7_next_17 : dz_Seg cX7_next [(17, .aload_n 0, 1), (18, .iconst 1, 1), (19, .invokevirtual 102, 3), (22, .ireturn, 1), (23, .aload_n 0, 1), (24, .iload_n 2, 1), (25, .invokevirtual 188, 3), (28, .ifCond .ne 9, 3)] := dz_sg _ 17 (by decide +kernel)
theorem dX7_next_17 : decode cX7_next 17 = .ok (.aload_n 0, 1) := sdX7_next_17.1
theorem dX7_next_18 : decode cX7_next 18 = .ok (.iconst 1, 1) := sdX7_next_17.2.1
theorem dX7_next_19 : decode cX7_next 19 = .ok (.invokevirtual 102, 3) := sdX7_next_17.2.2.1
theorem dX7_next_22 : decode cX7_next 22 = .ok (.ireturn, 1) := sdX7_next_17.2.2.2.1
theorem dX7_next_23 : decode cX7_next 23 = .ok (.aload_n 0, 1) := sdX7_next_17.2.2.2.2.1
theorem dX7_next_24 : decode cX7_next 24 = .ok (.iload_n 2, 1) := sdX7_next_17.2.2.2.2.2.1
theorem dX7_next_25 : decode cX7_next 25 = .ok (.invokevirtual 188, 3) := sdX7_next_17.2.2.2.2.2.2.1
theorem dX7_next_28 : decode cX7_next 28 = .ok (.ifCond .ne 9, 3) := sdX7_next_17.2.2.2.2.2.2.2.1
theorem sdX7_next_31 : dz_Seg cX7_next [(31, .aload_n 0, 1), (32, .iconst 2, 1), (33, .invokevirtual 102, 3), (36, .ireturn, 1), (37, .aload_n 0, 1), (38, .getfield 47, 3), (41, .aload_n 0, 1), (42, .getfield 40, 3)] := dz_sg _ 31 (by decide +kernel)
theorem dX7_next_31 : decode cX7_next 31 = .ok (.aload_n 0, 1) := sdX7_next_31.1
theorem dX7_next_32 : decode cX7_next 32 = .ok (.iconst 2, 1) := sdX7_next_31.2.1
theorem dX7_next_33 : decode cX7_next 33 = .ok (.invokevirtual 102, 3) := sdX7_next_31.2.2.1
theorem dX7_next_36 : decode cX7_next 36 = .ok (.ireturn, 1) := sdX7_next_31.2.2.2.1
theorem dX7_next_37 : decode cX7_next 37 = .ok (.aload_n 0, 1) := sdX7_next_31.2.2.2.2.1
theorem dX7_next_38 : decode cX7_next 38 = .ok (.getfield 47, 3) := sdX7_next_31.2.2.2.2.2.1
theorem dX7_next_41 : decode cX7_next 41 = .ok (.aload_n 0, 1) := sdX7_next_31.2.2.2.2.2.2.1
theorem dX7_next_42 : decode cX7_next 42 = .ok (.getfield 40, 3) := sdX7_next_31.2.2.2.2.2.2.2.1
theorem sdX7_next_45 : dz_Seg cX7_next [(45, .iload_n 1, 1), (46, .invokevirtual 247, 3), (49, .aload_n 0, 1), (50, .getfield 47, 3), (53, .getfield 256, 3), (56, .iload_n 2, 1), (57, .invokestatic 175, 3), (60, .iload_n 3, 1)] := dz_sg _ 45 (by decide +kernel)
theorem dX7_next_45 : decode cX7_next 45 = .ok (.iload_n 1, 1) := sdX7_next_45.1
theorem dX7_next_46 : decode cX7_next 46 = .ok (.invokevirtual 247, 3) := sdX7_next_45.2.1
theorem dX7_next_49 : decode cX7_next 49 = .ok (.aload_n 0, 1) := sdX7_next_45.2.2.1
theorem dX7_next_50 : decode cX7_next 50 = .ok (.getfield 47, 3) := sdX7_next_45.2.2.2.1
theorem dX7_next_53 : decode cX7_next 53 = .ok (.getfield 256, 3) := sdX7_next_45.2.2.2.2.1
theorem dX7_next_56 : decode cX7_next 56 = .ok (.iload_n 2, 1) := sdX7_next_45.2.2.2.2.2.1
theorem dX7_next_57 : decode cX7_next 57 = .ok (.invokestatic 175, 3) := sdX7_next_45.2.2.2.2.2.2.1
theorem dX7_next_60 : decode cX7_next 60 = .ok (.iload_n 3, 1) := sdX7_next_45.2.2.2.2.2.2.2.1
theorem sdX7_next_61 : dz_Seg cX7_next [(61, .iadd, 1), (62, .istore 4, 2), (64, .aload_n 0, 1), (65, .getfield 47, 3), (68, .getfield 259, 3), (71, .iload_n 2, 1), (72, .invokestatic 175, 3), (75, .iload_n 3, 1)] := dz_sg _ 61 (by decide +kernel)
theorem dX7_next_61 : decode cX7_next 61 = .ok (.iadd, 1) := sdX7_next_61.1
theorem dX7_next_62 : decode cX7_next 62 = .ok (.istore 4, 2) := sdX7_next_61.2.1
theorem dX7_next_64 : decode cX7_next 64 = .ok (.aload_n 0, 1) := sdX7_next_61.2.2.1
theorem dX7_next_65 : decode cX7_next 65 = .ok (.getfield 47, 3) := sdX7_next_61.2.2.2.1
theorem dX7_next_68 : decode cX7_next 68 = .ok (.getfield 259, 3) := sdX7_next_61.2.2.2.2.1
theorem dX7_next_71 : decode cX7_next 71 = .ok (.iload_n 2, 1) := sdX7_next_61.2.2.2.2.2.1
theorem dX7_next_72 : decode cX7_next 72 = .ok (.invokestatic 175, 3) := sdX7_next_61.2.2.2.2.2.2.1
theorem dX7_next_75 : decode cX7_next 75 = .ok (.iload_n 3, 1) := sdX7_next_61.2.2.2.2.2.2.2.1
theorem sdX7_next_76 : dz_Seg cX7_next [(76, .iadd, 1), (77, .istore 5, 2), (79, .iconst 0, 1), (80, .istore 6, 2), (82, .iload 6, 2), (84, .aload_n 0, 1), (85, .getfield 40, 3), (88, .getfield 140, 3)] := dz_sg _ 76 (by decide +kernel)
theorem dX7_next_76 : decode cX7_next 76 = .ok (.iadd, 1) := sdX7_next_76.1
theorem dX7_next_77 : decode cX7_next 77 = .ok (.istore 5, 2) := sdX7_next_76.2.1
theorem dX7_next_79 : decode cX7_next 79 = .ok (.iconst 0, 1) := sdX7_next_76.2.2.1
theorem dX7_next_80 : decode cX7_next 80 = .ok (.istore 6, 2) := sdX7_next_76.2.2.2.1
theorem dX7_next_82 : decode cX7_next 82 = .ok (.iload 6, 2) := sdX7_next_76.2.2.2.2.1
theorem dX7_next_84 : decode cX7_next 84 = .ok (.aload_n 0, 1) := sdX7_next_76.2.2.2.2.2.1
theorem dX7_next_85 : decode cX7_next 85 = .ok (.getfield 40, 3) := sdX7_next_76.2.2.2.2.2.2.1
theorem dX7_next_88 : decode cX7_next 88 = .ok (.getfield 140, 3) := sdX7_next_76.2.2.2.2.2.2.2.1
theorem sdX7_next_91 : dz_Seg cX7_next [(91, .if_icmp .ge 63, 3), (94, .aload_n 0, 1), (95, .getfield 47, 3), (98, .getfield 244, 3), (101, .iload 6, 2), (103, .invokestatic 175, 3), (106, .istore 7, 2), (108, .aload_n 0, 1)] := dz_sg _ 91 (by decide +kernel)
theorem dX7_next_91 : decode cX7_next 91 = .ok (.if_icmp .ge 63, 3) := sdX7_next_91.1
theorem dX7_next_94 : decode cX7_next 94 = .ok (.aload_n 0, 1) := sdX7_next_91.2.1
theorem dX7_next_95 : decode cX7_next 95 = .ok (.getfield 47, 3) := sdX7_next_91.2.2.1
theorem dX7_next_98 : decode cX7_next 98 = .ok (.getfield 244, 3) := sdX7_next_91.2.2.2.1
theorem dX7_next_101 : decode cX7_next 101 = .ok (.iload 6, 2) := sdX7_next_91.2.2.2.2.1
theorem dX7_next_103 : decode cX7_next 103 = .ok (.invokestatic 175, 3) := sdX7_next_91.2.2.2.2.2.1
theorem dX7_next_106 : decode cX7_next 106 = .ok (.istore 7, 2) := sdX7_next_91.2.2.2.2.2.2.1
theorem dX7_next_108 : decode cX7_next 108 = .ok (.aload_n 0, 1) := sdX7_next_91.2.2.2.2.2.2.2.1
theorem sdX7_next_109 : dz_Seg cX7_next [(109, .getfield 47, 3), (112, .aload_n 0, 1), (113, .getfield 40, 3), (116, .iload 7, 2), (118, .iload_n 2, 1), (119, .invokevirtual 269, 3), (122, .ifCond .eq 26, 3), (125, .aload_n 0, 1)] := dz_sg _ 109 (by decide +kernel)
theorem dX7_next_109 : decode cX7_next 109 = .ok (.getfield 47, 3) := sdX7_next_109.1
theorem dX7_next_112 : decode cX7_next 112 = .ok (.aload_n 0, 1) := sdX7_next_109.2.1
theorem dX7_next_113 : decode cX7_next 113 = .ok (.getfield 40, 3) := sdX7_next_109.2.2.1
theorem dX7_next_116 : decode cX7_next 116 = .ok (.iload 7, 2) := sdX7_next_109.2.2.2.1
theorem dX7_next_118 : decode cX7_next 118 = .ok (.iload_n 2, 1) := sdX7_next_109.2.2.2.2.1
theorem dX7_next_119 : decode cX7_next 119 = .ok (.invokevirtual 269, 3) := sdX7_next_109.2.2.2.2.2.1
theorem dX7_next_122 : decode cX7_next 122 = .ok (.ifCond .eq 26, 3) := sdX7_next_109.2.2.2.2.2.2.1
theorem dX7_next_125 : decode cX7_next 125 = .ok (.aload_n 0, 1) := sdX7_next_109.2.2.2.2.2.2.2.1
theorem sdX7_next_126 : dz_Seg cX7_next [(126, .getfield 40, 3), (129, .iload 7, 2), (131, .iload 4, 2), (133, .iload 5, 2), (135, .invokevirtual 273, 3), (138, .ifCond .eq 10, 3), (141, .aload_n 0, 1), (142, .iload 7, 2)] := dz_sg _ 126 (by decide +kernel)
theorem dX7_next_126 : decode cX7_next 126 = .ok (.getfield 40, 3) := sdX7_next_126.1
theorem dX7_next_129 : decode cX7_next 129 = .ok (.iload 7, 2) := sdX7_next_126.2.1
theorem dX7_next_131 : decode cX7_next 131 = .ok (.iload 4, 2) := sdX7_next_126.2.2.1
theorem dX7_next_133 : decode cX7_next 133 = .ok (.iload 5, 2) := sdX7_next_126.2.2.2.1
theorem dX7_next_135 : decode cX7_next 135 = .ok (.invokevirtual 273, 3) := sdX7_next_126.2.2.2.2.1
theorem dX7_next_138 : decode cX7_next 138 = .ok (.ifCond .eq 10, 3) := sdX7_next_126.2.2.2.2.2.1
theorem dX7_next_141 : decode cX7_next 141 = .ok (.aload_n 0, 1) := sdX7_next_126.2.2.2.2.2.2.1
theorem dX7_next_142 : decode cX7_next 142 = .ok (.iload 7, 2) := sdX7_next_126.2.2.2.2.2.2.2.1
theorem sdX7_next_144 : dz_Seg cX7_next [(144, .invokevirtual 134, 3), (147, .ireturn, 1), (148, .iinc 6 1, 3), (151, .goto (-69), 3), (154, .aload_n 0, 1), (155, .iconst 5, 1), (156, .invokevirtual 102, 3), (159, .ireturn, 1)] := dz_sg _ 144 (by decide +kernel)
theorem dX7_next_144 : decode cX7_next 144 = .ok (.invokevirtual 134, 3) := sdX7_next_144.1
theorem dX7_next_147 : decode cX7_next 147 = .ok (.ireturn, 1) := sdX7_next_144.2.1
theorem dX7_next_148 : decode cX7_next 148 = .ok (.iinc 6 1, 3) := sdX7_next_144.2.2.1
theorem dX7_next_151 : decode cX7_next 151 = .ok (.goto (-69), 3) := sdX7_next_144.2.2.2.1
theorem dX7_next_154 : decode cX7_next 154 = .ok (.aload_n 0, 1) := sdX7_next_144.2.2.2.2.1
theorem dX7_next_155 : decode cX7_next 155 = .ok (.iconst 5, 1) := sdX7_next_144.2.2.2.2.2.1
theorem dX7_next_156 : decode cX7_next 156 = .ok (.invokevirtual 102, 3) := sdX7_next_144.2.2.2.2.2.2.1
theorem dX7_next_159 : decode cX7_next 159 = .ok (.ireturn, 1) := sdX7_next_144.2.2.2.2.2.2.2.1
theorem sdX7_envies_0 : dz_Seg cX7_envies [(0, .iload_n 1, 1), (1, .invokestatic 237, 3), (4, .ifCond .ne 9, 3), (7, .aload_n 0, 1), (8, .iconst 1, 1), (9, .invokevirtual 102, 3), (12, .ireturn, 1), (13, .aload_n 0, 1)] := dz_sg _ 0 (by decide +kernel)
theorem dX7_envies_0 : decode cX7_envies 0 = .ok (.iload_n 1, 1) := sdX7_envies_0.1
theorem dX7_envies_1 : decode cX7_envies 1 = .ok (.invokestatic 237, 3) := sdX7_envies_0.2.1
theorem dX7_envies_4 : decode cX7_envies 4 = .ok (.ifCond .ne 9, 3) := sdX7_envies_0.2.2.1
theorem dX7_envies_7 : decode cX7_envies 7 = .ok (.aload_n 0, 1) := sdX7_envies_0.2.2.2.1
theorem dX7_envies_8 : decode cX7_envies 8 = .ok (.iconst 1, 1) := sdX7_envies_0.2.2.2.2.1
theorem dX7_envies_9 : decode cX7_envies 9 = .ok (.invokevirtual 102, 3) := sdX7_envies_0.2.2.2.2.2.1
theorem dX7_envies_12 : decode cX7_envies 12 = .ok (.ireturn, 1) := sdX7_envies_0.2.2.2.2.2.2.1
theorem dX7_envies_13 : decode cX7_envies 13 = .ok (.aload_n 0, 1) := sdX7_envies_0.2.2.2.2.2.2.2.1
theorem sdX7_envies_14 : dz_Seg cX7_envies [(14, .iload_n 2, 1), (15, .invokevirtual 206, 3), (18, .ifCond .ne 9, 3), (21, .aload_n 0, 1), (22, .iconst 2, 1), (23, .invokevirtual 102, 3), (26, .ireturn, 1), (27, .aload_n 0, 1)] := dz_sg _ 14 (by decide +kernel)
theorem dX7_envies_14 : decode cX7_envies 14 = .ok (.iload_n 2, 1) := sdX7_envies_14.1
theorem dX7_envies_15 : decode cX7_envies 15 = .ok (.invokevirtual 206, 3) := sdX7_envies_14.2.1
theorem dX7_envies_18 : decode cX7_envies 18 = .ok (.ifCond .ne 9, 3) := sdX7_envies_14.2.2.1
theorem dX7_envies_21 : decode cX7_envies 21 = .ok (.aload_n 0, 1) := sdX7_envies_14.2.2.2.1
theorem dX7_envies_22 : decode cX7_envies 22 = .ok (.iconst 2, 1) := sdX7_envies_14.2.2.2.2.1
theorem dX7_envies_23 : decode cX7_envies 23 = .ok (.invokevirtual 102, 3) := sdX7_envies_14.2.2.2.2.2.1
theorem dX7_envies_26 : decode cX7_envies 26 = .ok (.ireturn, 1) := sdX7_envies_14.2.2.2.2.2.2.1
theorem dX7_envies_27 : decode cX7_envies 27 = .ok (.aload_n 0, 1) := sdX7_envies_14.2.2.2.2.2.2.2.1
theorem sdX7_envies_28 : dz_Seg cX7_envies [(28, .getfield 47, 3), (31, .aload_n 0, 1), (32, .getfield 40, 3), (35, .iload_n 1, 1), (36, .invokevirtual 247, 3), (39, .iconst 0, 1), (40, .istore_n 3, 1), (41, .iconst 0, 1)] := dz_sg _ 28 (by decide +kernel)
theorem dX7_envies_28 : decode cX7_envies 28 = .ok (.getfield 47, 3) := sdX7_envies_28.1
theorem dX7_envies_31 : decode cX7_envies 31 = .ok (.aload_n 0, 1) := sdX7_envies_28.2.1
theorem dX7_envies_32 : decode cX7_envies 32 = .ok (.getfield 40, 3) := sdX7_envies_28.2.2.1
theorem dX7_envies_35 : decode cX7_envies 35 = .ok (.iload_n 1, 1) := sdX7_envies_28.2.2.2.1
theorem dX7_envies_36 : decode cX7_envies 36 = .ok (.invokevirtual 247, 3) := sdX7_envies_28.2.2.2.2.1
theorem dX7_envies_39 : decode cX7_envies 39 = .ok (.iconst 0, 1) := sdX7_envies_28.2.2.2.2.2.1
theorem dX7_envies_40 : decode cX7_envies 40 = .ok (.istore_n 3, 1) := sdX7_envies_28.2.2.2.2.2.2.1
theorem dX7_envies_41 : decode cX7_envies 41 = .ok (.iconst 0, 1) := sdX7_envies_28.2.2.2.2.2.2.2.1
theorem sdX7_envies_42 : dz_Seg cX7_envies [(42, .istore 4, 2), (44, .iload 4, 2), (46, .aload_n 0, 1), (47, .getfield 40, 3), (50, .getfield 140, 3), (53, .if_icmp .ge 100, 3), (56, .aload_n 0, 1), (57, .getfield 47, 3)] := dz_sg _ 42 (by decide +kernel)
theorem dX7_envies_42 : decode cX7_envies 42 = .ok (.istore 4, 2) := sdX7_envies_42.1
theorem dX7_envies_44 : decode cX7_envies 44 = .ok (.iload 4, 2) := sdX7_envies_42.2.1
theorem dX7_envies_46 : decode cX7_envies 46 = .ok (.aload_n 0, 1) := sdX7_envies_42.2.2.1
theorem dX7_envies_47 : decode cX7_envies 47 = .ok (.getfield 40, 3) := sdX7_envies_42.2.2.2.1
theorem dX7_envies_50 : decode cX7_envies 50 = .ok (.getfield 140, 3) := sdX7_envies_42.2.2.2.2.1
theorem dX7_envies_53 : decode cX7_envies 53 = .ok (.if_icmp .ge 100, 3) := sdX7_envies_42.2.2.2.2.2.1
theorem dX7_envies_56 : decode cX7_envies 56 = .ok (.aload_n 0, 1) := sdX7_envies_42.2.2.2.2.2.2.1
theorem dX7_envies_57 : decode cX7_envies 57 = .ok (.getfield 47, 3) := sdX7_envies_42.2.2.2.2.2.2.2.1
theorem sdX7_envies_60 : dz_Seg cX7_envies [(60, .getfield 250, 3), (63, .iload 4, 2), (65, .invokestatic 175, 3), (68, .istore 5, 2), (70, .iload 5, 2), (72, .iconst (-1), 1), (73, .if_icmp .eq 74, 3), (76, .aload_n 0, 1)] := dz_sg _ 60 (by decide +kernel)
theorem dX7_envies_60 : decode cX7_envies 60 = .ok (.getfield 250, 3) := sdX7_envies_60.1
theorem dX7_envies_63 : decode cX7_envies 63 = .ok (.iload 4, 2) := sdX7_envies_60.2.1
theorem dX7_envies_65 : decode cX7_envies 65 = .ok (.invokestatic 175, 3) := sdX7_envies_60.2.2.1
theorem dX7_envies_68 : decode cX7_envies 68 = .ok (.istore 5, 2) := sdX7_envies_60.2.2.2.1
theorem dX7_envies_70 : decode cX7_envies 70 = .ok (.iload 5, 2) := sdX7_envies_60.2.2.2.2.1
theorem dX7_envies_72 : decode cX7_envies 72 = .ok (.iconst (-1), 1) := sdX7_envies_60.2.2.2.2.2.1
theorem dX7_envies_73 : decode cX7_envies 73 = .ok (.if_icmp .eq 74, 3) := sdX7_envies_60.2.2.2.2.2.2.1
theorem dX7_envies_76 : decode cX7_envies 76 = .ok (.aload_n 0, 1) := sdX7_envies_60.2.2.2.2.2.2.2.1
theorem sdX7_envies_77 : dz_Seg cX7_envies [(77, .getfield 40, 3), (80, .getfield 215, 3), (83, .iload 4, 2), (85, .invokestatic 175, 3), (88, .aload_n 0, 1), (89, .getfield 40, 3), (92, .getfield 215, 3), (95, .iload_n 2, 1)] := dz_sg _ 77 (by decide +kernel)
theorem dX7_envies_77 : decode cX7_envies 77 = .ok (.getfield 40, 3) := sdX7_envies_77.1
theorem dX7_envies_80 : decode cX7_envies 80 = .ok (.getfield 215, 3) := sdX7_envies_77.2.1
theorem dX7_envies_83 : decode cX7_envies 83 = .ok (.iload 4, 2) := sdX7_envies_77.2.2.1
theorem dX7_envies_85 : decode cX7_envies 85 = .ok (.invokestatic 175, 3) := sdX7_envies_77.2.2.2.1
theorem dX7_envies_88 : decode cX7_envies 88 = .ok (.aload_n 0, 1) := sdX7_envies_77.2.2.2.2.1
theorem dX7_envies_89 : decode cX7_envies 89 = .ok (.getfield 40, 3) := sdX7_envies_77.2.2.2.2.2.1
theorem dX7_envies_92 : decode cX7_envies 92 = .ok (.getfield 215, 3) := sdX7_envies_77.2.2.2.2.2.2.1
theorem dX7_envies_95 : decode cX7_envies 95 = .ok (.iload_n 2, 1) := sdX7_envies_77.2.2.2.2.2.2.2.1
theorem sdX7_envies_96 : dz_Seg cX7_envies [(96, .invokestatic 175, 3), (99, .if_icmp .lt 6, 3), (102, .goto 45, 3), (105, .aload_n 0, 1), (106, .getfield 40, 3), (109, .iload_n 2, 1), (110, .iload 5, 2), (112, .invokevirtual 277, 3)] := dz_sg _ 96 (by decide +kernel)
theorem dX7_envies_96 : decode cX7_envies 96 = .ok (.invokestatic 175, 3) := sdX7_envies_96.1
theorem dX7_envies_99 : decode cX7_envies 99 = .ok (.if_icmp .lt 6, 3) := sdX7_envies_96.2.1
theorem dX7_envies_102 : decode cX7_envies 102 = .ok (.goto 45, 3) := sdX7_envies_96.2.2.1
theorem dX7_envies_105 : decode cX7_envies 105 = .ok (.aload_n 0, 1) := sdX7_envies_96.2.2.2.1
theorem dX7_envies_106 : decode cX7_envies 106 = .ok (.getfield 40, 3) := sdX7_envies_96.2.2.2.2.1
theorem dX7_envies_109 : decode cX7_envies 109 = .ok (.iload_n 2, 1) := sdX7_envies_96.2.2.2.2.2.1
theorem dX7_envies_110 : decode cX7_envies 110 = .ok (.iload 5, 2) := sdX7_envies_96.2.2.2.2.2.2.1
theorem dX7_envies_112 : decode cX7_envies 112 = .ok (.invokevirtual 277, 3) := sdX7_envies_96.2.2.2.2.2.2.2.1
theorem sdX7_envies_115 : dz_Seg cX7_envies [(115, .istore 6, 2), (117, .iload 6, 2), (119, .iconst (-1), 1), (120, .if_icmp .eq 27, 3), (123, .iload 6, 2), (125, .aload_n 0, 1), (126, .getfield 47, 3), (129, .aload_n 0, 1)] := dz_sg _ 115 (by decide +kernel)
theorem dX7_envies_115 : decode cX7_envies 115 = .ok (.istore 6, 2) := sdX7_envies_115.1
theorem dX7_envies_117 : decode cX7_envies 117 = .ok (.iload 6, 2) := sdX7_envies_115.2.1
theorem dX7_envies_119 : decode cX7_envies 119 = .ok (.iconst (-1), 1) := sdX7_envies_115.2.2.1
theorem dX7_envies_120 : decode cX7_envies 120 = .ok (.if_icmp .eq 27, 3) := sdX7_envies_115.2.2.2.1
theorem dX7_envies_123 : decode cX7_envies 123 = .ok (.iload 6, 2) := sdX7_envies_115.2.2.2.2.1
theorem dX7_envies_125 : decode cX7_envies 125 = .ok (.aload_n 0, 1) := sdX7_envies_115.2.2.2.2.2.1
theorem dX7_envies_126 : decode cX7_envies 126 = .ok (.getfield 47, 3) := sdX7_envies_115.2.2.2.2.2.2.1
theorem dX7_envies_129 : decode cX7_envies 129 = .ok (.aload_n 0, 1) := sdX7_envies_115.2.2.2.2.2.2.2.1
theorem sdX7_envies_130 : dz_Seg cX7_envies [(130, .getfield 40, 3), (133, .iload_n 2, 1), (134, .invokevirtual 280, 3), (137, .if_icmp .ge 10, 3), (140, .iload_n 3, 1), (141, .iconst 1, 1), (142, .iload 4, 2), (144, .ishl, 1)] := dz_sg _ 130 (by decide +kernel)
theorem dX7_envies_130 : decode cX7_envies 130 = .ok (.getfield 40, 3) := sdX7_envies_130.1
theorem dX7_envies_133 : decode cX7_envies 133 = .ok (.iload_n 2, 1) := sdX7_envies_130.2.1
theorem dX7_envies_134 : decode cX7_envies 134 = .ok (.invokevirtual 280, 3) := sdX7_envies_130.2.2.1
theorem dX7_envies_137 : decode cX7_envies 137 = .ok (.if_icmp .ge 10, 3) := sdX7_envies_130.2.2.2.1
theorem dX7_envies_140 : decode cX7_envies 140 = .ok (.iload_n 3, 1) := sdX7_envies_130.2.2.2.2.1
theorem dX7_envies_141 : decode cX7_envies 141 = .ok (.iconst 1, 1) := sdX7_envies_130.2.2.2.2.2.1
theorem dX7_envies_142 : decode cX7_envies 142 = .ok (.iload 4, 2) := sdX7_envies_130.2.2.2.2.2.2.1
theorem dX7_envies_144 : decode cX7_envies 144 = .ok (.ishl, 1) := sdX7_envies_130.2.2.2.2.2.2.2.1
theorem sdX7_envies_145 : dz_Seg cX7_envies [(145, .ior, 1), (146, .istore_n 3, 1), (147, .iinc 4 1, 3), (150, .goto (-106), 3), (153, .aload_n 0, 1), (154, .iload_n 3, 1), (155, .invokevirtual 134, 3), (158, .ireturn, 1)] := dz_sg _ 145 (by decide +kernel)
theorem dX7_envies_145 : decode cX7_envies 145 = .ok (.ior, 1) := sdX7_envies_145.1
theorem dX7_envies_146 : decode cX7_envies 146 = .ok (.istore_n 3, 1) := sdX7_envies_145.2.1
theorem dX7_envies_147 : decode cX7_envies 147 = .ok (.iinc 4 1, 3) := sdX7_envies_145.2.2.1
theorem dX7_envies_150 : decode cX7_envies 150 = .ok (.goto (-106), 3) := sdX7_envies_145.2.2.2.1
theorem dX7_envies_153 : decode cX7_envies 153 = .ok (.aload_n 0, 1) := sdX7_envies_145.2.2.2.2.1
theorem dX7_envies_154 : decode cX7_envies 154 = .ok (.iload_n 3, 1) := sdX7_envies_145.2.2.2.2.2.1
theorem dX7_envies_155 : decode cX7_envies 155 = .ok (.invokevirtual 134, 3) := sdX7_envies_145.2.2.2.2.2.2.1
theorem dX7_envies_158 : decode cX7_envies 158 = .ok (.ireturn, 1) := sdX7_envies_145.2.2.2.2.2.2.2.1
theorem sdX7_spoils_0 : dz_Seg cX7_spoils [(0, .iload_n 1, 1), (1, .invokestatic 237, 3), (4, .ifCond .ne 9, 3), (7, .aload_n 0, 1), (8, .iconst 1, 1), (9, .invokevirtual 102, 3), (12, .ireturn, 1), (13, .aload_n 0, 1)] := dz_sg _ 0 (by decide +kernel)
theorem dX7_spoils_0 : decode cX7_spoils 0 = .ok (.iload_n 1, 1) := sdX7_spoils_0.1
theorem dX7_spoils_1 : decode cX7_spoils 1 = .ok (.invokestatic 237, 3) := sdX7_spoils_0.2.1
theorem dX7_spoils_4 : decode cX7_spoils 4 = .ok (.ifCond .ne 9, 3) := sdX7_spoils_0.2.2.1
theorem dX7_spoils_7 : decode cX7_spoils 7 = .ok (.aload_n 0, 1) := sdX7_spoils_0.2.2.2.1
theorem dX7_spoils_8 : decode cX7_spoils 8 = .ok (.iconst 1, 1) := sdX7_spoils_0.2.2.2.2.1
theorem dX7_spoils_9 : decode cX7_spoils 9 = .ok (.invokevirtual 102, 3) := sdX7_spoils_0.2.2.2.2.2.1
theorem dX7_spoils_12 : decode cX7_spoils 12 = .ok (.ireturn, 1) := sdX7_spoils_0.2.2.2.2.2.2.1
theorem dX7_spoils_13 : decode cX7_spoils 13 = .ok (.aload_n 0, 1) := sdX7_spoils_0.2.2.2.2.2.2.2.1
theorem sdX7_spoils_14 : dz_Seg cX7_spoils [(14, .iload_n 2, 1), (15, .invokevirtual 206, 3), (18, .ifCond .ne 9, 3), (21, .aload_n 0, 1), (22, .iconst 2, 1), (23, .invokevirtual 102, 3), (26, .ireturn, 1), (27, .aload_n 0, 1)] := dz_sg _ 14 (by decide +kernel)
theorem dX7_spoils_14 : decode cX7_spoils 14 = .ok (.iload_n 2, 1) := sdX7_spoils_14.1
theorem dX7_spoils_15 : decode cX7_spoils 15 = .ok (.invokevirtual 206, 3) := sdX7_spoils_14.2.1
theorem dX7_spoils_18 : decode cX7_spoils 18 = .ok (.ifCond .ne 9, 3) := sdX7_spoils_14.2.2.1
theorem dX7_spoils_21 : decode cX7_spoils 21 = .ok (.aload_n 0, 1) := sdX7_spoils_14.2.2.2.1
theorem dX7_spoils_22 : decode cX7_spoils 22 = .ok (.iconst 2, 1) := sdX7_spoils_14.2.2.2.2.1
theorem dX7_spoils_23 : decode cX7_spoils 23 = .ok (.invokevirtual 102, 3) := sdX7_spoils_14.2.2.2.2.2.1
theorem dX7_spoils_26 : decode cX7_spoils 26 = .ok (.ireturn, 1) := sdX7_spoils_14.2.2.2.2.2.2.1
theorem dX7_spoils_27 : decode cX7_spoils 27 = .ok (.aload_n 0, 1) := sdX7_spoils_14.2.2.2.2.2.2.2.1
theorem sdX7_spoils_28 : dz_Seg cX7_spoils [(28, .getfield 47, 3), (31, .aload_n 0, 1), (32, .getfield 40, 3), (35, .iload_n 1, 1), (36, .invokevirtual 247, 3), (39, .aload_n 0, 1), (40, .getfield 65, 3), (43, .aload_n 0, 1)] := dz_sg _ 28 (by decide +kernel)
theorem dX7_spoils_28 : decode cX7_spoils 28 = .ok (.getfield 47, 3) := sdX7_spoils_28.1
theorem dX7_spoils_31 : decode cX7_spoils 31 = .ok (.aload_n 0, 1) := sdX7_spoils_28.2.1
theorem dX7_spoils_32 : decode cX7_spoils 32 = .ok (.getfield 40, 3) := sdX7_spoils_28.2.2.1
theorem dX7_spoils_35 : decode cX7_spoils 35 = .ok (.iload_n 1, 1) := sdX7_spoils_28.2.2.2.1
theorem dX7_spoils_36 : decode cX7_spoils 36 = .ok (.invokevirtual 247, 3) := sdX7_spoils_28.2.2.2.2.1
theorem dX7_spoils_39 : decode cX7_spoils 39 = .ok (.aload_n 0, 1) := sdX7_spoils_28.2.2.2.2.2.1
theorem dX7_spoils_40 : decode cX7_spoils 40 = .ok (.getfield 65, 3) := sdX7_spoils_28.2.2.2.2.2.2.1
theorem dX7_spoils_43 : decode cX7_spoils 43 = .ok (.aload_n 0, 1) := sdX7_spoils_28.2.2.2.2.2.2.2.1
theorem sdX7_spoils_44 : dz_Seg cX7_spoils [(44, .getfield 26, 3), (47, .invokevirtual 113, 3), (50, .aload_n 0, 1), (51, .getfield 65, 3), (54, .aload_n 0, 1), (55, .getfield 40, 3), (58, .getfield 222, 3), (61, .iload_n 2, 1)] := dz_sg _ 44 (by decide +kernel)
theorem dX7_spoils_44 : decode cX7_spoils 44 = .ok (.getfield 26, 3) := sdX7_spoils_44.1
theorem dX7_spoils_47 : decode cX7_spoils 47 = .ok (.invokevirtual 113, 3) := sdX7_spoils_44.2.1
theorem dX7_spoils_50 : decode cX7_spoils 50 = .ok (.aload_n 0, 1) := sdX7_spoils_44.2.2.1
theorem dX7_spoils_51 : decode cX7_spoils 51 = .ok (.getfield 65, 3) := sdX7_spoils_44.2.2.2.1
theorem dX7_spoils_54 : decode cX7_spoils 54 = .ok (.aload_n 0, 1) := sdX7_spoils_44.2.2.2.2.1
theorem dX7_spoils_55 : decode cX7_spoils 55 = .ok (.getfield 40, 3) := sdX7_spoils_44.2.2.2.2.2.1
theorem dX7_spoils_58 : decode cX7_spoils 58 = .ok (.getfield 222, 3) := sdX7_spoils_44.2.2.2.2.2.2.1
theorem dX7_spoils_61 : decode cX7_spoils 61 = .ok (.iload_n 2, 1) := sdX7_spoils_44.2.2.2.2.2.2.2.1
theorem sdX7_spoils_62 : dz_Seg cX7_spoils [(62, .invokestatic 175, 3), (65, .iconst (-1), 1), (66, .iconst (-1), 1), (67, .iconst (-1), 1), (68, .invokevirtual 283, 3), (71, .aload_n 0, 1), (72, .getfield 68, 3), (75, .aload_n 0, 1)] := dz_sg _ 62 (by decide +kernel)
theorem dX7_spoils_62 : decode cX7_spoils 62 = .ok (.invokestatic 175, 3) := sdX7_spoils_62.1
theorem dX7_spoils_65 : decode cX7_spoils 65 = .ok (.iconst (-1), 1) := sdX7_spoils_62.2.1
theorem dX7_spoils_66 : decode cX7_spoils 66 = .ok (.iconst (-1), 1) := sdX7_spoils_62.2.2.1
theorem dX7_spoils_67 : decode cX7_spoils 67 = .ok (.iconst (-1), 1) := sdX7_spoils_62.2.2.2.1
theorem dX7_spoils_68 : decode cX7_spoils 68 = .ok (.invokevirtual 283, 3) := sdX7_spoils_62.2.2.2.2.1
theorem dX7_spoils_71 : decode cX7_spoils 71 = .ok (.aload_n 0, 1) := sdX7_spoils_62.2.2.2.2.2.1
theorem dX7_spoils_72 : decode cX7_spoils 72 = .ok (.getfield 68, 3) := sdX7_spoils_62.2.2.2.2.2.2.1
theorem dX7_spoils_75 : decode cX7_spoils 75 = .ok (.aload_n 0, 1) := sdX7_spoils_62.2.2.2.2.2.2.2.1
theorem sdX7_spoils_76 : dz_Seg cX7_spoils [(76, .getfield 65, 3), (79, .invokevirtual 80, 3), (82, .aload_n 0, 1), (83, .getfield 71, 3), (86, .aload_n 0, 1), (87, .getfield 68, 3), (90, .iload_n 1, 1), (91, .invokevirtual 247, 3)] := dz_sg _ 76 (by decide +kernel)
theorem dX7_spoils_76 : decode cX7_spoils 76 = .ok (.getfield 65, 3) := sdX7_spoils_76.1
theorem dX7_spoils_79 : decode cX7_spoils 79 = .ok (.invokevirtual 80, 3) := sdX7_spoils_76.2.1
theorem dX7_spoils_82 : decode cX7_spoils 82 = .ok (.aload_n 0, 1) := sdX7_spoils_76.2.2.1
theorem dX7_spoils_83 : decode cX7_spoils 83 = .ok (.getfield 71, 3) := sdX7_spoils_76.2.2.2.1
theorem dX7_spoils_86 : decode cX7_spoils 86 = .ok (.aload_n 0, 1) := sdX7_spoils_76.2.2.2.2.1
theorem dX7_spoils_87 : decode cX7_spoils 87 = .ok (.getfield 68, 3) := sdX7_spoils_76.2.2.2.2.2.1
theorem dX7_spoils_90 : decode cX7_spoils 90 = .ok (.iload_n 1, 1) := sdX7_spoils_76.2.2.2.2.2.2.1
theorem dX7_spoils_91 : decode cX7_spoils 91 = .ok (.invokevirtual 247, 3) := sdX7_spoils_76.2.2.2.2.2.2.2.1
theorem sdX7_spoils_94 : dz_Seg cX7_spoils [(94, .iconst 0, 1), (95, .istore_n 3, 1), (96, .iconst 0, 1), (97, .istore 4, 2), (99, .iload 4, 2), (101, .aload_n 0, 1), (102, .getfield 40, 3), (105, .getfield 140, 3)] := dz_sg _ 94 (by decide +kernel)
theorem dX7_spoils_94 : decode cX7_spoils 94 = .ok (.iconst 0, 1) := sdX7_spoils_94.1
theorem dX7_spoils_95 : decode cX7_spoils 95 = .ok (.istore_n 3, 1) := sdX7_spoils_94.2.1
theorem dX7_spoils_96 : decode cX7_spoils 96 = .ok (.iconst 0, 1) := sdX7_spoils_94.2.2.1
theorem dX7_spoils_97 : decode cX7_spoils 97 = .ok (.istore 4, 2) := sdX7_spoils_94.2.2.2.1
theorem dX7_spoils_99 : decode cX7_spoils 99 = .ok (.iload 4, 2) := sdX7_spoils_94.2.2.2.2.1
theorem dX7_spoils_101 : decode cX7_spoils 101 = .ok (.aload_n 0, 1) := sdX7_spoils_94.2.2.2.2.2.1
theorem dX7_spoils_102 : decode cX7_spoils 102 = .ok (.getfield 40, 3) := sdX7_spoils_94.2.2.2.2.2.2.1
theorem dX7_spoils_105 : decode cX7_spoils 105 = .ok (.getfield 140, 3) := sdX7_spoils_94.2.2.2.2.2.2.2.1
theorem sdX7_spoils_108 : dz_Seg cX7_spoils [(108, .if_icmp .ge 51, 3), (111, .iload 4, 2), (113, .iload_n 2, 1), (114, .if_icmp .eq 39, 3), (117, .aload_n 0, 1), (118, .getfield 71, 3), (121, .aload_n 0, 1), (122, .getfield 68, 3)] := dz_sg _ 108 (by decide +kernel)
theorem dX7_spoils_108 : decode cX7_spoils 108 = .ok (.if_icmp .ge 51, 3) := sdX7_spoils_108.1
theorem dX7_spoils_111 : decode cX7_spoils 111 = .ok (.iload 4, 2) := sdX7_spoils_108.2.1
theorem dX7_spoils_113 : decode cX7_spoils 113 = .ok (.iload_n 2, 1) := sdX7_spoils_108.2.2.1
theorem dX7_spoils_114 : decode cX7_spoils 114 = .ok (.if_icmp .eq 39, 3) := sdX7_spoils_108.2.2.2.1
theorem dX7_spoils_117 : decode cX7_spoils 117 = .ok (.aload_n 0, 1) := sdX7_spoils_108.2.2.2.2.1
theorem dX7_spoils_118 : decode cX7_spoils 118 = .ok (.getfield 71, 3) := sdX7_spoils_108.2.2.2.2.2.1
theorem dX7_spoils_121 : decode cX7_spoils 121 = .ok (.aload_n 0, 1) := sdX7_spoils_108.2.2.2.2.2.2.1
theorem dX7_spoils_122 : decode cX7_spoils 122 = .ok (.getfield 68, 3) := sdX7_spoils_108.2.2.2.2.2.2.2.1
theorem sdX7_spoils_125 : dz_Seg cX7_spoils [(125, .iload 4, 2), (127, .invokevirtual 280, 3), (130, .aload_n 0, 1), (131, .getfield 47, 3), (134, .aload_n 0, 1), (135, .getfield 40, 3), (138, .iload 4, 2), (140, .invokevirtual 280, 3)] := dz_sg _ 125 (by decide +kernel)
theorem dX7_spoils_125 : decode cX7_spoils 125 = .ok (.iload 4, 2) := sdX7_spoils_125.1
theorem dX7_spoils_127 : decode cX7_spoils 127 = .ok (.invokevirtual 280, 3) := sdX7_spoils_125.2.1
theorem dX7_spoils_130 : decode cX7_spoils 130 = .ok (.aload_n 0, 1) := sdX7_spoils_125.2.2.1
theorem dX7_spoils_131 : decode cX7_spoils 131 = .ok (.getfield 47, 3) := sdX7_spoils_125.2.2.2.1
theorem dX7_spoils_134 : decode cX7_spoils 134 = .ok (.aload_n 0, 1) := sdX7_spoils_125.2.2.2.2.1
theorem dX7_spoils_135 : decode cX7_spoils 135 = .ok (.getfield 40, 3) := sdX7_spoils_125.2.2.2.2.2.1
theorem dX7_spoils_138 : decode cX7_spoils 138 = .ok (.iload 4, 2) := sdX7_spoils_125.2.2.2.2.2.2.1
theorem dX7_spoils_140 : decode cX7_spoils 140 = .ok (.invokevirtual 280, 3) := sdX7_spoils_125.2.2.2.2.2.2.2.1
theorem sdX7_spoils_143 : dz_Seg cX7_spoils [(143, .if_icmp .ge 10, 3), (146, .iload_n 3, 1), (147, .iconst 1, 1), (148, .iload 4, 2), (150, .ishl, 1), (151, .ior, 1), (152, .istore_n 3, 1), (153, .iinc 4 1, 3)] := dz_sg _ 143 (by decide +kernel)
theorem dX7_spoils_143 : decode cX7_spoils 143 = .ok (.if_icmp .ge 10, 3) := sdX7_spoils_143.1
theorem dX7_spoils_146 : decode cX7_spoils 146 = .ok (.iload_n 3, 1) := sdX7_spoils_143.2.1
theorem dX7_spoils_147 : decode cX7_spoils 147 = .ok (.iconst 1, 1) := sdX7_spoils_143.2.2.1
theorem dX7_spoils_148 : decode cX7_spoils 148 = .ok (.iload 4, 2) := sdX7_spoils_143.2.2.2.1
theorem dX7_spoils_150 : decode cX7_spoils 150 = .ok (.ishl, 1) := sdX7_spoils_143.2.2.2.2.1
theorem dX7_spoils_151 : decode cX7_spoils 151 = .ok (.ior, 1) := sdX7_spoils_143.2.2.2.2.2.1
theorem dX7_spoils_152 : decode cX7_spoils 152 = .ok (.istore_n 3, 1) := sdX7_spoils_143.2.2.2.2.2.2.1
theorem dX7_spoils_153 : decode cX7_spoils 153 = .ok (.iinc 4 1, 3) := sdX7_spoils_143.2.2.2.2.2.2.2.1
theorem sdX7_spoils_156 : dz_Seg cX7_spoils [(156, .goto (-57), 3), (159, .aload_n 0, 1), (160, .iload_n 3, 1), (161, .invokevirtual 134, 3), (164, .ireturn, 1)] := dz_sg _ 156 (by decide +kernel)
theorem dX7_spoils_156 : decode cX7_spoils 156 = .ok (.goto (-57), 3) := sdX7_spoils_156.1
theorem dX7_spoils_159 : decode cX7_spoils 159 = .ok (.aload_n 0, 1) := sdX7_spoils_156.2.1
theorem dX7_spoils_160 : decode cX7_spoils 160 = .ok (.iload_n 3, 1) := sdX7_spoils_156.2.2.1
theorem dX7_spoils_161 : decode cX7_spoils 161 = .ok (.invokevirtual 134, 3) := sdX7_spoils_156.2.2.2.1
theorem dX7_spoils_164 : decode cX7_spoils 164 = .ok (.ireturn, 1) := sdX7_spoils_156.2.2.2.2.1
theorem sdX7_behind_0 : dz_Seg cX7_behind [(0, .iload_n 1, 1), (1, .invokestatic 237, 3), (4, .ifCond .ne 9, 3), (7, .aload_n 0, 1), (8, .iconst 1, 1), (9, .invokevirtual 102, 3), (12, .ireturn, 1), (13, .aload_n 0, 1)] := dz_sg _ 0 (by decide +kernel)
theorem dX7_behind_0 : decode cX7_behind 0 = .ok (.iload_n 1, 1) := sdX7_behind_0.1
theorem dX7_behind_1 : decode cX7_behind 1 = .ok (.invokestatic 237, 3) := sdX7_behind_0.2.1
theorem dX7_behind_4 : decode cX7_behind 4 = .ok (.ifCond .ne 9, 3) := sdX7_behind_0.2.2.1
theorem dX7_behind_7 : decode cX7_behind 7 = .ok (.aload_n 0, 1) := sdX7_behind_0.2.2.2.1
theorem dX7_behind_8 : decode cX7_behind 8 = .ok (.iconst 1, 1) := sdX7_behind_0.2.2.2.2.1
theorem dX7_behind_9 : decode cX7_behind 9 = .ok (.invokevirtual 102, 3) := sdX7_behind_0.2.2.2.2.2.1
theorem dX7_behind_12 : decode cX7_behind 12 = .ok (.ireturn, 1) := sdX7_behind_0.2.2.2.2.2.2.1
theorem dX7_behind_13 : decode cX7_behind 13 = .ok (.aload_n 0, 1) := sdX7_behind_0.2.2.2.2.2.2.2.1
theorem sdX7_behind_14 : dz_Seg cX7_behind [(14, .iload_n 2, 1), (15, .invokevirtual 168, 3), (18, .ifCond .ne 9, 3), (21, .aload_n 0, 1), (22, .iconst 2, 1), (23, .invokevirtual 102, 3), (26, .ireturn, 1), (27, .aload_n 0, 1)] := dz_sg _ 14 (by decide +kernel)
theorem dX7_behind_14 : decode cX7_behind 14 = .ok (.iload_n 2, 1) := sdX7_behind_14.1
theorem dX7_behind_15 : decode cX7_behind 15 = .ok (.invokevirtual 168, 3) := sdX7_behind_14.2.1
theorem dX7_behind_18 : decode cX7_behind 18 = .ok (.ifCond .ne 9, 3) := sdX7_behind_14.2.2.1
theorem dX7_behind_21 : decode cX7_behind 21 = .ok (.aload_n 0, 1) := sdX7_behind_14.2.2.2.1
theorem dX7_behind_22 : decode cX7_behind 22 = .ok (.iconst 2, 1) := sdX7_behind_14.2.2.2.2.1
theorem dX7_behind_23 : decode cX7_behind 23 = .ok (.invokevirtual 102, 3) := sdX7_behind_14.2.2.2.2.2.1
theorem dX7_behind_26 : decode cX7_behind 26 = .ok (.ireturn, 1) := sdX7_behind_14.2.2.2.2.2.2.1
theorem dX7_behind_27 : decode cX7_behind 27 = .ok (.aload_n 0, 1) := sdX7_behind_14.2.2.2.2.2.2.2.1
theorem sdX7_behind_28 : dz_Seg cX7_behind [(28, .getfield 47, 3), (31, .aload_n 0, 1), (32, .getfield 40, 3), (35, .iload_n 1, 1), (36, .invokevirtual 247, 3), (39, .aload_n 0, 1), (40, .aload_n 0, 1), (41, .getfield 47, 3)] := dz_sg _ 28 (by decide +kernel)
theorem dX7_behind_28 : decode cX7_behind 28 = .ok (.getfield 47, 3) := sdX7_behind_28.1
theorem dX7_behind_31 : decode cX7_behind 31 = .ok (.aload_n 0, 1) := sdX7_behind_28.2.1
theorem dX7_behind_32 : decode cX7_behind 32 = .ok (.getfield 40, 3) := sdX7_behind_28.2.2.1
theorem dX7_behind_35 : decode cX7_behind 35 = .ok (.iload_n 1, 1) := sdX7_behind_28.2.2.2.1
theorem dX7_behind_36 : decode cX7_behind 36 = .ok (.invokevirtual 247, 3) := sdX7_behind_28.2.2.2.2.1
theorem dX7_behind_39 : decode cX7_behind 39 = .ok (.aload_n 0, 1) := sdX7_behind_28.2.2.2.2.2.1
theorem dX7_behind_40 : decode cX7_behind 40 = .ok (.aload_n 0, 1) := sdX7_behind_28.2.2.2.2.2.2.1
theorem dX7_behind_41 : decode cX7_behind 41 = .ok (.getfield 47, 3) := sdX7_behind_28.2.2.2.2.2.2.2.1
theorem sdX7_behind_44 : dz_Seg cX7_behind [(44, .aload_n 0, 1), (45, .getfield 40, 3), (48, .aload_n 0, 1), (49, .getfield 40, 3), (52, .getfield 182, 3), (55, .iload_n 2, 1), (56, .invokestatic 175, 3), (59, .aload_n 0, 1)] := dz_sg _ 44 (by decide +kernel)
theorem dX7_behind_44 : decode cX7_behind 44 = .ok (.aload_n 0, 1) := sdX7_behind_44.1
theorem dX7_behind_45 : decode cX7_behind 45 = .ok (.getfield 40, 3) := sdX7_behind_44.2.1
theorem dX7_behind_48 : decode cX7_behind 48 = .ok (.aload_n 0, 1) := sdX7_behind_44.2.2.1
theorem dX7_behind_49 : decode cX7_behind 49 = .ok (.getfield 40, 3) := sdX7_behind_44.2.2.2.1
theorem dX7_behind_52 : decode cX7_behind 52 = .ok (.getfield 182, 3) := sdX7_behind_44.2.2.2.2.1
theorem dX7_behind_55 : decode cX7_behind 55 = .ok (.iload_n 2, 1) := sdX7_behind_44.2.2.2.2.2.1
theorem dX7_behind_56 : decode cX7_behind 56 = .ok (.invokestatic 175, 3) := sdX7_behind_44.2.2.2.2.2.2.1
theorem dX7_behind_59 : decode cX7_behind 59 = .ok (.aload_n 0, 1) := sdX7_behind_44.2.2.2.2.2.2.2.1
theorem sdX7_behind_60 : dz_Seg cX7_behind [(60, .getfield 26, 3), (63, .getfield 172, 3), (66, .iload_n 2, 1), (67, .invokestatic 175, 3), (70, .invokevirtual 287, 3), (73, .invokevirtual 134, 3), (76, .ireturn, 1)] := dz_sg _ 60 (by decide +kernel)
theorem dX7_behind_60 : decode cX7_behind 60 = .ok (.getfield 26, 3) := sdX7_behind_60.1
theorem dX7_behind_63 : decode cX7_behind 63 = .ok (.getfield 172, 3) := sdX7_behind_60.2.1
theorem dX7_behind_66 : decode cX7_behind 66 = .ok (.iload_n 2, 1) := sdX7_behind_60.2.2.1
theorem dX7_behind_67 : decode cX7_behind 67 = .ok (.invokestatic 175, 3) := sdX7_behind_60.2.2.2.1
theorem dX7_behind_70 : decode cX7_behind 70 = .ok (.invokevirtual 287, 3) := sdX7_behind_60.2.2.2.2.1
theorem dX7_behind_73 : decode cX7_behind 73 = .ok (.invokevirtual 134, 3) := sdX7_behind_60.2.2.2.2.2.1
theorem dX7_behind_76 : decode cX7_behind 76 = .ok (.ireturn, 1) := sdX7_behind_60.2.2.2.2.2.2.1
theorem sdX7_lucky_0 : dz_Seg cX7_lucky [(0, .iload_n 1, 1), (1, .invokestatic 237, 3), (4, .ifCond .eq 10, 3), (7, .iload_n 1, 1), (8, .ldc_w 291, 3), (11, .if_icmp .le 9, 3), (14, .aload_n 0, 1), (15, .iconst 1, 1)] := dz_sg _ 0 (by decide +kernel)
theorem dX7_lucky_0 : decode cX7_lucky 0 = .ok (.iload_n 1, 1) := sdX7_lucky_0.1
theorem dX7_lucky_1 : decode cX7_lucky 1 = .ok (.invokestatic 237, 3) := sdX7_lucky_0.2.1
theorem dX7_lucky_4 : decode cX7_lucky 4 = .ok (.ifCond .eq 10, 3) := sdX7_lucky_0.2.2.1
theorem dX7_lucky_7 : decode cX7_lucky 7 = .ok (.iload_n 1, 1) := sdX7_lucky_0.2.2.2.1
theorem dX7_lucky_8 : decode cX7_lucky 8 = .ok (.ldc_w 291, 3) := sdX7_lucky_0.2.2.2.2.1
theorem dX7_lucky_11 : decode cX7_lucky 11 = .ok (.if_icmp .le 9, 3) := sdX7_lucky_0.2.2.2.2.2.1
theorem dX7_lucky_14 : decode cX7_lucky 14 = .ok (.aload_n 0, 1) := sdX7_lucky_0.2.2.2.2.2.2.1
theorem dX7_lucky_15 : decode cX7_lucky 15 = .ok (.iconst 1, 1) := sdX7_lucky_0.2.2.2.2.2.2.2.1
theorem sdX7_lucky_16 : dz_Seg cX7_lucky [(16, .invokevirtual 102, 3), (19, .ireturn, 1), (20, .aload_n 0, 1), (21, .iload_n 2, 1), (22, .invokevirtual 206, 3), (25, .ifCond .ne 9, 3), (28, .aload_n 0, 1), (29, .iconst 2, 1)] := dz_sg _ 16 (by decide +kernel)
theorem dX7_lucky_16 : decode cX7_lucky 16 = .ok (.invokevirtual 102, 3) := sdX7_lucky_16.1
theorem dX7_lucky_19 : decode cX7_lucky 19 = .ok (.ireturn, 1) := sdX7_lucky_16.2.1
theorem dX7_lucky_20 : decode cX7_lucky 20 = .ok (.aload_n 0, 1) := sdX7_lucky_16.2.2.1
theorem dX7_lucky_21 : decode cX7_lucky 21 = .ok (.iload_n 2, 1) := sdX7_lucky_16.2.2.2.1
theorem dX7_lucky_22 : decode cX7_lucky 22 = .ok (.invokevirtual 206, 3) := sdX7_lucky_16.2.2.2.2.1
theorem dX7_lucky_25 : decode cX7_lucky 25 = .ok (.ifCond .ne 9, 3) := sdX7_lucky_16.2.2.2.2.2.1
theorem dX7_lucky_28 : decode cX7_lucky 28 = .ok (.aload_n 0, 1) := sdX7_lucky_16.2.2.2.2.2.2.1
theorem dX7_lucky_29 : decode cX7_lucky 29 = .ok (.iconst 2, 1) := sdX7_lucky_16.2.2.2.2.2.2.2.1
theorem sdX7_lucky_30 : dz_Seg cX7_lucky [(30, .invokevirtual 102, 3), (33, .ireturn, 1), (34, .iconst 0, 1), (35, .istore_n 3, 1), (36, .iload_n 3, 1), (37, .bipush 50, 2), (39, .if_icmp .ge 46, 3), (42, .aload_n 0, 1)] := dz_sg _ 30 (by decide +kernel)
theorem dX7_lucky_30 : decode cX7_lucky 30 = .ok (.invokevirtual 102, 3) := sdX7_lucky_30.1
theorem dX7_lucky_33 : decode cX7_lucky 33 = .ok (.ireturn, 1) := sdX7_lucky_30.2.1
theorem dX7_lucky_34 : decode cX7_lucky 34 = .ok (.iconst 0, 1) := sdX7_lucky_30.2.2.1
theorem dX7_lucky_35 : decode cX7_lucky 35 = .ok (.istore_n 3, 1) := sdX7_lucky_30.2.2.2.1
theorem dX7_lucky_36 : decode cX7_lucky 36 = .ok (.iload_n 3, 1) := sdX7_lucky_30.2.2.2.2.1
theorem dX7_lucky_37 : decode cX7_lucky 37 = .ok (.bipush 50, 2) := sdX7_lucky_30.2.2.2.2.2.1
theorem dX7_lucky_39 : decode cX7_lucky 39 = .ok (.if_icmp .ge 46, 3) := sdX7_lucky_30.2.2.2.2.2.2.1
theorem dX7_lucky_42 : decode cX7_lucky 42 = .ok (.aload_n 0, 1) := sdX7_lucky_30.2.2.2.2.2.2.2.1
theorem sdX7_lucky_43 : dz_Seg cX7_lucky [(43, .getfield 47, 3), (46, .aload_n 0, 1), (47, .getfield 40, 3), (50, .iload_n 1, 1), (51, .iload_n 3, 1), (52, .iadd, 1), (53, .invokevirtual 247, 3), (56, .aload_n 0, 1)] := dz_sg _ 43 (by decide +kernel)
theorem dX7_lucky_43 : decode cX7_lucky 43 = .ok (.getfield 47, 3) := sdX7_lucky_43.1
theorem dX7_lucky_46 : decode cX7_lucky 46 = .ok (.aload_n 0, 1) := sdX7_lucky_43.2.1
theorem dX7_lucky_47 : decode cX7_lucky 47 = .ok (.getfield 40, 3) := sdX7_lucky_43.2.2.1
theorem dX7_lucky_50 : decode cX7_lucky 50 = .ok (.iload_n 1, 1) := sdX7_lucky_43.2.2.2.1
theorem dX7_lucky_51 : decode cX7_lucky 51 = .ok (.iload_n 3, 1) := sdX7_lucky_43.2.2.2.2.1
theorem dX7_lucky_52 : decode cX7_lucky 52 = .ok (.iadd, 1) := sdX7_lucky_43.2.2.2.2.2.1
theorem dX7_lucky_53 : decode cX7_lucky 53 = .ok (.invokevirtual 247, 3) := sdX7_lucky_43.2.2.2.2.2.2.1
theorem dX7_lucky_56 : decode cX7_lucky 56 = .ok (.aload_n 0, 1) := sdX7_lucky_43.2.2.2.2.2.2.2.1
theorem sdX7_lucky_57 : dz_Seg cX7_lucky [(57, .getfield 47, 3), (60, .aload_n 0, 1), (61, .getfield 40, 3), (64, .iload_n 2, 1), (65, .invokevirtual 292, 3), (68, .ifCond .eq 11, 3), (71, .aload_n 0, 1), (72, .iload_n 1, 1)] := dz_sg _ 57 (by decide +kernel)
theorem dX7_lucky_57 : decode cX7_lucky 57 = .ok (.getfield 47, 3) := sdX7_lucky_57.1
theorem dX7_lucky_60 : decode cX7_lucky 60 = .ok (.aload_n 0, 1) := sdX7_lucky_57.2.1
theorem dX7_lucky_61 : decode cX7_lucky 61 = .ok (.getfield 40, 3) := sdX7_lucky_57.2.2.1
theorem dX7_lucky_64 : decode cX7_lucky 64 = .ok (.iload_n 2, 1) := sdX7_lucky_57.2.2.2.1
theorem dX7_lucky_65 : decode cX7_lucky 65 = .ok (.invokevirtual 292, 3) := sdX7_lucky_57.2.2.2.2.1
theorem dX7_lucky_68 : decode cX7_lucky 68 = .ok (.ifCond .eq 11, 3) := sdX7_lucky_57.2.2.2.2.2.1
theorem dX7_lucky_71 : decode cX7_lucky 71 = .ok (.aload_n 0, 1) := sdX7_lucky_57.2.2.2.2.2.2.1
theorem dX7_lucky_72 : decode cX7_lucky 72 = .ok (.iload_n 1, 1) := sdX7_lucky_57.2.2.2.2.2.2.2.1
theorem sdX7_lucky_73 : dz_Seg cX7_lucky [(73, .iload_n 3, 1), (74, .iadd, 1), (75, .invokevirtual 134, 3), (78, .ireturn, 1), (79, .iinc 3 1, 3), (82, .goto (-46), 3), (85, .aload_n 0, 1), (86, .iconst 5, 1)] := dz_sg _ 73 (by decide +kernel)
theorem dX7_lucky_73 : decode cX7_lucky 73 = .ok (.iload_n 3, 1) := sdX7_lucky_73.1
theorem dX7_lucky_74 : decode cX7_lucky 74 = .ok (.iadd, 1) := sdX7_lucky_73.2.1
theorem dX7_lucky_75 : decode cX7_lucky 75 = .ok (.invokevirtual 134, 3) := sdX7_lucky_73.2.2.1
theorem dX7_lucky_78 : decode cX7_lucky 78 = .ok (.ireturn, 1) := sdX7_lucky_73.2.2.2.1
theorem dX7_lucky_79 : decode cX7_lucky 79 = .ok (.iinc 3 1, 3) := sdX7_lucky_73.2.2.2.2.1
theorem dX7_lucky_82 : decode cX7_lucky 82 = .ok (.goto (-46), 3) := sdX7_lucky_73.2.2.2.2.2.1
theorem dX7_lucky_85 : decode cX7_lucky 85 = .ok (.aload_n 0, 1) := sdX7_lucky_73.2.2.2.2.2.2.1
theorem dX7_lucky_86 : decode cX7_lucky 86 = .ok (.iconst 5, 1) := sdX7_lucky_73.2.2.2.2.2.2.2.1
theorem sdX7_lucky_87 : dz_Seg cX7_lucky [(87, .invokevirtual 102, 3), (90, .ireturn, 1)] := dz_sg _ 87 (by decide +kernel)
theorem dX7_lucky_87 : decode cX7_lucky 87 = .ok (.invokevirtual 102, 3) := sdX7_lucky_87.1
theorem dX7_lucky_90 : decode cX7_lucky 90 = .ok (.ireturn, 1) := sdX7_lucky_87.2.1
theorem sdX7_chance_0 : dz_Seg cX7_chance [(0, .iload_n 2, 1), (1, .ifCond .lt 8, 3), (4, .iload_n 2, 1), (5, .iconst 2, 1), (6, .if_icmp .le 10, 3), (9, .aload_n 0, 1), (10, .iconst 1, 1), (11, .invokevirtual 102, 3)] := dz_sg _ 0 (by decide +kernel)
theorem dX7_chance_0 : decode cX7_chance 0 = .ok (.iload_n 2, 1) := sdX7_chance_0.1
theorem dX7_chance_1 : decode cX7_chance 1 = .ok (.ifCond .lt 8, 3) := sdX7_chance_0.2.1
theorem dX7_chance_4 : decode cX7_chance 4 = .ok (.iload_n 2, 1) := sdX7_chance_0.2.2.1
theorem dX7_chance_5 : decode cX7_chance 5 = .ok (.iconst 2, 1) := sdX7_chance_0.2.2.2.1
theorem dX7_chance_6 : decode cX7_chance 6 = .ok (.if_icmp .le 10, 3) := sdX7_chance_0.2.2.2.2.1
theorem dX7_chance_9 : decode cX7_chance 9 = .ok (.aload_n 0, 1) := sdX7_chance_0.2.2.2.2.2.1
theorem dX7_chance_10 : decode cX7_chance 10 = .ok (.iconst 1, 1) := sdX7_chance_0.2.2.2.2.2.2.1
theorem dX7_chance_11 : decode cX7_chance 11 = .ok (.invokevirtual 102, 3) := sdX7_chance_0.2.2.2.2.2.2.2.1
theorem sdX7_chance_14 : dz_Seg cX7_chance [(14, .i2l, 1), (15, .lreturn, 1), (16, .aload_n 0, 1), (17, .iload_n 1, 1), (18, .invokevirtual 206, 3), (21, .ifCond .ne 10, 3), (24, .aload_n 0, 1), (25, .iconst 2, 1)] := dz_sg _ 14 (by decide +kernel)
theorem dX7_chance_14 : decode cX7_chance 14 = .ok (.i2l, 1) := sdX7_chance_14.1
theorem dX7_chance_15 : decode cX7_chance 15 = .ok (.lreturn, 1) := sdX7_chance_14.2.1
theorem dX7_chance_16 : decode cX7_chance 16 = .ok (.aload_n 0, 1) := sdX7_chance_14.2.2.1
theorem dX7_chance_17 : decode cX7_chance 17 = .ok (.iload_n 1, 1) := sdX7_chance_14.2.2.2.1
theorem dX7_chance_18 : decode cX7_chance 18 = .ok (.invokevirtual 206, 3) := sdX7_chance_14.2.2.2.2.1
theorem dX7_chance_21 : decode cX7_chance 21 = .ok (.ifCond .ne 10, 3) := sdX7_chance_14.2.2.2.2.2.1
theorem dX7_chance_24 : decode cX7_chance 24 = .ok (.aload_n 0, 1) := sdX7_chance_14.2.2.2.2.2.2.1
theorem dX7_chance_25 : decode cX7_chance 25 = .ok (.iconst 2, 1) := sdX7_chance_14.2.2.2.2.2.2.2.1
theorem sdX7_chance_26 : dz_Seg cX7_chance [(26, .invokevirtual 102, 3), (29, .i2l, 1), (30, .lreturn, 1), (31, .aload_n 0, 1), (32, .getfield 40, 3), (35, .getfield 140, 3), (38, .bipush 7, 2), (40, .if_icmp .le 10, 3)] := dz_sg _ 26 (by decide +kernel)
theorem dX7_chance_26 : decode cX7_chance 26 = .ok (.invokevirtual 102, 3) := sdX7_chance_26.1
theorem dX7_chance_29 : decode cX7_chance 29 = .ok (.i2l, 1) := sdX7_chance_26.2.1
theorem dX7_chance_30 : decode cX7_chance 30 = .ok (.lreturn, 1) := sdX7_chance_26.2.2.1
theorem dX7_chance_31 : decode cX7_chance 31 = .ok (.aload_n 0, 1) := sdX7_chance_26.2.2.2.1
theorem dX7_chance_32 : decode cX7_chance 32 = .ok (.getfield 40, 3) := sdX7_chance_26.2.2.2.2.1
theorem dX7_chance_35 : decode cX7_chance 35 = .ok (.getfield 140, 3) := sdX7_chance_26.2.2.2.2.2.1
theorem dX7_chance_38 : decode cX7_chance 38 = .ok (.bipush 7, 2) := sdX7_chance_26.2.2.2.2.2.2.1
theorem dX7_chance_40 : decode cX7_chance 40 = .ok (.if_icmp .le 10, 3) := sdX7_chance_26.2.2.2.2.2.2.2.1
theorem sdX7_chance_43 : dz_Seg cX7_chance [(43, .aload_n 0, 1), (44, .iconst 3, 1), (45, .invokevirtual 102, 3), (48, .i2l, 1), (49, .lreturn, 1), (50, .aload_n 0, 1), (51, .invokevirtual 296, 3), (54, .iload_n 2, 1)] := dz_sg _ 43 (by decide +kernel)
theorem dX7_chance_43 : decode cX7_chance 43 = .ok (.aload_n 0, 1) := sdX7_chance_43.1
theorem dX7_chance_44 : decode cX7_chance 44 = .ok (.iconst 3, 1) := sdX7_chance_43.2.1
theorem dX7_chance_45 : decode cX7_chance 45 = .ok (.invokevirtual 102, 3) := sdX7_chance_43.2.2.1
theorem dX7_chance_48 : decode cX7_chance 48 = .ok (.i2l, 1) := sdX7_chance_43.2.2.2.1
theorem dX7_chance_49 : decode cX7_chance 49 = .ok (.lreturn, 1) := sdX7_chance_43.2.2.2.2.1
theorem dX7_chance_50 : decode cX7_chance 50 = .ok (.aload_n 0, 1) := sdX7_chance_43.2.2.2.2.2.1
theorem dX7_chance_51 : decode cX7_chance 51 = .ok (.invokevirtual 296, 3) := sdX7_chance_43.2.2.2.2.2.2.1
theorem dX7_chance_54 : decode cX7_chance 54 = .ok (.iload_n 2, 1) := sdX7_chance_43.2.2.2.2.2.2.2.1
theorem dX7_chance_55 : decode cX7_chance 55 = .ok (.lookupswitch 78 #[(0, 25), (1, 38)], 25) := by decide +kernel
theorem sdX7_chance_80 : dz_Seg cX7_chance [(80, .aload_n 0, 1), (81, .aload_n 0, 1), (82, .getfield 54, 3), (85, .iload_n 1, 1), (86, .invokevirtual 299, 3), (89, .invokevirtual 303, 3), (92, .lreturn, 1), (93, .aload_n 0, 1)] := dz_sg _ 80 (by decide +kernel)
theorem dX7_chance_80 : decode cX7_chance 80 = .ok (.aload_n 0, 1) := sdX7_chance_80.1
theorem dX7_chance_81 : decode cX7_chance 81 = .ok (.aload_n 0, 1) := sdX7_chance_80.2.1
theorem dX7_chance_82 : decode cX7_chance 82 = .ok (.getfield 54, 3) := sdX7_chance_80.2.2.1
theorem dX7_chance_85 : decode cX7_chance 85 = .ok (.iload_n 1, 1) := sdX7_chance_80.2.2.2.1
theorem dX7_chance_86 : decode cX7_chance 86 = .ok (.invokevirtual 299, 3) := sdX7_chance_80.2.2.2.2.1
theorem dX7_chance_89 : decode cX7_chance 89 = .ok (.invokevirtual 303, 3) := sdX7_chance_80.2.2.2.2.2.1
theorem dX7_chance_92 : decode cX7_chance 92 = .ok (.lreturn, 1) := sdX7_chance_80.2.2.2.2.2.2.1
theorem dX7_chance_93 : decode cX7_chance 93 = .ok (.aload_n 0, 1) := sdX7_chance_80.2.2.2.2.2.2.2.1
theorem sdX7_chance_94 : dz_Seg cX7_chance [(94, .aload_n 0, 1), (95, .getfield 40, 3), (98, .getfield 219, 3), (101, .iload_n 1, 1), (102, .invokestatic 175, 3), (105, .ifCond .ne 7, 3), (108, .lconst 0, 1), (109, .goto 20, 3)] := dz_sg _ 94 (by decide +kernel)
theorem dX7_chance_94 : decode cX7_chance 94 = .ok (.aload_n 0, 1) := sdX7_chance_94.1
theorem dX7_chance_95 : decode cX7_chance 95 = .ok (.getfield 40, 3) := sdX7_chance_94.2.1
theorem dX7_chance_98 : decode cX7_chance 98 = .ok (.getfield 219, 3) := sdX7_chance_94.2.2.1
theorem dX7_chance_101 : decode cX7_chance 101 = .ok (.iload_n 1, 1) := sdX7_chance_94.2.2.2.1
theorem dX7_chance_102 : decode cX7_chance 102 = .ok (.invokestatic 175, 3) := sdX7_chance_94.2.2.2.2.1
theorem dX7_chance_105 : decode cX7_chance 105 = .ok (.ifCond .ne 7, 3) := sdX7_chance_94.2.2.2.2.2.1
theorem dX7_chance_108 : decode cX7_chance 108 = .ok (.lconst 0, 1) := sdX7_chance_94.2.2.2.2.2.2.1
theorem dX7_chance_109 : decode cX7_chance 109 = .ok (.goto 20, 3) := sdX7_chance_94.2.2.2.2.2.2.2.1
theorem sdX7_chance_112 : dz_Seg cX7_chance [(112, .aload_n 0, 1), (113, .getfield 54, 3), (116, .iload_n 1, 1), (117, .aload_n 0, 1), (118, .getfield 40, 3), (121, .iload_n 1, 1), (122, .iconst 0, 1), (123, .invokevirtual 226, 3)] := dz_sg _ 112 (by decide +kernel)
theorem dX7_chance_112 : decode cX7_chance 112 = .ok (.aload_n 0, 1) := sdX7_chance_112.1
theorem dX7_chance_113 : decode cX7_chance 113 = .ok (.getfield 54, 3) := sdX7_chance_112.2.1
theorem dX7_chance_116 : decode cX7_chance 116 = .ok (.iload_n 1, 1) := sdX7_chance_112.2.2.1
theorem dX7_chance_117 : decode cX7_chance 117 = .ok (.aload_n 0, 1) := sdX7_chance_112.2.2.2.1
theorem dX7_chance_118 : decode cX7_chance 118 = .ok (.getfield 40, 3) := sdX7_chance_112.2.2.2.2.1
theorem dX7_chance_121 : decode cX7_chance 121 = .ok (.iload_n 1, 1) := sdX7_chance_112.2.2.2.2.2.1
theorem dX7_chance_122 : decode cX7_chance 122 = .ok (.iconst 0, 1) := sdX7_chance_112.2.2.2.2.2.2.1
theorem dX7_chance_123 : decode cX7_chance 123 = .ok (.invokevirtual 226, 3) := sdX7_chance_112.2.2.2.2.2.2.2.1
theorem sdX7_chance_126 : dz_Seg cX7_chance [(126, .invokevirtual 307, 3), (129, .invokevirtual 303, 3), (132, .lreturn, 1), (133, .aload_n 0, 1), (134, .aload_n 0, 1), (135, .getfield 54, 3), (138, .getfield 311, 3), (141, .iload_n 1, 1)] := dz_sg _ 126 (by decide +kernel)
theorem dX7_chance_126 : decode cX7_chance 126 = .ok (.invokevirtual 307, 3) := sdX7_chance_126.1
theorem dX7_chance_129 : decode cX7_chance 129 = .ok (.invokevirtual 303, 3) := sdX7_chance_126.2.1
theorem dX7_chance_132 : decode cX7_chance 132 = .ok (.lreturn, 1) := sdX7_chance_126.2.2.1
theorem dX7_chance_133 : decode cX7_chance 133 = .ok (.aload_n 0, 1) := sdX7_chance_126.2.2.2.1
theorem dX7_chance_134 : decode cX7_chance 134 = .ok (.aload_n 0, 1) := sdX7_chance_126.2.2.2.2.1
theorem dX7_chance_135 : decode cX7_chance 135 = .ok (.getfield 54, 3) := sdX7_chance_126.2.2.2.2.2.1
theorem dX7_chance_138 : decode cX7_chance 138 = .ok (.getfield 311, 3) := sdX7_chance_126.2.2.2.2.2.2.1
theorem dX7_chance_141 : decode cX7_chance 141 = .ok (.iload_n 1, 1) := sdX7_chance_126.2.2.2.2.2.2.2.1
theorem sdX7_chance_142 : dz_Seg cX7_chance [(142, .invokestatic 315, 3), (145, .invokevirtual 303, 3), (148, .lreturn, 1)] := dz_sg _ 142 (by decide +kernel)
theorem dX7_chance_142 : decode cX7_chance 142 = .ok (.invokestatic 315, 3) := sdX7_chance_142.1
theorem dX7_chance_145 : decode cX7_chance 145 = .ok (.invokevirtual 303, 3) := sdX7_chance_142.2.1
theorem dX7_chance_148 : decode cX7_chance 148 = .ok (.lreturn, 1) := sdX7_chance_142.2.2.1
theorem sdX7_at_0 : dz_Seg cX7_at [(0, .aload_n 0, 1), (1, .iload_n 1, 1), (2, .invokevirtual 206, 3), (5, .ifCond .eq 11, 3), (8, .aload_n 0, 1), (9, .iload_n 2, 1), (10, .invokevirtual 188, 3), (13, .ifCond .ne 10, 3)] := dz_sg _ 0 (by decide +kernel)
theorem dX7_at_0 : decode cX7_at 0 = .ok (.aload_n 0, 1) := sdX7_at_0.1
theorem dX7_at_1 : decode cX7_at 1 = .ok (.iload_n 1, 1) := sdX7_at_0.2.1
theorem dX7_at_2 : decode cX7_at 2 = .ok (.invokevirtual 206, 3) := sdX7_at_0.2.2.1
theorem dX7_at_5 : decode cX7_at 5 = .ok (.ifCond .eq 11, 3) := sdX7_at_0.2.2.2.1
theorem dX7_at_8 : decode cX7_at 8 = .ok (.aload_n 0, 1) := sdX7_at_0.2.2.2.2.1
theorem dX7_at_9 : decode cX7_at 9 = .ok (.iload_n 2, 1) := sdX7_at_0.2.2.2.2.2.1
theorem dX7_at_10 : decode cX7_at 10 = .ok (.invokevirtual 188, 3) := sdX7_at_0.2.2.2.2.2.2.1
theorem dX7_at_13 : decode cX7_at 13 = .ok (.ifCond .ne 10, 3) := sdX7_at_0.2.2.2.2.2.2.2.1
theorem sdX7_at_16 : dz_Seg cX7_at [(16, .aload_n 0, 1), (17, .iconst 2, 1), (18, .invokevirtual 102, 3), (21, .i2l, 1), (22, .lreturn, 1), (23, .aload_n 0, 1), (24, .getfield 40, 3), (27, .getfield 140, 3)] := dz_sg _ 16 (by decide +kernel)
theorem dX7_at_16 : decode cX7_at 16 = .ok (.aload_n 0, 1) := sdX7_at_16.1
theorem dX7_at_17 : decode cX7_at 17 = .ok (.iconst 2, 1) := sdX7_at_16.2.1
theorem dX7_at_18 : decode cX7_at 18 = .ok (.invokevirtual 102, 3) := sdX7_at_16.2.2.1
theorem dX7_at_21 : decode cX7_at 21 = .ok (.i2l, 1) := sdX7_at_16.2.2.2.1
theorem dX7_at_22 : decode cX7_at 22 = .ok (.lreturn, 1) := sdX7_at_16.2.2.2.2.1
theorem dX7_at_23 : decode cX7_at 23 = .ok (.aload_n 0, 1) := sdX7_at_16.2.2.2.2.2.1
theorem dX7_at_24 : decode cX7_at 24 = .ok (.getfield 40, 3) := sdX7_at_16.2.2.2.2.2.2.1
theorem dX7_at_27 : decode cX7_at 27 = .ok (.getfield 140, 3) := sdX7_at_16.2.2.2.2.2.2.2.1
theorem sdX7_at_30 : dz_Seg cX7_at [(30, .bipush 7, 2), (32, .if_icmp .le 10, 3), (35, .aload_n 0, 1), (36, .iconst 3, 1), (37, .invokevirtual 102, 3), (40, .i2l, 1), (41, .lreturn, 1), (42, .aload_n 0, 1)] := dz_sg _ 30 (by decide +kernel)
theorem dX7_at_30 : decode cX7_at 30 = .ok (.bipush 7, 2) := sdX7_at_30.1
theorem dX7_at_32 : decode cX7_at 32 = .ok (.if_icmp .le 10, 3) := sdX7_at_30.2.1
theorem dX7_at_35 : decode cX7_at 35 = .ok (.aload_n 0, 1) := sdX7_at_30.2.2.1
theorem dX7_at_36 : decode cX7_at 36 = .ok (.iconst 3, 1) := sdX7_at_30.2.2.2.1
theorem dX7_at_37 : decode cX7_at 37 = .ok (.invokevirtual 102, 3) := sdX7_at_30.2.2.2.2.1
theorem dX7_at_40 : decode cX7_at 40 = .ok (.i2l, 1) := sdX7_at_30.2.2.2.2.2.1
theorem dX7_at_41 : decode cX7_at 41 = .ok (.lreturn, 1) := sdX7_at_30.2.2.2.2.2.2.1
theorem dX7_at_42 : decode cX7_at 42 = .ok (.aload_n 0, 1) := sdX7_at_30.2.2.2.2.2.2.2.1
theorem sdX7_at_43 : dz_Seg cX7_at [(43, .invokevirtual 296, 3), (46, .aload_n 0, 1), (47, .aload_n 0, 1), (48, .getfield 54, 3), (51, .iload_n 1, 1), (52, .iload_n 2, 1), (53, .invokevirtual 307, 3), (56, .invokevirtual 303, 3)] := dz_sg _ 43 (by decide +kernel)
theorem dX7_at_43 : decode cX7_at 43 = .ok (.invokevirtual 296, 3) := sdX7_at_43.1
theorem dX7_at_46 : decode cX7_at 46 = .ok (.aload_n 0, 1) := sdX7_at_43.2.1
theorem dX7_at_47 : decode cX7_at 47 = .ok (.aload_n 0, 1) := sdX7_at_43.2.2.1
theorem dX7_at_48 : decode cX7_at 48 = .ok (.getfield 54, 3) := sdX7_at_43.2.2.2.1
theorem dX7_at_51 : decode cX7_at 51 = .ok (.iload_n 1, 1) := sdX7_at_43.2.2.2.2.1
theorem dX7_at_52 : decode cX7_at 52 = .ok (.iload_n 2, 1) := sdX7_at_43.2.2.2.2.2.1
theorem dX7_at_53 : decode cX7_at 53 = .ok (.invokevirtual 307, 3) := sdX7_at_43.2.2.2.2.2.2.1
theorem dX7_at_56 : decode cX7_at 56 = .ok (.invokevirtual 303, 3) := sdX7_at_43.2.2.2.2.2.2.2.1
theorem sdX7_at_59 : dz_Seg cX7_at [(59, .lreturn, 1)] := dz_sg _ 59 (by decide +kernel)
theorem dX7_at_59 : decode cX7_at 59 = .ok (.lreturn, 1) := sdX7_at_59.1
theorem sdX7_both_0 : dz_Seg cX7_both [(0, .aload_n 0, 1), (1, .iload_n 1, 1), (2, .invokevirtual 206, 3), (5, .ifCond .eq 11, 3), (8, .aload_n 0, 1), (9, .iload_n 2, 1), (10, .invokevirtual 206, 3), (13, .ifCond .ne 10, 3)] := dz_sg _ 0 (by decide +kernel)
theorem dX7_both_0 : decode cX7_both 0 = .ok (.aload_n 0, 1) := sdX7_both_0.1
theorem dX7_both_1 : decode cX7_both 1 = .ok (.iload_n 1, 1) := sdX7_both_0.2.1
theorem dX7_both_2 : decode cX7_both 2 = .ok (.invokevirtual 206, 3) := sdX7_both_0.2.2.1
theorem dX7_both_5 : decode cX7_both 5 = .ok (.ifCond .eq 11, 3) := sdX7_both_0.2.2.2.1
theorem dX7_both_8 : decode cX7_both 8 = .ok (.aload_n 0, 1) := sdX7_both_0.2.2.2.2.1
theorem dX7_both_9 : decode cX7_both 9 = .ok (.iload_n 2, 1) := sdX7_both_0.2.2.2.2.2.1
theorem dX7_both_10 : decode cX7_both 10 = .ok (.invokevirtual 206, 3) := sdX7_both_0.2.2.2.2.2.2.1
theorem dX7_both_13 : decode cX7_both 13 = .ok (.ifCond .ne 10, 3) := sdX7_both_0.2.2.2.2.2.2.2.1
theorem sdX7_both_16 : dz_Seg cX7_both [(16, .aload_n 0, 1), (17, .iconst 2, 1), (18, .invokevirtual 102, 3), (21, .i2l, 1), (22, .lreturn, 1), (23, .iload_n 1, 1), (24, .iload_n 2, 1), (25, .if_icmp .ne 10, 3)] := dz_sg _ 16 (by decide +kernel)
theorem dX7_both_16 : decode cX7_both 16 = .ok (.aload_n 0, 1) := sdX7_both_16.1
theorem dX7_both_17 : decode cX7_both 17 = .ok (.iconst 2, 1) := sdX7_both_16.2.1
theorem dX7_both_18 : decode cX7_both 18 = .ok (.invokevirtual 102, 3) := sdX7_both_16.2.2.1
theorem dX7_both_21 : decode cX7_both 21 = .ok (.i2l, 1) := sdX7_both_16.2.2.2.1
theorem dX7_both_22 : decode cX7_both 22 = .ok (.lreturn, 1) := sdX7_both_16.2.2.2.2.1
theorem dX7_both_23 : decode cX7_both 23 = .ok (.iload_n 1, 1) := sdX7_both_16.2.2.2.2.2.1
theorem dX7_both_24 : decode cX7_both 24 = .ok (.iload_n 2, 1) := sdX7_both_16.2.2.2.2.2.2.1
theorem dX7_both_25 : decode cX7_both 25 = .ok (.if_icmp .ne 10, 3) := sdX7_both_16.2.2.2.2.2.2.2.1
theorem sdX7_both_28 : dz_Seg cX7_both [(28, .aload_n 0, 1), (29, .iconst 4, 1), (30, .invokevirtual 102, 3), (33, .i2l, 1), (34, .lreturn, 1), (35, .aload_n 0, 1), (36, .getfield 40, 3), (39, .getfield 140, 3)] := dz_sg _ 28 (by decide +kernel)
theorem dX7_both_28 : decode cX7_both 28 = .ok (.aload_n 0, 1) := sdX7_both_28.1
theorem dX7_both_29 : decode cX7_both 29 = .ok (.iconst 4, 1) := sdX7_both_28.2.1
theorem dX7_both_30 : decode cX7_both 30 = .ok (.invokevirtual 102, 3) := sdX7_both_28.2.2.1
theorem dX7_both_33 : decode cX7_both 33 = .ok (.i2l, 1) := sdX7_both_28.2.2.2.1
theorem dX7_both_34 : decode cX7_both 34 = .ok (.lreturn, 1) := sdX7_both_28.2.2.2.2.1
theorem dX7_both_35 : decode cX7_both 35 = .ok (.aload_n 0, 1) := sdX7_both_28.2.2.2.2.2.1
theorem dX7_both_36 : decode cX7_both 36 = .ok (.getfield 40, 3) := sdX7_both_28.2.2.2.2.2.2.1
theorem dX7_both_39 : decode cX7_both 39 = .ok (.getfield 140, 3) := sdX7_both_28.2.2.2.2.2.2.2.1
theorem sdX7_both_42 : dz_Seg cX7_both [(42, .bipush 7, 2), (44, .if_icmp .le 10, 3), (47, .aload_n 0, 1), (48, .iconst 3, 1), (49, .invokevirtual 102, 3), (52, .i2l, 1), (53, .lreturn, 1), (54, .aload_n 0, 1)] := dz_sg _ 42 (by decide +kernel)
theorem dX7_both_42 : decode cX7_both 42 = .ok (.bipush 7, 2) := sdX7_both_42.1
theorem dX7_both_44 : decode cX7_both 44 = .ok (.if_icmp .le 10, 3) := sdX7_both_42.2.1
theorem dX7_both_47 : decode cX7_both 47 = .ok (.aload_n 0, 1) := sdX7_both_42.2.2.1
theorem dX7_both_48 : decode cX7_both 48 = .ok (.iconst 3, 1) := sdX7_both_42.2.2.2.1
theorem dX7_both_49 : decode cX7_both 49 = .ok (.invokevirtual 102, 3) := sdX7_both_42.2.2.2.2.1
theorem dX7_both_52 : decode cX7_both 52 = .ok (.i2l, 1) := sdX7_both_42.2.2.2.2.2.1
theorem dX7_both_53 : decode cX7_both 53 = .ok (.lreturn, 1) := sdX7_both_42.2.2.2.2.2.2.1
theorem dX7_both_54 : decode cX7_both 54 = .ok (.aload_n 0, 1) := sdX7_both_42.2.2.2.2.2.2.2.1
theorem sdX7_both_55 : dz_Seg cX7_both [(55, .invokevirtual 296, 3), (58, .aload_n 0, 1), (59, .aload_n 0, 1), (60, .getfield 54, 3), (63, .iconst 1, 1), (64, .iload_n 1, 1), (65, .ishl, 1), (66, .iconst 1, 1)] := dz_sg _ 55 (by decide +kernel)
theorem dX7_both_55 : decode cX7_both 55 = .ok (.invokevirtual 296, 3) := sdX7_both_55.1
theorem dX7_both_58 : decode cX7_both 58 = .ok (.aload_n 0, 1) := sdX7_both_55.2.1
theorem dX7_both_59 : decode cX7_both 59 = .ok (.aload_n 0, 1) := sdX7_both_55.2.2.1
theorem dX7_both_60 : decode cX7_both 60 = .ok (.getfield 54, 3) := sdX7_both_55.2.2.2.1
theorem dX7_both_63 : decode cX7_both 63 = .ok (.iconst 1, 1) := sdX7_both_55.2.2.2.2.1
theorem dX7_both_64 : decode cX7_both 64 = .ok (.iload_n 1, 1) := sdX7_both_55.2.2.2.2.2.1
theorem dX7_both_65 : decode cX7_both 65 = .ok (.ishl, 1) := sdX7_both_55.2.2.2.2.2.2.1
theorem dX7_both_66 : decode cX7_both 66 = .ok (.iconst 1, 1) := sdX7_both_55.2.2.2.2.2.2.2.1
theorem sdX7_both_67 : dz_Seg cX7_both [(67, .iload_n 2, 1), (68, .ishl, 1), (69, .ior, 1), (70, .invokevirtual 319, 3), (73, .invokevirtual 303, 3), (76, .lreturn, 1)] := dz_sg _ 67 (by decide +kernel)
theorem dX7_both_67 : decode cX7_both 67 = .ok (.iload_n 2, 1) := sdX7_both_67.1
theorem dX7_both_68 : decode cX7_both 68 = .ok (.ishl, 1) := sdX7_both_67.2.1
theorem dX7_both_69 : decode cX7_both 69 = .ok (.ior, 1) := sdX7_both_67.2.2.1
theorem dX7_both_70 : decode cX7_both 70 = .ok (.invokevirtual 319, 3) := sdX7_both_67.2.2.2.1
theorem dX7_both_73 : decode cX7_both 73 = .ok (.invokevirtual 303, 3) := sdX7_both_67.2.2.2.2.1
theorem dX7_both_76 : decode cX7_both 76 = .ok (.lreturn, 1) := sdX7_both_67.2.2.2.2.2.1
theorem sdX7_sure_0 : dz_Seg cX7_sure [(0, .iload_n 1, 1), (1, .ifCond .lt 8, 3), (4, .iload_n 1, 1), (5, .iconst 1, 1), (6, .if_icmp .le 9, 3), (9, .aload_n 0, 1), (10, .iconst 1, 1), (11, .invokevirtual 102, 3)] := dz_sg _ 0 (by decide +kernel)
theorem dX7_sure_0 : decode cX7_sure 0 = .ok (.iload_n 1, 1) := sdX7_sure_0.1
theorem dX7_sure_1 : decode cX7_sure 1 = .ok (.ifCond .lt 8, 3) := sdX7_sure_0.2.1
theorem dX7_sure_4 : decode cX7_sure 4 = .ok (.iload_n 1, 1) := sdX7_sure_0.2.2.1
theorem dX7_sure_5 : decode cX7_sure 5 = .ok (.iconst 1, 1) := sdX7_sure_0.2.2.2.1
theorem dX7_sure_6 : decode cX7_sure 6 = .ok (.if_icmp .le 9, 3) := sdX7_sure_0.2.2.2.2.1
theorem dX7_sure_9 : decode cX7_sure 9 = .ok (.aload_n 0, 1) := sdX7_sure_0.2.2.2.2.2.1
theorem dX7_sure_10 : decode cX7_sure 10 = .ok (.iconst 1, 1) := sdX7_sure_0.2.2.2.2.2.2.1
theorem dX7_sure_11 : decode cX7_sure 11 = .ok (.invokevirtual 102, 3) := sdX7_sure_0.2.2.2.2.2.2.2.1
theorem sdX7_sure_14 : dz_Seg cX7_sure [(14, .ireturn, 1), (15, .aload_n 0, 1), (16, .getfield 40, 3), (19, .getfield 140, 3), (22, .bipush 7, 2), (24, .if_icmp .le 9, 3), (27, .aload_n 0, 1), (28, .iconst 3, 1)] := dz_sg _ 14 (by decide +kernel)
theorem dX7_sure_14 : decode cX7_sure 14 = .ok (.ireturn, 1) := sdX7_sure_14.1
theorem dX7_sure_15 : decode cX7_sure 15 = .ok (.aload_n 0, 1) := sdX7_sure_14.2.1
theorem dX7_sure_16 : decode cX7_sure 16 = .ok (.getfield 40, 3) := sdX7_sure_14.2.2.1
theorem dX7_sure_19 : decode cX7_sure 19 = .ok (.getfield 140, 3) := sdX7_sure_14.2.2.2.1
theorem dX7_sure_22 : decode cX7_sure 22 = .ok (.bipush 7, 2) := sdX7_sure_14.2.2.2.2.1
theorem dX7_sure_24 : decode cX7_sure 24 = .ok (.if_icmp .le 9, 3) := sdX7_sure_14.2.2.2.2.2.1
theorem dX7_sure_27 : decode cX7_sure 27 = .ok (.aload_n 0, 1) := sdX7_sure_14.2.2.2.2.2.2.1
theorem dX7_sure_28 : decode cX7_sure 28 = .ok (.iconst 3, 1) := sdX7_sure_14.2.2.2.2.2.2.2.1
theorem sdX7_sure_29 : dz_Seg cX7_sure [(29, .invokevirtual 102, 3), (32, .ireturn, 1), (33, .aload_n 0, 1), (34, .invokevirtual 296, 3), (37, .iconst 1, 1), (38, .aload_n 0, 1), (39, .getfield 40, 3), (42, .getfield 140, 3)] := dz_sg _ 29 (by decide +kernel)
theorem dX7_sure_29 : decode cX7_sure 29 = .ok (.invokevirtual 102, 3) := sdX7_sure_29.1
theorem dX7_sure_32 : decode cX7_sure 32 = .ok (.ireturn, 1) := sdX7_sure_29.2.1
theorem dX7_sure_33 : decode cX7_sure 33 = .ok (.aload_n 0, 1) := sdX7_sure_29.2.2.1
theorem dX7_sure_34 : decode cX7_sure 34 = .ok (.invokevirtual 296, 3) := sdX7_sure_29.2.2.2.1
theorem dX7_sure_37 : decode cX7_sure 37 = .ok (.iconst 1, 1) := sdX7_sure_29.2.2.2.2.1
theorem dX7_sure_38 : decode cX7_sure 38 = .ok (.aload_n 0, 1) := sdX7_sure_29.2.2.2.2.2.1
theorem dX7_sure_39 : decode cX7_sure 39 = .ok (.getfield 40, 3) := sdX7_sure_29.2.2.2.2.2.2.1
theorem dX7_sure_42 : decode cX7_sure 42 = .ok (.getfield 140, 3) := sdX7_sure_29.2.2.2.2.2.2.2.1
theorem sdX7_sure_45 : dz_Seg cX7_sure [(45, .ishl, 1), (46, .iconst 1, 1), (47, .isub, 1), (48, .istore_n 2, 1), (49, .aload_n 0, 1), (50, .iload_n 1, 1), (51, .ifCond .ne 13, 3), (54, .aload_n 0, 1)] := dz_sg _ 45 (by decide +kernel)
theorem dX7_sure_45 : decode cX7_sure 45 = .ok (.ishl, 1) := sdX7_sure_45.1
theorem dX7_sure_46 : decode cX7_sure 46 = .ok (.iconst 1, 1) := sdX7_sure_45.2.1
theorem dX7_sure_47 : decode cX7_sure 47 = .ok (.isub, 1) := sdX7_sure_45.2.2.1
theorem dX7_sure_48 : decode cX7_sure 48 = .ok (.istore_n 2, 1) := sdX7_sure_45.2.2.2.1
theorem dX7_sure_49 : decode cX7_sure 49 = .ok (.aload_n 0, 1) := sdX7_sure_45.2.2.2.2.1
theorem dX7_sure_50 : decode cX7_sure 50 = .ok (.iload_n 1, 1) := sdX7_sure_45.2.2.2.2.2.1
theorem dX7_sure_51 : decode cX7_sure 51 = .ok (.ifCond .ne 13, 3) := sdX7_sure_45.2.2.2.2.2.2.1
theorem dX7_sure_54 : decode cX7_sure 54 = .ok (.aload_n 0, 1) := sdX7_sure_45.2.2.2.2.2.2.2.1
theorem sdX7_sure_55 : dz_Seg cX7_sure [(55, .getfield 54, 3), (58, .invokevirtual 322, 3), (61, .goto 14, 3), (64, .iload_n 2, 1), (65, .aload_n 0, 1), (66, .getfield 54, 3), (69, .invokevirtual 326, 3), (72, .iconst (-1), 1)] := dz_sg _ 55 (by decide +kernel)
theorem dX7_sure_55 : decode cX7_sure 55 = .ok (.getfield 54, 3) := sdX7_sure_55.1
theorem dX7_sure_58 : decode cX7_sure 58 = .ok (.invokevirtual 322, 3) := sdX7_sure_55.2.1
theorem dX7_sure_61 : decode cX7_sure 61 = .ok (.goto 14, 3) := sdX7_sure_55.2.2.1
theorem dX7_sure_64 : decode cX7_sure 64 = .ok (.iload_n 2, 1) := sdX7_sure_55.2.2.2.1
theorem dX7_sure_65 : decode cX7_sure 65 = .ok (.aload_n 0, 1) := sdX7_sure_55.2.2.2.2.1
theorem dX7_sure_66 : decode cX7_sure 66 = .ok (.getfield 54, 3) := sdX7_sure_55.2.2.2.2.2.1
theorem dX7_sure_69 : decode cX7_sure 69 = .ok (.invokevirtual 326, 3) := sdX7_sure_55.2.2.2.2.2.2.1
theorem dX7_sure_72 : decode cX7_sure 72 = .ok (.iconst (-1), 1) := sdX7_sure_55.2.2.2.2.2.2.2.1
theorem sdX7_sure_73 : dz_Seg cX7_sure [(73, .ixor, 1), (74, .iand, 1), (75, .invokevirtual 134, 3), (78, .ireturn, 1)] := dz_sg _ 73 (by decide +kernel)
theorem dX7_sure_73 : decode cX7_sure 73 = .ok (.ixor, 1) := sdX7_sure_73.1
theorem dX7_sure_74 : decode cX7_sure 74 = .ok (.iand, 1) := sdX7_sure_73.2.1
theorem dX7_sure_75 : decode cX7_sure 75 = .ok (.invokevirtual 134, 3) := sdX7_sure_73.2.2.1
theorem dX7_sure_78 : decode cX7_sure 78 = .ok (.ireturn, 1) := sdX7_sure_73.2.2.2.1
theorem sdX7_mean_0 : dz_Seg cX7_mean [(0, .aload_n 0, 1), (1, .iload_n 1, 1), (2, .invokevirtual 188, 3), (5, .ifCond .ne 10, 3), (8, .aload_n 0, 1), (9, .iconst 2, 1), (10, .invokevirtual 102, 3), (13, .i2l, 1)] := dz_sg _ 0 (by decide +kernel)
theorem dX7_mean_0 : decode cX7_mean 0 = .ok (.aload_n 0, 1) := sdX7_mean_0.1
theorem dX7_mean_1 : decode cX7_mean 1 = .ok (.iload_n 1, 1) := sdX7_mean_0.2.1
theorem dX7_mean_2 : decode cX7_mean 2 = .ok (.invokevirtual 188, 3) := sdX7_mean_0.2.2.1
theorem dX7_mean_5 : decode cX7_mean 5 = .ok (.ifCond .ne 10, 3) := sdX7_mean_0.2.2.2.1
theorem dX7_mean_8 : decode cX7_mean 8 = .ok (.aload_n 0, 1) := sdX7_mean_0.2.2.2.2.1
theorem dX7_mean_9 : decode cX7_mean 9 = .ok (.iconst 2, 1) := sdX7_mean_0.2.2.2.2.2.1
theorem dX7_mean_10 : decode cX7_mean 10 = .ok (.invokevirtual 102, 3) := sdX7_mean_0.2.2.2.2.2.2.1
theorem dX7_mean_13 : decode cX7_mean 13 = .ok (.i2l, 1) := sdX7_mean_0.2.2.2.2.2.2.2.1
theorem sdX7_mean_14 : dz_Seg cX7_mean [(14, .lreturn, 1), (15, .aload_n 0, 1), (16, .getfield 40, 3), (19, .getfield 140, 3), (22, .bipush 7, 2), (24, .if_icmp .le 10, 3), (27, .aload_n 0, 1), (28, .iconst 3, 1)] := dz_sg _ 14 (by decide +kernel)
theorem dX7_mean_14 : decode cX7_mean 14 = .ok (.lreturn, 1) := sdX7_mean_14.1
theorem dX7_mean_15 : decode cX7_mean 15 = .ok (.aload_n 0, 1) := sdX7_mean_14.2.1
theorem dX7_mean_16 : decode cX7_mean 16 = .ok (.getfield 40, 3) := sdX7_mean_14.2.2.1
theorem dX7_mean_19 : decode cX7_mean 19 = .ok (.getfield 140, 3) := sdX7_mean_14.2.2.2.1
theorem dX7_mean_22 : decode cX7_mean 22 = .ok (.bipush 7, 2) := sdX7_mean_14.2.2.2.2.1
theorem dX7_mean_24 : decode cX7_mean 24 = .ok (.if_icmp .le 10, 3) := sdX7_mean_14.2.2.2.2.2.1
theorem dX7_mean_27 : decode cX7_mean 27 = .ok (.aload_n 0, 1) := sdX7_mean_14.2.2.2.2.2.2.1
theorem dX7_mean_28 : decode cX7_mean 28 = .ok (.iconst 3, 1) := sdX7_mean_14.2.2.2.2.2.2.2.1
theorem sdX7_mean_29 : dz_Seg cX7_mean [(29, .invokevirtual 102, 3), (32, .i2l, 1), (33, .lreturn, 1), (34, .aload_n 0, 1), (35, .invokevirtual 296, 3), (38, .lconst 0, 1), (39, .lstore_n 2, 1), (40, .iconst 0, 1)] := dz_sg _ 29 (by decide +kernel)
theorem dX7_mean_29 : decode cX7_mean 29 = .ok (.invokevirtual 102, 3) := sdX7_mean_29.1
theorem dX7_mean_32 : decode cX7_mean 32 = .ok (.i2l, 1) := sdX7_mean_29.2.1
theorem dX7_mean_33 : decode cX7_mean 33 = .ok (.lreturn, 1) := sdX7_mean_29.2.2.1
theorem dX7_mean_34 : decode cX7_mean 34 = .ok (.aload_n 0, 1) := sdX7_mean_29.2.2.2.1
theorem dX7_mean_35 : decode cX7_mean 35 = .ok (.invokevirtual 296, 3) := sdX7_mean_29.2.2.2.2.1
theorem dX7_mean_38 : decode cX7_mean 38 = .ok (.lconst 0, 1) := sdX7_mean_29.2.2.2.2.2.1
theorem dX7_mean_39 : decode cX7_mean 39 = .ok (.lstore_n 2, 1) := sdX7_mean_29.2.2.2.2.2.2.1
theorem dX7_mean_40 : decode cX7_mean 40 = .ok (.iconst 0, 1) := sdX7_mean_29.2.2.2.2.2.2.2.1
theorem sdX7_mean_41 : dz_Seg cX7_mean [(41, .istore 4, 2), (43, .iload 4, 2), (45, .aload_n 0, 1), (46, .getfield 40, 3), (49, .getfield 140, 3), (52, .if_icmp .ge 36, 3), (55, .lload_n 2, 1), (56, .aload_n 0, 1)] := dz_sg _ 41 (by decide +kernel)
theorem dX7_mean_41 : decode cX7_mean 41 = .ok (.istore 4, 2) := sdX7_mean_41.1
theorem dX7_mean_43 : decode cX7_mean 43 = .ok (.iload 4, 2) := sdX7_mean_41.2.1
theorem dX7_mean_45 : decode cX7_mean 45 = .ok (.aload_n 0, 1) := sdX7_mean_41.2.2.1
theorem dX7_mean_46 : decode cX7_mean 46 = .ok (.getfield 40, 3) := sdX7_mean_41.2.2.2.1
theorem dX7_mean_49 : decode cX7_mean 49 = .ok (.getfield 140, 3) := sdX7_mean_41.2.2.2.2.1
theorem dX7_mean_52 : decode cX7_mean 52 = .ok (.if_icmp .ge 36, 3) := sdX7_mean_41.2.2.2.2.2.1
theorem dX7_mean_55 : decode cX7_mean 55 = .ok (.lload_n 2, 1) := sdX7_mean_41.2.2.2.2.2.2.1
theorem dX7_mean_56 : decode cX7_mean 56 = .ok (.aload_n 0, 1) := sdX7_mean_41.2.2.2.2.2.2.2.1
theorem sdX7_mean_57 : dz_Seg cX7_mean [(57, .getfield 40, 3), (60, .getfield 209, 3), (63, .iload 4, 2), (65, .invokestatic 175, 3), (68, .i2l, 1), (69, .aload_n 0, 1), (70, .getfield 54, 3), (73, .iload 4, 2)] := dz_sg _ 57 (by decide +kernel)
theorem dX7_mean_57 : decode cX7_mean 57 = .ok (.getfield 40, 3) := sdX7_mean_57.1
theorem dX7_mean_60 : decode cX7_mean 60 = .ok (.getfield 209, 3) := sdX7_mean_57.2.1
theorem dX7_mean_63 : decode cX7_mean 63 = .ok (.iload 4, 2) := sdX7_mean_57.2.2.1
theorem dX7_mean_65 : decode cX7_mean 65 = .ok (.invokestatic 175, 3) := sdX7_mean_57.2.2.2.1
theorem dX7_mean_68 : decode cX7_mean 68 = .ok (.i2l, 1) := sdX7_mean_57.2.2.2.2.1
theorem dX7_mean_69 : decode cX7_mean 69 = .ok (.aload_n 0, 1) := sdX7_mean_57.2.2.2.2.2.1
theorem dX7_mean_70 : decode cX7_mean 70 = .ok (.getfield 54, 3) := sdX7_mean_57.2.2.2.2.2.2.1
theorem dX7_mean_73 : decode cX7_mean 73 = .ok (.iload 4, 2) := sdX7_mean_57.2.2.2.2.2.2.2.1
theorem sdX7_mean_75 : dz_Seg cX7_mean [(75, .iload_n 1, 1), (76, .invokevirtual 307, 3), (79, .lmul, 1), (80, .ladd, 1), (81, .lstore_n 2, 1), (82, .iinc 4 1, 3), (85, .goto (-42), 3), (88, .aload_n 0, 1)] := dz_sg _ 75 (by decide +kernel)
theorem dX7_mean_75 : decode cX7_mean 75 = .ok (.iload_n 1, 1) := sdX7_mean_75.1
theorem dX7_mean_76 : decode cX7_mean 76 = .ok (.invokevirtual 307, 3) := sdX7_mean_75.2.1
theorem dX7_mean_79 : decode cX7_mean 79 = .ok (.lmul, 1) := sdX7_mean_75.2.2.1
theorem dX7_mean_80 : decode cX7_mean 80 = .ok (.ladd, 1) := sdX7_mean_75.2.2.2.1
theorem dX7_mean_81 : decode cX7_mean 81 = .ok (.lstore_n 2, 1) := sdX7_mean_75.2.2.2.2.1
theorem dX7_mean_82 : decode cX7_mean 82 = .ok (.iinc 4 1, 3) := sdX7_mean_75.2.2.2.2.2.1
theorem dX7_mean_85 : decode cX7_mean 85 = .ok (.goto (-42), 3) := sdX7_mean_75.2.2.2.2.2.2.1
theorem dX7_mean_88 : decode cX7_mean 88 = .ok (.aload_n 0, 1) := sdX7_mean_75.2.2.2.2.2.2.2.1
theorem sdX7_mean_89 : dz_Seg cX7_mean [(89, .lload_n 2, 1), (90, .invokevirtual 303, 3), (93, .lreturn, 1)] := dz_sg _ 89 (by decide +kernel)
theorem dX7_mean_89 : decode cX7_mean 89 = .ok (.lload_n 2, 1) := sdX7_mean_89.1
theorem dX7_mean_90 : decode cX7_mean 90 = .ok (.invokevirtual 303, 3) := sdX7_mean_89.2.1
theorem dX7_mean_93 : decode cX7_mean 93 = .ok (.lreturn, 1) := sdX7_mean_89.2.2.1
theorem sdX7_given_0 : dz_Seg cX7_given [(0, .iload_n 1, 1), (1, .ifCond .lt 8, 3), (4, .iload_n 1, 1), (5, .iconst 1, 1), (6, .if_icmp .le 9, 3), (9, .aload_n 0, 1), (10, .iconst 1, 1), (11, .invokevirtual 102, 3)] := dz_sg _ 0 (by decide +kernel)
theorem dX7_given_0 : decode cX7_given 0 = .ok (.iload_n 1, 1) := sdX7_given_0.1
theorem dX7_given_1 : decode cX7_given 1 = .ok (.ifCond .lt 8, 3) := sdX7_given_0.2.1
theorem dX7_given_4 : decode cX7_given 4 = .ok (.iload_n 1, 1) := sdX7_given_0.2.2.1
theorem dX7_given_5 : decode cX7_given 5 = .ok (.iconst 1, 1) := sdX7_given_0.2.2.2.1
theorem dX7_given_6 : decode cX7_given 6 = .ok (.if_icmp .le 9, 3) := sdX7_given_0.2.2.2.2.1
theorem dX7_given_9 : decode cX7_given 9 = .ok (.aload_n 0, 1) := sdX7_given_0.2.2.2.2.2.1
theorem dX7_given_10 : decode cX7_given 10 = .ok (.iconst 1, 1) := sdX7_given_0.2.2.2.2.2.2.1
theorem dX7_given_11 : decode cX7_given 11 = .ok (.invokevirtual 102, 3) := sdX7_given_0.2.2.2.2.2.2.2.1
theorem sdX7_given_14 : dz_Seg cX7_given [(14, .ireturn, 1), (15, .aload_n 0, 1), (16, .getfield 40, 3), (19, .getfield 140, 3), (22, .bipush 7, 2), (24, .if_icmp .le 9, 3), (27, .aload_n 0, 1), (28, .iconst 3, 1)] := dz_sg _ 14 (by decide +kernel)
theorem dX7_given_14 : decode cX7_given 14 = .ok (.ireturn, 1) := sdX7_given_14.1
theorem dX7_given_15 : decode cX7_given 15 = .ok (.aload_n 0, 1) := sdX7_given_14.2.1
theorem dX7_given_16 : decode cX7_given 16 = .ok (.getfield 40, 3) := sdX7_given_14.2.2.1
theorem dX7_given_19 : decode cX7_given 19 = .ok (.getfield 140, 3) := sdX7_given_14.2.2.2.1
theorem dX7_given_22 : decode cX7_given 22 = .ok (.bipush 7, 2) := sdX7_given_14.2.2.2.2.1
theorem dX7_given_24 : decode cX7_given 24 = .ok (.if_icmp .le 9, 3) := sdX7_given_14.2.2.2.2.2.1
theorem dX7_given_27 : decode cX7_given 27 = .ok (.aload_n 0, 1) := sdX7_given_14.2.2.2.2.2.2.1
theorem dX7_given_28 : decode cX7_given 28 = .ok (.iconst 3, 1) := sdX7_given_14.2.2.2.2.2.2.2.1
theorem sdX7_given_29 : dz_Seg cX7_given [(29, .invokevirtual 102, 3), (32, .ireturn, 1), (33, .aload_n 0, 1), (34, .invokevirtual 296, 3), (37, .aload_n 0, 1), (38, .iload_n 1, 1), (39, .ifCond .ne 17, 3), (42, .aload_n 0, 1)] := dz_sg _ 29 (by decide +kernel)
theorem dX7_given_29 : decode cX7_given 29 = .ok (.invokevirtual 102, 3) := sdX7_given_29.1
theorem dX7_given_32 : decode cX7_given 32 = .ok (.ireturn, 1) := sdX7_given_29.2.1
theorem dX7_given_33 : decode cX7_given 33 = .ok (.aload_n 0, 1) := sdX7_given_29.2.2.1
theorem dX7_given_34 : decode cX7_given 34 = .ok (.invokevirtual 296, 3) := sdX7_given_29.2.2.2.1
theorem dX7_given_37 : decode cX7_given 37 = .ok (.aload_n 0, 1) := sdX7_given_29.2.2.2.2.1
theorem dX7_given_38 : decode cX7_given 38 = .ok (.iload_n 1, 1) := sdX7_given_29.2.2.2.2.2.1
theorem dX7_given_39 : decode cX7_given 39 = .ok (.ifCond .ne 17, 3) := sdX7_given_29.2.2.2.2.2.2.1
theorem dX7_given_42 : decode cX7_given 42 = .ok (.aload_n 0, 1) := sdX7_given_29.2.2.2.2.2.2.2.1
theorem sdX7_given_43 : dz_Seg cX7_given [(43, .getfield 54, 3), (46, .aload_n 0, 1), (47, .getfield 40, 3), (50, .invokevirtual 329, 3), (53, .goto 14, 3), (56, .aload_n 0, 1), (57, .getfield 54, 3), (60, .aload_n 0, 1)] := dz_sg _ 43 (by decide +kernel)
theorem dX7_given_43 : decode cX7_given 43 = .ok (.getfield 54, 3) := sdX7_given_43.1
theorem dX7_given_46 : decode cX7_given 46 = .ok (.aload_n 0, 1) := sdX7_given_43.2.1
theorem dX7_given_47 : decode cX7_given 47 = .ok (.getfield 40, 3) := sdX7_given_43.2.2.1
theorem dX7_given_50 : decode cX7_given 50 = .ok (.invokevirtual 329, 3) := sdX7_given_43.2.2.2.1
theorem dX7_given_53 : decode cX7_given 53 = .ok (.goto 14, 3) := sdX7_given_43.2.2.2.2.1
theorem dX7_given_56 : decode cX7_given 56 = .ok (.aload_n 0, 1) := sdX7_given_43.2.2.2.2.2.1
theorem dX7_given_57 : decode cX7_given 57 = .ok (.getfield 54, 3) := sdX7_given_43.2.2.2.2.2.2.1
theorem dX7_given_60 : decode cX7_given 60 = .ok (.aload_n 0, 1) := sdX7_given_43.2.2.2.2.2.2.2.1
theorem sdX7_given_61 : dz_Seg cX7_given [(61, .getfield 40, 3), (64, .invokevirtual 333, 3), (67, .invokevirtual 134, 3), (70, .ireturn, 1)] := dz_sg _ 61 (by decide +kernel)
theorem dX7_given_61 : decode cX7_given 61 = .ok (.getfield 40, 3) := sdX7_given_61.1
theorem dX7_given_64 : decode cX7_given 64 = .ok (.invokevirtual 333, 3) := sdX7_given_61.2.1
theorem dX7_given_67 : decode cX7_given 67 = .ok (.invokevirtual 134, 3) := sdX7_given_61.2.2.1
theorem dX7_given_70 : decode cX7_given 70 = .ok (.ireturn, 1) := sdX7_given_61.2.2.2.1
theorem sdX7_ends_0 : dz_Seg cX7_ends [(0, .aload_n 0, 1), (1, .getfield 40, 3), (4, .getfield 140, 3), (7, .bipush 7, 2), (9, .if_icmp .le 9, 3), (12, .aload_n 0, 1), (13, .iconst 3, 1), (14, .invokevirtual 102, 3)] := dz_sg _ 0 (by decide +kernel)
theorem dX7_ends_0 : decode cX7_ends 0 = .ok (.aload_n 0, 1) := sdX7_ends_0.1
theorem dX7_ends_1 : decode cX7_ends 1 = .ok (.getfield 40, 3) := sdX7_ends_0.2.1
theorem dX7_ends_4 : decode cX7_ends 4 = .ok (.getfield 140, 3) := sdX7_ends_0.2.2.1
theorem dX7_ends_7 : decode cX7_ends 7 = .ok (.bipush 7, 2) := sdX7_ends_0.2.2.2.1
theorem dX7_ends_9 : decode cX7_ends 9 = .ok (.if_icmp .le 9, 3) := sdX7_ends_0.2.2.2.2.1
theorem dX7_ends_12 : decode cX7_ends 12 = .ok (.aload_n 0, 1) := sdX7_ends_0.2.2.2.2.2.1
theorem dX7_ends_13 : decode cX7_ends 13 = .ok (.iconst 3, 1) := sdX7_ends_0.2.2.2.2.2.2.1
theorem dX7_ends_14 : decode cX7_ends 14 = .ok (.invokevirtual 102, 3) := sdX7_ends_0.2.2.2.2.2.2.2.1
theorem sdX7_ends_17 : dz_Seg cX7_ends [(17, .ireturn, 1), (18, .aload_n 0, 1), (19, .invokevirtual 296, 3), (22, .aload_n 0, 1), (23, .aload_n 0, 1), (24, .getfield 54, 3), (27, .getfield 336, 3), (30, .invokestatic 161, 3)] := dz_sg _ 17 (by decide +kernel)
theorem dX7_ends_17 : decode cX7_ends 17 = .ok (.ireturn, 1) := sdX7_ends_17.1
theorem dX7_ends_18 : decode cX7_ends 18 = .ok (.aload_n 0, 1) := sdX7_ends_17.2.1
theorem dX7_ends_19 : decode cX7_ends 19 = .ok (.invokevirtual 296, 3) := sdX7_ends_17.2.2.1
theorem dX7_ends_22 : decode cX7_ends 22 = .ok (.aload_n 0, 1) := sdX7_ends_17.2.2.2.1
theorem dX7_ends_23 : decode cX7_ends 23 = .ok (.aload_n 0, 1) := sdX7_ends_17.2.2.2.2.1
theorem dX7_ends_24 : decode cX7_ends 24 = .ok (.getfield 54, 3) := sdX7_ends_17.2.2.2.2.2.1
theorem dX7_ends_27 : decode cX7_ends 27 = .ok (.getfield 336, 3) := sdX7_ends_17.2.2.2.2.2.2.1
theorem dX7_ends_30 : decode cX7_ends 30 = .ok (.invokestatic 161, 3) := sdX7_ends_17.2.2.2.2.2.2.2.1
theorem sdX7_ends_33 : dz_Seg cX7_ends [(33, .invokevirtual 134, 3), (36, .ireturn, 1)] := dz_sg _ 33 (by decide +kernel)
theorem dX7_ends_33 : decode cX7_ends 33 = .ok (.invokevirtual 134, 3) := sdX7_ends_33.1
theorem dX7_ends_36 : decode cX7_ends 36 = .ok (.ireturn, 1) := sdX7_ends_33.2.1
theorem sdX7_need_0 : dz_Seg cX7_need [(0, .iload_n 2, 1), (1, .ifCond .lt 10, 3), (4, .iload_n 2, 1), (5, .sipush 1000, 3), (8, .if_icmp .le 9, 3), (11, .aload_n 0, 1), (12, .iconst 1, 1), (13, .invokevirtual 102, 3)] := dz_sg _ 0 (by decide +kernel)
theorem dX7_need_0 : decode cX7_need 0 = .ok (.iload_n 2, 1) := sdX7_need_0.1
theorem dX7_need_1 : decode cX7_need 1 = .ok (.ifCond .lt 10, 3) := sdX7_need_0.2.1
theorem dX7_need_4 : decode cX7_need 4 = .ok (.iload_n 2, 1) := sdX7_need_0.2.2.1
theorem dX7_need_5 : decode cX7_need 5 = .ok (.sipush 1000, 3) := sdX7_need_0.2.2.2.1
theorem dX7_need_8 : decode cX7_need 8 = .ok (.if_icmp .le 9, 3) := sdX7_need_0.2.2.2.2.1
theorem dX7_need_11 : decode cX7_need 11 = .ok (.aload_n 0, 1) := sdX7_need_0.2.2.2.2.2.1
theorem dX7_need_12 : decode cX7_need 12 = .ok (.iconst 1, 1) := sdX7_need_0.2.2.2.2.2.2.1
theorem dX7_need_13 : decode cX7_need 13 = .ok (.invokevirtual 102, 3) := sdX7_need_0.2.2.2.2.2.2.2.1
theorem sdX7_need_16 : dz_Seg cX7_need [(16, .ireturn, 1), (17, .aload_n 0, 1), (18, .iload_n 1, 1), (19, .invokevirtual 168, 3), (22, .ifCond .ne 9, 3), (25, .aload_n 0, 1), (26, .iconst 2, 1), (27, .invokevirtual 102, 3)] := dz_sg _ 16 (by decide +kernel)
theorem dX7_need_16 : decode cX7_need 16 = .ok (.ireturn, 1) := sdX7_need_16.1
theorem dX7_need_17 : decode cX7_need 17 = .ok (.aload_n 0, 1) := sdX7_need_16.2.1
theorem dX7_need_18 : decode cX7_need 18 = .ok (.iload_n 1, 1) := sdX7_need_16.2.2.1
theorem dX7_need_19 : decode cX7_need 19 = .ok (.invokevirtual 168, 3) := sdX7_need_16.2.2.2.1
theorem dX7_need_22 : decode cX7_need 22 = .ok (.ifCond .ne 9, 3) := sdX7_need_16.2.2.2.2.1
theorem dX7_need_25 : decode cX7_need 25 = .ok (.aload_n 0, 1) := sdX7_need_16.2.2.2.2.2.1
theorem dX7_need_26 : decode cX7_need 26 = .ok (.iconst 2, 1) := sdX7_need_16.2.2.2.2.2.2.1
theorem dX7_need_27 : decode cX7_need 27 = .ok (.invokevirtual 102, 3) := sdX7_need_16.2.2.2.2.2.2.2.1
theorem sdX7_need_30 : dz_Seg cX7_need [(30, .ireturn, 1), (31, .aload_n 0, 1), (32, .getfield 26, 3), (35, .getfield 179, 3), (38, .iload_n 1, 1), (39, .invokestatic 175, 3), (42, .iconst (-1), 1), (43, .if_icmp .eq 10, 3)] := dz_sg _ 30 (by decide +kernel)
theorem dX7_need_30 : decode cX7_need 30 = .ok (.ireturn, 1) := sdX7_need_30.1
theorem dX7_need_31 : decode cX7_need 31 = .ok (.aload_n 0, 1) := sdX7_need_30.2.1
theorem dX7_need_32 : decode cX7_need 32 = .ok (.getfield 26, 3) := sdX7_need_30.2.2.1
theorem dX7_need_35 : decode cX7_need 35 = .ok (.getfield 179, 3) := sdX7_need_30.2.2.2.1
theorem dX7_need_38 : decode cX7_need 38 = .ok (.iload_n 1, 1) := sdX7_need_30.2.2.2.2.1
theorem dX7_need_39 : decode cX7_need 39 = .ok (.invokestatic 175, 3) := sdX7_need_30.2.2.2.2.2.1
theorem dX7_need_42 : decode cX7_need 42 = .ok (.iconst (-1), 1) := sdX7_need_30.2.2.2.2.2.2.1
theorem dX7_need_43 : decode cX7_need 43 = .ok (.if_icmp .eq 10, 3) := sdX7_need_30.2.2.2.2.2.2.2.1
theorem sdX7_need_46 : dz_Seg cX7_need [(46, .aload_n 0, 1), (47, .bipush 7, 2), (49, .invokevirtual 102, 3), (52, .ireturn, 1), (53, .aload_n 0, 1), (54, .getfield 40, 3), (57, .getfield 140, 3), (60, .bipush 7, 2)] := dz_sg _ 46 (by decide +kernel)
theorem dX7_need_46 : decode cX7_need 46 = .ok (.aload_n 0, 1) := sdX7_need_46.1
theorem dX7_need_47 : decode cX7_need 47 = .ok (.bipush 7, 2) := sdX7_need_46.2.1
theorem dX7_need_49 : decode cX7_need 49 = .ok (.invokevirtual 102, 3) := sdX7_need_46.2.2.1
theorem dX7_need_52 : decode cX7_need 52 = .ok (.ireturn, 1) := sdX7_need_46.2.2.2.1
theorem dX7_need_53 : decode cX7_need 53 = .ok (.aload_n 0, 1) := sdX7_need_46.2.2.2.2.1
theorem dX7_need_54 : decode cX7_need 54 = .ok (.getfield 40, 3) := sdX7_need_46.2.2.2.2.2.1
theorem dX7_need_57 : decode cX7_need 57 = .ok (.getfield 140, 3) := sdX7_need_46.2.2.2.2.2.2.1
theorem dX7_need_60 : decode cX7_need 60 = .ok (.bipush 7, 2) := sdX7_need_46.2.2.2.2.2.2.2.1
theorem sdX7_need_62 : dz_Seg cX7_need [(62, .if_icmp .le 9, 3), (65, .aload_n 0, 1), (66, .iconst 3, 1), (67, .invokevirtual 102, 3), (70, .ireturn, 1), (71, .aload_n 0, 1), (72, .getfield 40, 3), (75, .getfield 182, 3)] := dz_sg _ 62 (by decide +kernel)
theorem dX7_need_62 : decode cX7_need 62 = .ok (.if_icmp .le 9, 3) := sdX7_need_62.1
theorem dX7_need_65 : decode cX7_need 65 = .ok (.aload_n 0, 1) := sdX7_need_62.2.1
theorem dX7_need_66 : decode cX7_need 66 = .ok (.iconst 3, 1) := sdX7_need_62.2.2.1
theorem dX7_need_67 : decode cX7_need 67 = .ok (.invokevirtual 102, 3) := sdX7_need_62.2.2.2.1
theorem dX7_need_70 : decode cX7_need 70 = .ok (.ireturn, 1) := sdX7_need_62.2.2.2.2.1
theorem dX7_need_71 : decode cX7_need 71 = .ok (.aload_n 0, 1) := sdX7_need_62.2.2.2.2.2.1
theorem dX7_need_72 : decode cX7_need 72 = .ok (.getfield 40, 3) := sdX7_need_62.2.2.2.2.2.2.1
theorem dX7_need_75 : decode cX7_need 75 = .ok (.getfield 182, 3) := sdX7_need_62.2.2.2.2.2.2.2.1
theorem sdX7_need_78 : dz_Seg cX7_need [(78, .iload_n 1, 1), (79, .invokestatic 175, 3), (82, .istore_n 3, 1), (83, .aload_n 0, 1), (84, .getfield 65, 3), (87, .aload_n 0, 1), (88, .getfield 26, 3), (91, .invokevirtual 113, 3)] := dz_sg _ 78 (by decide +kernel)
theorem dX7_need_78 : decode cX7_need 78 = .ok (.iload_n 1, 1) := sdX7_need_78.1
theorem dX7_need_79 : decode cX7_need 79 = .ok (.invokestatic 175, 3) := sdX7_need_78.2.1
theorem dX7_need_82 : decode cX7_need 82 = .ok (.istore_n 3, 1) := sdX7_need_78.2.2.1
theorem dX7_need_83 : decode cX7_need 83 = .ok (.aload_n 0, 1) := sdX7_need_78.2.2.2.1
theorem dX7_need_84 : decode cX7_need 84 = .ok (.getfield 65, 3) := sdX7_need_78.2.2.2.2.1
theorem dX7_need_87 : decode cX7_need 87 = .ok (.aload_n 0, 1) := sdX7_need_78.2.2.2.2.2.1
theorem dX7_need_88 : decode cX7_need 88 = .ok (.getfield 26, 3) := sdX7_need_78.2.2.2.2.2.2.1
theorem dX7_need_91 : decode cX7_need 91 = .ok (.invokevirtual 113, 3) := sdX7_need_78.2.2.2.2.2.2.2.1
theorem sdX7_need_94 : dz_Seg cX7_need [(94, .iconst 0, 1), (95, .istore 4, 2), (97, .iload 4, 2), (99, .bipush 20, 2), (101, .if_icmp .gt 69, 3), (104, .aload_n 0, 1), (105, .getfield 65, 3), (108, .getfield 172, 3)] := dz_sg _ 94 (by decide +kernel)
theorem dX7_need_94 : decode cX7_need 94 = .ok (.iconst 0, 1) := sdX7_need_94.1
theorem dX7_need_95 : decode cX7_need 95 = .ok (.istore 4, 2) := sdX7_need_94.2.1
theorem dX7_need_97 : decode cX7_need 97 = .ok (.iload 4, 2) := sdX7_need_94.2.2.1
theorem dX7_need_99 : decode cX7_need 99 = .ok (.bipush 20, 2) := sdX7_need_94.2.2.2.1
theorem dX7_need_101 : decode cX7_need 101 = .ok (.if_icmp .gt 69, 3) := sdX7_need_94.2.2.2.2.1
theorem dX7_need_104 : decode cX7_need 104 = .ok (.aload_n 0, 1) := sdX7_need_94.2.2.2.2.2.1
theorem dX7_need_105 : decode cX7_need 105 = .ok (.getfield 65, 3) := sdX7_need_94.2.2.2.2.2.2.1
theorem dX7_need_108 : decode cX7_need 108 = .ok (.getfield 172, 3) := sdX7_need_94.2.2.2.2.2.2.2.1
theorem sdX7_need_111 : dz_Seg cX7_need [(111, .iload_n 1, 1), (112, .iload 4, 2), (114, .invokestatic 98, 3), (117, .aload_n 0, 1), (118, .getfield 68, 3), (121, .aload_n 0, 1), (122, .getfield 65, 3), (125, .invokevirtual 80, 3)] := dz_sg _ 111 (by decide +kernel)
theorem dX7_need_111 : decode cX7_need 111 = .ok (.iload_n 1, 1) := sdX7_need_111.1
theorem dX7_need_112 : decode cX7_need 112 = .ok (.iload 4, 2) := sdX7_need_111.2.1
theorem dX7_need_114 : decode cX7_need 114 = .ok (.invokestatic 98, 3) := sdX7_need_111.2.2.1
theorem dX7_need_117 : decode cX7_need 117 = .ok (.aload_n 0, 1) := sdX7_need_111.2.2.2.1
theorem dX7_need_118 : decode cX7_need 118 = .ok (.getfield 68, 3) := sdX7_need_111.2.2.2.2.1
theorem dX7_need_121 : decode cX7_need 121 = .ok (.aload_n 0, 1) := sdX7_need_111.2.2.2.2.2.1
theorem dX7_need_122 : decode cX7_need 122 = .ok (.getfield 65, 3) := sdX7_need_111.2.2.2.2.2.2.1
theorem dX7_need_125 : decode cX7_need 125 = .ok (.invokevirtual 80, 3) := sdX7_need_111.2.2.2.2.2.2.2.1
theorem sdX7_need_128 : dz_Seg cX7_need [(128, .aload_n 0, 1), (129, .getfield 74, 3), (132, .aload_n 0, 1), (133, .getfield 68, 3), (136, .invokevirtual 339, 3), (139, .aload_n 0, 1), (140, .getfield 74, 3), (143, .iload_n 3, 1)] := dz_sg _ 128 (by decide +kernel)
theorem dX7_need_128 : decode cX7_need 128 = .ok (.aload_n 0, 1) := sdX7_need_128.1
theorem dX7_need_129 : decode cX7_need 129 = .ok (.getfield 74, 3) := sdX7_need_128.2.1
theorem dX7_need_132 : decode cX7_need 132 = .ok (.aload_n 0, 1) := sdX7_need_128.2.2.1
theorem dX7_need_133 : decode cX7_need 133 = .ok (.getfield 68, 3) := sdX7_need_128.2.2.2.1
theorem dX7_need_136 : decode cX7_need 136 = .ok (.invokevirtual 339, 3) := sdX7_need_128.2.2.2.2.1
theorem dX7_need_139 : decode cX7_need 139 = .ok (.aload_n 0, 1) := sdX7_need_128.2.2.2.2.2.1
theorem dX7_need_140 : decode cX7_need 140 = .ok (.getfield 74, 3) := sdX7_need_128.2.2.2.2.2.2.1
theorem dX7_need_143 : decode cX7_need 143 = .ok (.iload_n 3, 1) := sdX7_need_128.2.2.2.2.2.2.2.1
theorem sdX7_need_144 : dz_Seg cX7_need [(144, .invokevirtual 299, 3), (147, .ldc2_w 342, 3), (150, .ldiv, 1), (151, .iload_n 2, 1), (152, .i2l, 1), (153, .lcmp, 1), (154, .ifCond .lt 10, 3), (157, .aload_n 0, 1)] := dz_sg _ 144 (by decide +kernel)
theorem dX7_need_144 : decode cX7_need 144 = .ok (.invokevirtual 299, 3) := sdX7_need_144.1
theorem dX7_need_147 : decode cX7_need 147 = .ok (.ldc2_w 342, 3) := sdX7_need_144.2.1
theorem dX7_need_150 : decode cX7_need 150 = .ok (.ldiv, 1) := sdX7_need_144.2.2.1
theorem dX7_need_151 : decode cX7_need 151 = .ok (.iload_n 2, 1) := sdX7_need_144.2.2.2.1
theorem dX7_need_152 : decode cX7_need 152 = .ok (.i2l, 1) := sdX7_need_144.2.2.2.2.1
theorem dX7_need_153 : decode cX7_need 153 = .ok (.lcmp, 1) := sdX7_need_144.2.2.2.2.2.1
theorem dX7_need_154 : decode cX7_need 154 = .ok (.ifCond .lt 10, 3) := sdX7_need_144.2.2.2.2.2.2.1
theorem dX7_need_157 : decode cX7_need 157 = .ok (.aload_n 0, 1) := sdX7_need_144.2.2.2.2.2.2.2.1
theorem sdX7_need_158 : dz_Seg cX7_need [(158, .iload 4, 2), (160, .invokevirtual 134, 3), (163, .ireturn, 1), (164, .iinc 4 1, 3), (167, .goto (-70), 3), (170, .aload_n 0, 1), (171, .iconst 5, 1), (172, .invokevirtual 102, 3)] := dz_sg _ 158 (by decide +kernel)
theorem dX7_need_158 : decode cX7_need 158 = .ok (.iload 4, 2) := sdX7_need_158.1
theorem dX7_need_160 : decode cX7_need 160 = .ok (.invokevirtual 134, 3) := sdX7_need_158.2.1
theorem dX7_need_163 : decode cX7_need 163 = .ok (.ireturn, 1) := sdX7_need_158.2.2.1
theorem dX7_need_164 : decode cX7_need 164 = .ok (.iinc 4 1, 3) := sdX7_need_158.2.2.2.1
theorem dX7_need_167 : decode cX7_need 167 = .ok (.goto (-70), 3) := sdX7_need_158.2.2.2.2.1
theorem dX7_need_170 : decode cX7_need 170 = .ok (.aload_n 0, 1) := sdX7_need_158.2.2.2.2.2.1
theorem dX7_need_171 : decode cX7_need 171 = .ok (.iconst 5, 1) := sdX7_need_158.2.2.2.2.2.2.1
theorem dX7_need_172 : decode cX7_need 172 = .ok (.invokevirtual 102, 3) := sdX7_need_158.2.2.2.2.2.2.2.1
theorem sdX7_need_175 : dz_Seg cX7_need [(175, .ireturn, 1)] := dz_sg _ 175 (by decide +kernel)
theorem dX7_need_175 : decode cX7_need 175 = .ok (.ireturn, 1) := sdX7_need_175.1
theorem sdX7_wise_0 : dz_Seg cX7_wise [(0, .aload_n 0, 1), (1, .iload_n 1, 1), (2, .invokevirtual 344, 3), (5, .istore_n 2, 1), (6, .iload_n 2, 1), (7, .ifCond .eq 9, 3), (10, .aload_n 0, 1), (11, .iload_n 2, 1)] := dz_sg _ 0 (by decide +kernel)
theorem dX7_wise_0 : decode cX7_wise 0 = .ok (.aload_n 0, 1) := sdX7_wise_0.1
theorem dX7_wise_1 : decode cX7_wise 1 = .ok (.iload_n 1, 1) := sdX7_wise_0.2.1
theorem dX7_wise_2 : decode cX7_wise 2 = .ok (.invokevirtual 344, 3) := sdX7_wise_0.2.2.1
theorem dX7_wise_5 : decode cX7_wise 5 = .ok (.istore_n 2, 1) := sdX7_wise_0.2.2.2.1
theorem dX7_wise_6 : decode cX7_wise 6 = .ok (.iload_n 2, 1) := sdX7_wise_0.2.2.2.2.1
theorem dX7_wise_7 : decode cX7_wise 7 = .ok (.ifCond .eq 9, 3) := sdX7_wise_0.2.2.2.2.2.1
theorem dX7_wise_10 : decode cX7_wise 10 = .ok (.aload_n 0, 1) := sdX7_wise_0.2.2.2.2.2.2.1
theorem dX7_wise_11 : decode cX7_wise 11 = .ok (.iload_n 2, 1) := sdX7_wise_0.2.2.2.2.2.2.2.1
theorem sdX7_wise_12 : dz_Seg cX7_wise [(12, .invokevirtual 102, 3), (15, .ireturn, 1), (16, .iconst 0, 1), (17, .istore_n 3, 1), (18, .ldc2_w 347, 3), (21, .lstore 4, 2), (23, .iconst 0, 1), (24, .istore 6, 2)] := dz_sg _ 12 (by decide +kernel)
theorem dX7_wise_12 : decode cX7_wise 12 = .ok (.invokevirtual 102, 3) := sdX7_wise_12.1
theorem dX7_wise_15 : decode cX7_wise 15 = .ok (.ireturn, 1) := sdX7_wise_12.2.1
theorem dX7_wise_16 : decode cX7_wise 16 = .ok (.iconst 0, 1) := sdX7_wise_12.2.2.1
theorem dX7_wise_17 : decode cX7_wise 17 = .ok (.istore_n 3, 1) := sdX7_wise_12.2.2.2.1
theorem dX7_wise_18 : decode cX7_wise 18 = .ok (.ldc2_w 347, 3) := sdX7_wise_12.2.2.2.2.1
theorem dX7_wise_21 : decode cX7_wise 21 = .ok (.lstore 4, 2) := sdX7_wise_12.2.2.2.2.2.1
theorem dX7_wise_23 : decode cX7_wise 23 = .ok (.iconst 0, 1) := sdX7_wise_12.2.2.2.2.2.2.1
theorem dX7_wise_24 : decode cX7_wise 24 = .ok (.istore 6, 2) := sdX7_wise_12.2.2.2.2.2.2.2.1
theorem sdX7_wise_26 : dz_Seg cX7_wise [(26, .iload 6, 2), (28, .aload_n 0, 1), (29, .getfield 26, 3), (32, .getfield 131, 3), (35, .if_icmp .ge 33, 3), (38, .aload_n 0, 1), (39, .iload_n 1, 1), (40, .iload 6, 2)] := dz_sg _ 26 (by decide +kernel)
theorem dX7_wise_26 : decode cX7_wise 26 = .ok (.iload 6, 2) := sdX7_wise_26.1
theorem dX7_wise_28 : decode cX7_wise 28 = .ok (.aload_n 0, 1) := sdX7_wise_26.2.1
theorem dX7_wise_29 : decode cX7_wise 29 = .ok (.getfield 26, 3) := sdX7_wise_26.2.2.1
theorem dX7_wise_32 : decode cX7_wise 32 = .ok (.getfield 131, 3) := sdX7_wise_26.2.2.2.1
theorem dX7_wise_35 : decode cX7_wise 35 = .ok (.if_icmp .ge 33, 3) := sdX7_wise_26.2.2.2.2.1
theorem dX7_wise_38 : decode cX7_wise 38 = .ok (.aload_n 0, 1) := sdX7_wise_26.2.2.2.2.2.1
theorem dX7_wise_39 : decode cX7_wise 39 = .ok (.iload_n 1, 1) := sdX7_wise_26.2.2.2.2.2.2.1
theorem dX7_wise_40 : decode cX7_wise 40 = .ok (.iload 6, 2) := sdX7_wise_26.2.2.2.2.2.2.2.1
theorem sdX7_wise_42 : dz_Seg cX7_wise [(42, .invokevirtual 349, 3), (45, .lstore 7, 2), (47, .lload 7, 2), (49, .lload 4, 2), (51, .lcmp, 1), (52, .ifCond .le 10, 3), (55, .lload 7, 2), (57, .lstore 4, 2)] := dz_sg _ 42 (by decide +kernel)
theorem dX7_wise_42 : decode cX7_wise 42 = .ok (.invokevirtual 349, 3) := sdX7_wise_42.1
theorem dX7_wise_45 : decode cX7_wise 45 = .ok (.lstore 7, 2) := sdX7_wise_42.2.1
theorem dX7_wise_47 : decode cX7_wise 47 = .ok (.lload 7, 2) := sdX7_wise_42.2.2.1
theorem dX7_wise_49 : decode cX7_wise 49 = .ok (.lload 4, 2) := sdX7_wise_42.2.2.2.1
theorem dX7_wise_51 : decode cX7_wise 51 = .ok (.lcmp, 1) := sdX7_wise_42.2.2.2.2.1
theorem dX7_wise_52 : decode cX7_wise 52 = .ok (.ifCond .le 10, 3) := sdX7_wise_42.2.2.2.2.2.1
theorem dX7_wise_55 : decode cX7_wise 55 = .ok (.lload 7, 2) := sdX7_wise_42.2.2.2.2.2.2.1
theorem dX7_wise_57 : decode cX7_wise 57 = .ok (.lstore 4, 2) := sdX7_wise_42.2.2.2.2.2.2.2.1
theorem sdX7_wise_59 : dz_Seg cX7_wise [(59, .iload 6, 2), (61, .istore_n 3, 1), (62, .iinc 6 1, 3), (65, .goto (-39), 3), (68, .aload_n 0, 1), (69, .iload_n 3, 1), (70, .invokevirtual 134, 3), (73, .ireturn, 1)] := dz_sg _ 59 (by decide +kernel)
theorem dX7_wise_59 : decode cX7_wise 59 = .ok (.iload 6, 2) := sdX7_wise_59.1
theorem dX7_wise_61 : decode cX7_wise 61 = .ok (.istore_n 3, 1) := sdX7_wise_59.2.1
theorem dX7_wise_62 : decode cX7_wise 62 = .ok (.iinc 6 1, 3) := sdX7_wise_59.2.2.1
theorem dX7_wise_65 : decode cX7_wise 65 = .ok (.goto (-39), 3) := sdX7_wise_59.2.2.2.1
theorem dX7_wise_68 : decode cX7_wise 68 = .ok (.aload_n 0, 1) := sdX7_wise_59.2.2.2.2.1
theorem dX7_wise_69 : decode cX7_wise 69 = .ok (.iload_n 3, 1) := sdX7_wise_59.2.2.2.2.2.1
theorem dX7_wise_70 : decode cX7_wise 70 = .ok (.invokevirtual 134, 3) := sdX7_wise_59.2.2.2.2.2.2.1
theorem dX7_wise_73 : decode cX7_wise 73 = .ok (.ireturn, 1) := sdX7_wise_59.2.2.2.2.2.2.2.1
theorem sdX7_wiseChance_0 : dz_Seg cX7_wiseChance [(0, .aload_n 0, 1), (1, .iload_n 1, 1), (2, .invokevirtual 344, 3), (5, .istore_n 2, 1), (6, .iload_n 2, 1), (7, .ifCond .eq 10, 3), (10, .aload_n 0, 1), (11, .iload_n 2, 1)] := dz_sg _ 0 (by decide +kernel)
theorem dX7_wiseChance_0 : decode cX7_wiseChance 0 = .ok (.aload_n 0, 1) := sdX7_wiseChance_0.1
theorem dX7_wiseChance_1 : decode cX7_wiseChance 1 = .ok (.iload_n 1, 1) := sdX7_wiseChance_0.2.1
theorem dX7_wiseChance_2 : decode cX7_wiseChance 2 = .ok (.invokevirtual 344, 3) := sdX7_wiseChance_0.2.2.1
theorem dX7_wiseChance_5 : decode cX7_wiseChance 5 = .ok (.istore_n 2, 1) := sdX7_wiseChance_0.2.2.2.1
theorem dX7_wiseChance_6 : decode cX7_wiseChance 6 = .ok (.iload_n 2, 1) := sdX7_wiseChance_0.2.2.2.2.1
theorem dX7_wiseChance_7 : decode cX7_wiseChance 7 = .ok (.ifCond .eq 10, 3) := sdX7_wiseChance_0.2.2.2.2.2.1
theorem dX7_wiseChance_10 : decode cX7_wiseChance 10 = .ok (.aload_n 0, 1) := sdX7_wiseChance_0.2.2.2.2.2.2.1
theorem dX7_wiseChance_11 : decode cX7_wiseChance 11 = .ok (.iload_n 2, 1) := sdX7_wiseChance_0.2.2.2.2.2.2.2.1
theorem sdX7_wiseChance_12 : dz_Seg cX7_wiseChance [(12, .invokevirtual 102, 3), (15, .i2l, 1), (16, .lreturn, 1), (17, .lconst 0, 1), (18, .lstore_n 3, 1), (19, .iconst 0, 1), (20, .istore 5, 2), (22, .iload 5, 2)] := dz_sg _ 12 (by decide +kernel)
theorem dX7_wiseChance_12 : decode cX7_wiseChance 12 = .ok (.invokevirtual 102, 3) := sdX7_wiseChance_12.1
theorem dX7_wiseChance_15 : decode cX7_wiseChance 15 = .ok (.i2l, 1) := sdX7_wiseChance_12.2.1
theorem dX7_wiseChance_16 : decode cX7_wiseChance 16 = .ok (.lreturn, 1) := sdX7_wiseChance_12.2.2.1
theorem dX7_wiseChance_17 : decode cX7_wiseChance 17 = .ok (.lconst 0, 1) := sdX7_wiseChance_12.2.2.2.1
theorem dX7_wiseChance_18 : decode cX7_wiseChance 18 = .ok (.lstore_n 3, 1) := sdX7_wiseChance_12.2.2.2.2.1
theorem dX7_wiseChance_19 : decode cX7_wiseChance 19 = .ok (.iconst 0, 1) := sdX7_wiseChance_12.2.2.2.2.2.1
theorem dX7_wiseChance_20 : decode cX7_wiseChance 20 = .ok (.istore 5, 2) := sdX7_wiseChance_12.2.2.2.2.2.2.1
theorem dX7_wiseChance_22 : decode cX7_wiseChance 22 = .ok (.iload 5, 2) := sdX7_wiseChance_12.2.2.2.2.2.2.2.1
theorem sdX7_wiseChance_24 : dz_Seg cX7_wiseChance [(24, .aload_n 0, 1), (25, .getfield 26, 3), (28, .getfield 131, 3), (31, .if_icmp .ge 21, 3), (34, .lload_n 3, 1), (35, .aload_n 0, 1), (36, .iload_n 1, 1), (37, .iload 5, 2)] := dz_sg _ 24 (by decide +kernel)
theorem dX7_wiseChance_24 : decode cX7_wiseChance 24 = .ok (.aload_n 0, 1) := sdX7_wiseChance_24.1
theorem dX7_wiseChance_25 : decode cX7_wiseChance 25 = .ok (.getfield 26, 3) := sdX7_wiseChance_24.2.1
theorem dX7_wiseChance_28 : decode cX7_wiseChance 28 = .ok (.getfield 131, 3) := sdX7_wiseChance_24.2.2.1
theorem dX7_wiseChance_31 : decode cX7_wiseChance 31 = .ok (.if_icmp .ge 21, 3) := sdX7_wiseChance_24.2.2.2.1
theorem dX7_wiseChance_34 : decode cX7_wiseChance 34 = .ok (.lload_n 3, 1) := sdX7_wiseChance_24.2.2.2.2.1
theorem dX7_wiseChance_35 : decode cX7_wiseChance 35 = .ok (.aload_n 0, 1) := sdX7_wiseChance_24.2.2.2.2.2.1
theorem dX7_wiseChance_36 : decode cX7_wiseChance 36 = .ok (.iload_n 1, 1) := sdX7_wiseChance_24.2.2.2.2.2.2.1
theorem dX7_wiseChance_37 : decode cX7_wiseChance 37 = .ok (.iload 5, 2) := sdX7_wiseChance_24.2.2.2.2.2.2.2.1
theorem sdX7_wiseChance_39 : dz_Seg cX7_wiseChance [(39, .invokevirtual 349, 3), (42, .invokestatic 352, 3), (45, .lstore_n 3, 1), (46, .iinc 5 1, 3), (49, .goto (-27), 3), (52, .aload_n 0, 1), (53, .lload_n 3, 1), (54, .invokevirtual 303, 3)] := dz_sg _ 39 (by decide +kernel)
theorem dX7_wiseChance_39 : decode cX7_wiseChance 39 = .ok (.invokevirtual 349, 3) := sdX7_wiseChance_39.1
theorem dX7_wiseChance_42 : decode cX7_wiseChance 42 = .ok (.invokestatic 352, 3) := sdX7_wiseChance_39.2.1
theorem dX7_wiseChance_45 : decode cX7_wiseChance 45 = .ok (.lstore_n 3, 1) := sdX7_wiseChance_39.2.2.1
theorem dX7_wiseChance_46 : decode cX7_wiseChance 46 = .ok (.iinc 5 1, 3) := sdX7_wiseChance_39.2.2.2.1
theorem dX7_wiseChance_49 : decode cX7_wiseChance 49 = .ok (.goto (-27), 3) := sdX7_wiseChance_39.2.2.2.2.1
theorem dX7_wiseChance_52 : decode cX7_wiseChance 52 = .ok (.aload_n 0, 1) := sdX7_wiseChance_39.2.2.2.2.2.1
theorem dX7_wiseChance_53 : decode cX7_wiseChance 53 = .ok (.lload_n 3, 1) := sdX7_wiseChance_39.2.2.2.2.2.2.1
theorem dX7_wiseChance_54 : decode cX7_wiseChance 54 = .ok (.invokevirtual 303, 3) := sdX7_wiseChance_39.2.2.2.2.2.2.2.1
theorem sdX7_wiseChance_57 : dz_Seg cX7_wiseChance [(57, .lreturn, 1)] := dz_sg _ 57 (by decide +kernel)
theorem dX7_wiseChance_57 : decode cX7_wiseChance 57 = .ok (.lreturn, 1) := sdX7_wiseChance_57.1
theorem sdX7_whyNotWise_0 : dz_Seg cX7_whyNotWise [(0, .aload_n 0, 1), (1, .iload_n 1, 1), (2, .invokevirtual 206, 3), (5, .ifCond .ne 5, 3), (8, .iconst 2, 1), (9, .ireturn, 1), (10, .aload_n 0, 1), (11, .getfield 40, 3)] := dz_sg _ 0 (by decide +kernel)
theorem dX7_whyNotWise_0 : decode cX7_whyNotWise 0 = .ok (.aload_n 0, 1) := sdX7_whyNotWise_0.1
theorem dX7_whyNotWise_1 : decode cX7_whyNotWise 1 = .ok (.iload_n 1, 1) := sdX7_whyNotWise_0.2.1
theorem dX7_whyNotWise_2 : decode cX7_whyNotWise 2 = .ok (.invokevirtual 206, 3) := sdX7_whyNotWise_0.2.2.1
theorem dX7_whyNotWise_5 : decode cX7_whyNotWise 5 = .ok (.ifCond .ne 5, 3) := sdX7_whyNotWise_0.2.2.2.1
theorem dX7_whyNotWise_8 : decode cX7_whyNotWise 8 = .ok (.iconst 2, 1) := sdX7_whyNotWise_0.2.2.2.2.1
theorem dX7_whyNotWise_9 : decode cX7_whyNotWise 9 = .ok (.ireturn, 1) := sdX7_whyNotWise_0.2.2.2.2.2.1
theorem dX7_whyNotWise_10 : decode cX7_whyNotWise 10 = .ok (.aload_n 0, 1) := sdX7_whyNotWise_0.2.2.2.2.2.2.1
theorem dX7_whyNotWise_11 : decode cX7_whyNotWise 11 = .ok (.getfield 40, 3) := sdX7_whyNotWise_0.2.2.2.2.2.2.2.1
theorem sdX7_whyNotWise_14 : dz_Seg cX7_whyNotWise [(14, .getfield 140, 3), (17, .bipush 7, 2), (19, .if_icmp .le 5, 3), (22, .iconst 3, 1), (23, .ireturn, 1), (24, .aload_n 0, 1), (25, .getfield 26, 3), (28, .getfield 131, 3)] := dz_sg _ 14 (by decide +kernel)
theorem dX7_whyNotWise_14 : decode cX7_whyNotWise 14 = .ok (.getfield 140, 3) := sdX7_whyNotWise_14.1
theorem dX7_whyNotWise_17 : decode cX7_whyNotWise 17 = .ok (.bipush 7, 2) := sdX7_whyNotWise_14.2.1
theorem dX7_whyNotWise_19 : decode cX7_whyNotWise 19 = .ok (.if_icmp .le 5, 3) := sdX7_whyNotWise_14.2.2.1
theorem dX7_whyNotWise_22 : decode cX7_whyNotWise 22 = .ok (.iconst 3, 1) := sdX7_whyNotWise_14.2.2.2.1
theorem dX7_whyNotWise_23 : decode cX7_whyNotWise 23 = .ok (.ireturn, 1) := sdX7_whyNotWise_14.2.2.2.2.1
theorem dX7_whyNotWise_24 : decode cX7_whyNotWise 24 = .ok (.aload_n 0, 1) := sdX7_whyNotWise_14.2.2.2.2.2.1
theorem dX7_whyNotWise_25 : decode cX7_whyNotWise 25 = .ok (.getfield 26, 3) := sdX7_whyNotWise_14.2.2.2.2.2.2.1
theorem dX7_whyNotWise_28 : decode cX7_whyNotWise 28 = .ok (.getfield 131, 3) := sdX7_whyNotWise_14.2.2.2.2.2.2.2.1
theorem sdX7_whyNotWise_31 : dz_Seg cX7_whyNotWise [(31, .ifCond .ne 7, 3), (34, .iconst 5, 1), (35, .goto 4, 3), (38, .iconst 0, 1), (39, .ireturn, 1)] := dz_sg _ 31 (by decide +kernel)
theorem dX7_whyNotWise_31 : decode cX7_whyNotWise 31 = .ok (.ifCond .ne 7, 3) := sdX7_whyNotWise_31.1
theorem dX7_whyNotWise_34 : decode cX7_whyNotWise 34 = .ok (.iconst 5, 1) := sdX7_whyNotWise_31.2.1
theorem dX7_whyNotWise_35 : decode cX7_whyNotWise 35 = .ok (.goto 4, 3) := sdX7_whyNotWise_31.2.2.1
theorem dX7_whyNotWise_38 : decode cX7_whyNotWise 38 = .ok (.iconst 0, 1) := sdX7_whyNotWise_31.2.2.2.1
theorem dX7_whyNotWise_39 : decode cX7_whyNotWise 39 = .ok (.ireturn, 1) := sdX7_whyNotWise_31.2.2.2.2.1
theorem sdX7_partsOfOnly_0 : dz_Seg cX7_partsOfOnly [(0, .aload_n 0, 1), (1, .getfield 65, 3), (4, .aload_n 0, 1), (5, .getfield 26, 3), (8, .invokevirtual 113, 3), (11, .aload_n 0, 1), (12, .getfield 65, 3), (15, .aload_n 0, 1)] := dz_sg _ 0 (by decide +kernel)
theorem dX7_partsOfOnly_0 : decode cX7_partsOfOnly 0 = .ok (.aload_n 0, 1) := sdX7_partsOfOnly_0.1
theorem dX7_partsOfOnly_1 : decode cX7_partsOfOnly 1 = .ok (.getfield 65, 3) := sdX7_partsOfOnly_0.2.1
theorem dX7_partsOfOnly_4 : decode cX7_partsOfOnly 4 = .ok (.aload_n 0, 1) := sdX7_partsOfOnly_0.2.2.1
theorem dX7_partsOfOnly_5 : decode cX7_partsOfOnly 5 = .ok (.getfield 26, 3) := sdX7_partsOfOnly_0.2.2.2.1
theorem dX7_partsOfOnly_8 : decode cX7_partsOfOnly 8 = .ok (.invokevirtual 113, 3) := sdX7_partsOfOnly_0.2.2.2.2.1
theorem dX7_partsOfOnly_11 : decode cX7_partsOfOnly 11 = .ok (.aload_n 0, 1) := sdX7_partsOfOnly_0.2.2.2.2.2.1
theorem dX7_partsOfOnly_12 : decode cX7_partsOfOnly 12 = .ok (.getfield 65, 3) := sdX7_partsOfOnly_0.2.2.2.2.2.2.1
theorem dX7_partsOfOnly_15 : decode cX7_partsOfOnly 15 = .ok (.aload_n 0, 1) := sdX7_partsOfOnly_0.2.2.2.2.2.2.2.1
theorem sdX7_partsOfOnly_16 : dz_Seg cX7_partsOfOnly [(16, .getfield 40, 3), (19, .getfield 222, 3), (22, .iload_n 1, 1), (23, .invokestatic 175, 3), (26, .iload_n 2, 1), (27, .iconst (-1), 1), (28, .iconst (-1), 1), (29, .invokevirtual 283, 3)] := dz_sg _ 16 (by decide +kernel)
theorem dX7_partsOfOnly_16 : decode cX7_partsOfOnly 16 = .ok (.getfield 40, 3) := sdX7_partsOfOnly_16.1
theorem dX7_partsOfOnly_19 : decode cX7_partsOfOnly 19 = .ok (.getfield 222, 3) := sdX7_partsOfOnly_16.2.1
theorem dX7_partsOfOnly_22 : decode cX7_partsOfOnly 22 = .ok (.iload_n 1, 1) := sdX7_partsOfOnly_16.2.2.1
theorem dX7_partsOfOnly_23 : decode cX7_partsOfOnly 23 = .ok (.invokestatic 175, 3) := sdX7_partsOfOnly_16.2.2.2.1
theorem dX7_partsOfOnly_26 : decode cX7_partsOfOnly 26 = .ok (.iload_n 2, 1) := sdX7_partsOfOnly_16.2.2.2.2.1
theorem dX7_partsOfOnly_27 : decode cX7_partsOfOnly 27 = .ok (.iconst (-1), 1) := sdX7_partsOfOnly_16.2.2.2.2.2.1
theorem dX7_partsOfOnly_28 : decode cX7_partsOfOnly 28 = .ok (.iconst (-1), 1) := sdX7_partsOfOnly_16.2.2.2.2.2.2.1
theorem dX7_partsOfOnly_29 : decode cX7_partsOfOnly 29 = .ok (.invokevirtual 283, 3) := sdX7_partsOfOnly_16.2.2.2.2.2.2.2.1
theorem sdX7_partsOfOnly_32 : dz_Seg cX7_partsOfOnly [(32, .aload_n 0, 1), (33, .getfield 68, 3), (36, .aload_n 0, 1), (37, .getfield 65, 3), (40, .invokevirtual 80, 3), (43, .aload_n 0, 1), (44, .getfield 74, 3), (47, .aload_n 0, 1)] := dz_sg _ 32 (by decide +kernel)
theorem dX7_partsOfOnly_32 : decode cX7_partsOfOnly 32 = .ok (.aload_n 0, 1) := sdX7_partsOfOnly_32.1
theorem dX7_partsOfOnly_33 : decode cX7_partsOfOnly 33 = .ok (.getfield 68, 3) := sdX7_partsOfOnly_32.2.1
theorem dX7_partsOfOnly_36 : decode cX7_partsOfOnly 36 = .ok (.aload_n 0, 1) := sdX7_partsOfOnly_32.2.2.1
theorem dX7_partsOfOnly_37 : decode cX7_partsOfOnly 37 = .ok (.getfield 65, 3) := sdX7_partsOfOnly_32.2.2.2.1
theorem dX7_partsOfOnly_40 : decode cX7_partsOfOnly 40 = .ok (.invokevirtual 80, 3) := sdX7_partsOfOnly_32.2.2.2.2.1
theorem dX7_partsOfOnly_43 : decode cX7_partsOfOnly 43 = .ok (.aload_n 0, 1) := sdX7_partsOfOnly_32.2.2.2.2.2.1
theorem dX7_partsOfOnly_44 : decode cX7_partsOfOnly 44 = .ok (.getfield 74, 3) := sdX7_partsOfOnly_32.2.2.2.2.2.2.1
theorem dX7_partsOfOnly_47 : decode cX7_partsOfOnly 47 = .ok (.aload_n 0, 1) := sdX7_partsOfOnly_32.2.2.2.2.2.2.2.1
theorem sdX7_partsOfOnly_48 : dz_Seg cX7_partsOfOnly [(48, .getfield 68, 3), (51, .invokevirtual 339, 3), (54, .aload_n 0, 1), (55, .getfield 74, 3), (58, .iload_n 1, 1), (59, .invokevirtual 299, 3), (62, .lreturn, 1)] := dz_sg _ 48 (by decide +kernel)
theorem dX7_partsOfOnly_48 : decode cX7_partsOfOnly 48 = .ok (.getfield 68, 3) := sdX7_partsOfOnly_48.1
theorem dX7_partsOfOnly_51 : decode cX7_partsOfOnly 51 = .ok (.invokevirtual 339, 3) := sdX7_partsOfOnly_48.2.1
theorem dX7_partsOfOnly_54 : decode cX7_partsOfOnly 54 = .ok (.aload_n 0, 1) := sdX7_partsOfOnly_48.2.2.1
theorem dX7_partsOfOnly_55 : decode cX7_partsOfOnly 55 = .ok (.getfield 74, 3) := sdX7_partsOfOnly_48.2.2.2.1
theorem dX7_partsOfOnly_58 : decode cX7_partsOfOnly 58 = .ok (.iload_n 1, 1) := sdX7_partsOfOnly_48.2.2.2.2.1
theorem dX7_partsOfOnly_59 : decode cX7_partsOfOnly 59 = .ok (.invokevirtual 299, 3) := sdX7_partsOfOnly_48.2.2.2.2.2.1
theorem dX7_partsOfOnly_62 : decode cX7_partsOfOnly 62 = .ok (.lreturn, 1) := sdX7_partsOfOnly_48.2.2.2.2.2.2.1
theorem sdX7_together_0 : dz_Seg cX7_together [(0, .aload_n 0, 1), (1, .iload_n 1, 1), (2, .invokevirtual 168, 3), (5, .ifCond .eq 11, 3), (8, .aload_n 0, 1), (9, .iload_n 2, 1), (10, .invokevirtual 168, 3), (13, .ifCond .ne 10, 3)] := dz_sg _ 0 (by decide +kernel)
theorem dX7_together_0 : decode cX7_together 0 = .ok (.aload_n 0, 1) := sdX7_together_0.1
theorem dX7_together_1 : decode cX7_together 1 = .ok (.iload_n 1, 1) := sdX7_together_0.2.1
theorem dX7_together_2 : decode cX7_together 2 = .ok (.invokevirtual 168, 3) := sdX7_together_0.2.2.1
theorem dX7_together_5 : decode cX7_together 5 = .ok (.ifCond .eq 11, 3) := sdX7_together_0.2.2.2.1
theorem dX7_together_8 : decode cX7_together 8 = .ok (.aload_n 0, 1) := sdX7_together_0.2.2.2.2.1
theorem dX7_together_9 : decode cX7_together 9 = .ok (.iload_n 2, 1) := sdX7_together_0.2.2.2.2.2.1
theorem dX7_together_10 : decode cX7_together 10 = .ok (.invokevirtual 168, 3) := sdX7_together_0.2.2.2.2.2.2.1
theorem dX7_together_13 : decode cX7_together 13 = .ok (.ifCond .ne 10, 3) := sdX7_together_0.2.2.2.2.2.2.2.1
theorem sdX7_together_16 : dz_Seg cX7_together [(16, .aload_n 0, 1), (17, .iconst 2, 1), (18, .invokevirtual 102, 3), (21, .i2l, 1), (22, .lreturn, 1), (23, .iload_n 1, 1), (24, .iload_n 2, 1), (25, .if_icmp .ne 10, 3)] := dz_sg _ 16 (by decide +kernel)
theorem dX7_together_16 : decode cX7_together 16 = .ok (.aload_n 0, 1) := sdX7_together_16.1
theorem dX7_together_17 : decode cX7_together 17 = .ok (.iconst 2, 1) := sdX7_together_16.2.1
theorem dX7_together_18 : decode cX7_together 18 = .ok (.invokevirtual 102, 3) := sdX7_together_16.2.2.1
theorem dX7_together_21 : decode cX7_together 21 = .ok (.i2l, 1) := sdX7_together_16.2.2.2.1
theorem dX7_together_22 : decode cX7_together 22 = .ok (.lreturn, 1) := sdX7_together_16.2.2.2.2.1
theorem dX7_together_23 : decode cX7_together 23 = .ok (.iload_n 1, 1) := sdX7_together_16.2.2.2.2.2.1
theorem dX7_together_24 : decode cX7_together 24 = .ok (.iload_n 2, 1) := sdX7_together_16.2.2.2.2.2.2.1
theorem dX7_together_25 : decode cX7_together 25 = .ok (.if_icmp .ne 10, 3) := sdX7_together_16.2.2.2.2.2.2.2.1
theorem sdX7_together_28 : dz_Seg cX7_together [(28, .aload_n 0, 1), (29, .iconst 4, 1), (30, .invokevirtual 102, 3), (33, .i2l, 1), (34, .lreturn, 1), (35, .aload_n 0, 1), (36, .getfield 26, 3), (39, .getfield 179, 3)] := dz_sg _ 28 (by decide +kernel)
theorem dX7_together_28 : decode cX7_together 28 = .ok (.aload_n 0, 1) := sdX7_together_28.1
theorem dX7_together_29 : decode cX7_together 29 = .ok (.iconst 4, 1) := sdX7_together_28.2.1
theorem dX7_together_30 : decode cX7_together 30 = .ok (.invokevirtual 102, 3) := sdX7_together_28.2.2.1
theorem dX7_together_33 : decode cX7_together 33 = .ok (.i2l, 1) := sdX7_together_28.2.2.2.1
theorem dX7_together_34 : decode cX7_together 34 = .ok (.lreturn, 1) := sdX7_together_28.2.2.2.2.1
theorem dX7_together_35 : decode cX7_together 35 = .ok (.aload_n 0, 1) := sdX7_together_28.2.2.2.2.2.1
theorem dX7_together_36 : decode cX7_together 36 = .ok (.getfield 26, 3) := sdX7_together_28.2.2.2.2.2.2.1
theorem dX7_together_39 : decode cX7_together 39 = .ok (.getfield 179, 3) := sdX7_together_28.2.2.2.2.2.2.2.1
theorem sdX7_together_42 : dz_Seg cX7_together [(42, .iload_n 1, 1), (43, .invokestatic 175, 3), (46, .iconst (-1), 1), (47, .if_icmp .ne 18, 3), (50, .aload_n 0, 1), (51, .getfield 26, 3), (54, .getfield 179, 3), (57, .iload_n 2, 1)] := dz_sg _ 42 (by decide +kernel)
theorem dX7_together_42 : decode cX7_together 42 = .ok (.iload_n 1, 1) := sdX7_together_42.1
theorem dX7_together_43 : decode cX7_together 43 = .ok (.invokestatic 175, 3) := sdX7_together_42.2.1
theorem dX7_together_46 : decode cX7_together 46 = .ok (.iconst (-1), 1) := sdX7_together_42.2.2.1
theorem dX7_together_47 : decode cX7_together 47 = .ok (.if_icmp .ne 18, 3) := sdX7_together_42.2.2.2.1
theorem dX7_together_50 : decode cX7_together 50 = .ok (.aload_n 0, 1) := sdX7_together_42.2.2.2.2.1
theorem dX7_together_51 : decode cX7_together 51 = .ok (.getfield 26, 3) := sdX7_together_42.2.2.2.2.2.1
theorem dX7_together_54 : decode cX7_together 54 = .ok (.getfield 179, 3) := sdX7_together_42.2.2.2.2.2.2.1
theorem dX7_together_57 : decode cX7_together 57 = .ok (.iload_n 2, 1) := sdX7_together_42.2.2.2.2.2.2.2.1
theorem sdX7_together_58 : dz_Seg cX7_together [(58, .invokestatic 175, 3), (61, .iconst (-1), 1), (62, .if_icmp .eq 11, 3), (65, .aload_n 0, 1), (66, .bipush 7, 2), (68, .invokevirtual 102, 3), (71, .i2l, 1), (72, .lreturn, 1)] := dz_sg _ 58 (by decide +kernel)
theorem dX7_together_58 : decode cX7_together 58 = .ok (.invokestatic 175, 3) := sdX7_together_58.1
theorem dX7_together_61 : decode cX7_together 61 = .ok (.iconst (-1), 1) := sdX7_together_58.2.1
theorem dX7_together_62 : decode cX7_together 62 = .ok (.if_icmp .eq 11, 3) := sdX7_together_58.2.2.1
theorem dX7_together_65 : decode cX7_together 65 = .ok (.aload_n 0, 1) := sdX7_together_58.2.2.2.1
theorem dX7_together_66 : decode cX7_together 66 = .ok (.bipush 7, 2) := sdX7_together_58.2.2.2.2.1
theorem dX7_together_68 : decode cX7_together 68 = .ok (.invokevirtual 102, 3) := sdX7_together_58.2.2.2.2.2.1
theorem dX7_together_71 : decode cX7_together 71 = .ok (.i2l, 1) := sdX7_together_58.2.2.2.2.2.2.1
theorem dX7_together_72 : decode cX7_together 72 = .ok (.lreturn, 1) := sdX7_together_58.2.2.2.2.2.2.2.1
theorem sdX7_together_73 : dz_Seg cX7_together [(73, .aload_n 0, 1), (74, .getfield 40, 3), (77, .getfield 140, 3), (80, .bipush 8, 2), (82, .if_icmp .le 10, 3), (85, .aload_n 0, 1), (86, .iconst 3, 1), (87, .invokevirtual 102, 3)] := dz_sg _ 73 (by decide +kernel)
theorem dX7_together_73 : decode cX7_together 73 = .ok (.aload_n 0, 1) := sdX7_together_73.1
theorem dX7_together_74 : decode cX7_together 74 = .ok (.getfield 40, 3) := sdX7_together_73.2.1
theorem dX7_together_77 : decode cX7_together 77 = .ok (.getfield 140, 3) := sdX7_together_73.2.2.1
theorem dX7_together_80 : decode cX7_together 80 = .ok (.bipush 8, 2) := sdX7_together_73.2.2.2.1
theorem dX7_together_82 : decode cX7_together 82 = .ok (.if_icmp .le 10, 3) := sdX7_together_73.2.2.2.2.1
theorem dX7_together_85 : decode cX7_together 85 = .ok (.aload_n 0, 1) := sdX7_together_73.2.2.2.2.2.1
theorem dX7_together_86 : decode cX7_together 86 = .ok (.iconst 3, 1) := sdX7_together_73.2.2.2.2.2.2.1
theorem dX7_together_87 : decode cX7_together 87 = .ok (.invokevirtual 102, 3) := sdX7_together_73.2.2.2.2.2.2.2.1
theorem sdX7_together_90 : dz_Seg cX7_together [(90, .i2l, 1), (91, .lreturn, 1), (92, .aload_n 0, 1), (93, .getfield 65, 3), (96, .aload_n 0, 1), (97, .getfield 26, 3), (100, .invokevirtual 113, 3), (103, .aload_n 0, 1)] := dz_sg _ 90 (by decide +kernel)
theorem dX7_together_90 : decode cX7_together 90 = .ok (.i2l, 1) := sdX7_together_90.1
theorem dX7_together_91 : decode cX7_together 91 = .ok (.lreturn, 1) := sdX7_together_90.2.1
theorem dX7_together_92 : decode cX7_together 92 = .ok (.aload_n 0, 1) := sdX7_together_90.2.2.1
theorem dX7_together_93 : decode cX7_together 93 = .ok (.getfield 65, 3) := sdX7_together_90.2.2.2.1
theorem dX7_together_96 : decode cX7_together 96 = .ok (.aload_n 0, 1) := sdX7_together_90.2.2.2.2.1
theorem dX7_together_97 : decode cX7_together 97 = .ok (.getfield 26, 3) := sdX7_together_90.2.2.2.2.2.1
theorem dX7_together_100 : decode cX7_together 100 = .ok (.invokevirtual 113, 3) := sdX7_together_90.2.2.2.2.2.2.1
theorem dX7_together_103 : decode cX7_together 103 = .ok (.aload_n 0, 1) := sdX7_together_90.2.2.2.2.2.2.2.1
theorem sdX7_together_104 : dz_Seg cX7_together [(104, .getfield 65, 3), (107, .iload_n 1, 1), (108, .iload_n 2, 1), (109, .invokevirtual 358, 3), (112, .aload_n 0, 1), (113, .getfield 68, 3), (116, .aload_n 0, 1), (117, .getfield 65, 3)] := dz_sg _ 104 (by decide +kernel)
theorem dX7_together_104 : decode cX7_together 104 = .ok (.getfield 65, 3) := sdX7_together_104.1
theorem dX7_together_107 : decode cX7_together 107 = .ok (.iload_n 1, 1) := sdX7_together_104.2.1
theorem dX7_together_108 : decode cX7_together 108 = .ok (.iload_n 2, 1) := sdX7_together_104.2.2.1
theorem dX7_together_109 : decode cX7_together 109 = .ok (.invokevirtual 358, 3) := sdX7_together_104.2.2.2.1
theorem dX7_together_112 : decode cX7_together 112 = .ok (.aload_n 0, 1) := sdX7_together_104.2.2.2.2.1
theorem dX7_together_113 : decode cX7_together 113 = .ok (.getfield 68, 3) := sdX7_together_104.2.2.2.2.2.1
theorem dX7_together_116 : decode cX7_together 116 = .ok (.aload_n 0, 1) := sdX7_together_104.2.2.2.2.2.2.1
theorem dX7_together_117 : decode cX7_together 117 = .ok (.getfield 65, 3) := sdX7_together_104.2.2.2.2.2.2.2.1
theorem sdX7_together_120 : dz_Seg cX7_together [(120, .invokevirtual 80, 3), (123, .aload_n 0, 1), (124, .getfield 74, 3), (127, .aload_n 0, 1), (128, .getfield 68, 3), (131, .invokevirtual 339, 3), (134, .aload_n 0, 1), (135, .aload_n 0, 1)] := dz_sg _ 120 (by decide +kernel)
theorem dX7_together_120 : decode cX7_together 120 = .ok (.invokevirtual 80, 3) := sdX7_together_120.1
theorem dX7_together_123 : decode cX7_together 123 = .ok (.aload_n 0, 1) := sdX7_together_120.2.1
theorem dX7_together_124 : decode cX7_together 124 = .ok (.getfield 74, 3) := sdX7_together_120.2.2.1
theorem dX7_together_127 : decode cX7_together 127 = .ok (.aload_n 0, 1) := sdX7_together_120.2.2.2.1
theorem dX7_together_128 : decode cX7_together 128 = .ok (.getfield 68, 3) := sdX7_together_120.2.2.2.2.1
theorem dX7_together_131 : decode cX7_together 131 = .ok (.invokevirtual 339, 3) := sdX7_together_120.2.2.2.2.2.1
theorem dX7_together_134 : decode cX7_together 134 = .ok (.aload_n 0, 1) := sdX7_together_120.2.2.2.2.2.2.1
theorem dX7_together_135 : decode cX7_together 135 = .ok (.aload_n 0, 1) := sdX7_together_120.2.2.2.2.2.2.2.1
theorem sdX7_together_136 : dz_Seg cX7_together [(136, .getfield 74, 3), (139, .aload_n 0, 1), (140, .getfield 68, 3), (143, .getfield 182, 3), (146, .iload_n 1, 1), (147, .invokestatic 175, 3), (150, .invokevirtual 299, 3), (153, .invokevirtual 303, 3)] := dz_sg _ 136 (by decide +kernel)
theorem dX7_together_136 : decode cX7_together 136 = .ok (.getfield 74, 3) := sdX7_together_136.1
theorem dX7_together_139 : decode cX7_together 139 = .ok (.aload_n 0, 1) := sdX7_together_136.2.1
theorem dX7_together_140 : decode cX7_together 140 = .ok (.getfield 68, 3) := sdX7_together_136.2.2.1
theorem dX7_together_143 : decode cX7_together 143 = .ok (.getfield 182, 3) := sdX7_together_136.2.2.2.1
theorem dX7_together_146 : decode cX7_together 146 = .ok (.iload_n 1, 1) := sdX7_together_136.2.2.2.2.1
theorem dX7_together_147 : decode cX7_together 147 = .ok (.invokestatic 175, 3) := sdX7_together_136.2.2.2.2.2.1
theorem dX7_together_150 : decode cX7_together 150 = .ok (.invokevirtual 299, 3) := sdX7_together_136.2.2.2.2.2.2.1
theorem dX7_together_153 : decode cX7_together 153 = .ok (.invokevirtual 303, 3) := sdX7_together_136.2.2.2.2.2.2.2.1
theorem sdX7_together_156 : dz_Seg cX7_together [(156, .lreturn, 1)] := dz_sg _ 156 (by decide +kernel)
theorem dX7_together_156 : decode cX7_together 156 = .ok (.lreturn, 1) := sdX7_together_156.1
theorem sdX7_apart_0 : dz_Seg cX7_apart [(0, .aload_n 0, 1), (1, .iload_n 1, 1), (2, .invokevirtual 362, 3), (5, .ifCond .ne 10, 3), (8, .aload_n 0, 1), (9, .iconst 2, 1), (10, .invokevirtual 102, 3), (13, .i2l, 1)] := dz_sg _ 0 (by decide +kernel)
theorem dX7_apart_0 : decode cX7_apart 0 = .ok (.aload_n 0, 1) := sdX7_apart_0.1
theorem dX7_apart_1 : decode cX7_apart 1 = .ok (.iload_n 1, 1) := sdX7_apart_0.2.1
theorem dX7_apart_2 : decode cX7_apart 2 = .ok (.invokevirtual 362, 3) := sdX7_apart_0.2.2.1
theorem dX7_apart_5 : decode cX7_apart 5 = .ok (.ifCond .ne 10, 3) := sdX7_apart_0.2.2.2.1
theorem dX7_apart_8 : decode cX7_apart 8 = .ok (.aload_n 0, 1) := sdX7_apart_0.2.2.2.2.1
theorem dX7_apart_9 : decode cX7_apart 9 = .ok (.iconst 2, 1) := sdX7_apart_0.2.2.2.2.2.1
theorem dX7_apart_10 : decode cX7_apart 10 = .ok (.invokevirtual 102, 3) := sdX7_apart_0.2.2.2.2.2.2.1
theorem dX7_apart_13 : decode cX7_apart 13 = .ok (.i2l, 1) := sdX7_apart_0.2.2.2.2.2.2.2.1
theorem sdX7_apart_14 : dz_Seg cX7_apart [(14, .lreturn, 1), (15, .aload_n 0, 1), (16, .getfield 65, 3), (19, .aload_n 0, 1), (20, .getfield 26, 3), (23, .invokevirtual 113, 3), (26, .aload_n 0, 1), (27, .getfield 65, 3)] := dz_sg _ 14 (by decide +kernel)
theorem dX7_apart_14 : decode cX7_apart 14 = .ok (.lreturn, 1) := sdX7_apart_14.1
theorem dX7_apart_15 : decode cX7_apart 15 = .ok (.aload_n 0, 1) := sdX7_apart_14.2.1
theorem dX7_apart_16 : decode cX7_apart 16 = .ok (.getfield 65, 3) := sdX7_apart_14.2.2.1
theorem dX7_apart_19 : decode cX7_apart 19 = .ok (.aload_n 0, 1) := sdX7_apart_14.2.2.2.1
theorem dX7_apart_20 : decode cX7_apart 20 = .ok (.getfield 26, 3) := sdX7_apart_14.2.2.2.2.1
theorem dX7_apart_23 : decode cX7_apart 23 = .ok (.invokevirtual 113, 3) := sdX7_apart_14.2.2.2.2.2.1
theorem dX7_apart_26 : decode cX7_apart 26 = .ok (.aload_n 0, 1) := sdX7_apart_14.2.2.2.2.2.2.1
theorem dX7_apart_27 : decode cX7_apart 27 = .ok (.getfield 65, 3) := sdX7_apart_14.2.2.2.2.2.2.2.1
theorem sdX7_apart_30 : dz_Seg cX7_apart [(30, .iload_n 1, 1), (31, .invokevirtual 365, 3), (34, .aload_n 0, 1), (35, .getfield 68, 3), (38, .aload_n 0, 1), (39, .getfield 65, 3), (42, .invokevirtual 80, 3), (45, .aload_n 0, 1)] := dz_sg _ 30 (by decide +kernel)
theorem dX7_apart_30 : decode cX7_apart 30 = .ok (.iload_n 1, 1) := sdX7_apart_30.1
theorem dX7_apart_31 : decode cX7_apart 31 = .ok (.invokevirtual 365, 3) := sdX7_apart_30.2.1
theorem dX7_apart_34 : decode cX7_apart 34 = .ok (.aload_n 0, 1) := sdX7_apart_30.2.2.1
theorem dX7_apart_35 : decode cX7_apart 35 = .ok (.getfield 68, 3) := sdX7_apart_30.2.2.2.1
theorem dX7_apart_38 : decode cX7_apart 38 = .ok (.aload_n 0, 1) := sdX7_apart_30.2.2.2.2.1
theorem dX7_apart_39 : decode cX7_apart 39 = .ok (.getfield 65, 3) := sdX7_apart_30.2.2.2.2.2.1
theorem dX7_apart_42 : decode cX7_apart 42 = .ok (.invokevirtual 80, 3) := sdX7_apart_30.2.2.2.2.2.2.1
theorem dX7_apart_45 : decode cX7_apart 45 = .ok (.aload_n 0, 1) := sdX7_apart_30.2.2.2.2.2.2.2.1
theorem sdX7_apart_46 : dz_Seg cX7_apart [(46, .getfield 68, 3), (49, .getfield 140, 3), (52, .bipush 7, 2), (54, .if_icmp .le 10, 3), (57, .aload_n 0, 1), (58, .iconst 3, 1), (59, .invokevirtual 102, 3), (62, .i2l, 1)] := dz_sg _ 46 (by decide +kernel)
theorem dX7_apart_46 : decode cX7_apart 46 = .ok (.getfield 68, 3) := sdX7_apart_46.1
theorem dX7_apart_49 : decode cX7_apart 49 = .ok (.getfield 140, 3) := sdX7_apart_46.2.1
theorem dX7_apart_52 : decode cX7_apart 52 = .ok (.bipush 7, 2) := sdX7_apart_46.2.2.1
theorem dX7_apart_54 : decode cX7_apart 54 = .ok (.if_icmp .le 10, 3) := sdX7_apart_46.2.2.2.1
theorem dX7_apart_57 : decode cX7_apart 57 = .ok (.aload_n 0, 1) := sdX7_apart_46.2.2.2.2.1
theorem dX7_apart_58 : decode cX7_apart 58 = .ok (.iconst 3, 1) := sdX7_apart_46.2.2.2.2.2.1
theorem dX7_apart_59 : decode cX7_apart 59 = .ok (.invokevirtual 102, 3) := sdX7_apart_46.2.2.2.2.2.2.1
theorem dX7_apart_62 : decode cX7_apart 62 = .ok (.i2l, 1) := sdX7_apart_46.2.2.2.2.2.2.2.1
theorem sdX7_apart_63 : dz_Seg cX7_apart [(63, .lreturn, 1), (64, .aload_n 0, 1), (65, .getfield 74, 3), (68, .aload_n 0, 1), (69, .getfield 68, 3), (72, .invokevirtual 339, 3), (75, .iconst 0, 1), (76, .istore_n 2, 1)] := dz_sg _ 63 (by decide +kernel)
theorem dX7_apart_63 : decode cX7_apart 63 = .ok (.lreturn, 1) := sdX7_apart_63.1
theorem dX7_apart_64 : decode cX7_apart 64 = .ok (.aload_n 0, 1) := sdX7_apart_63.2.1
theorem dX7_apart_65 : decode cX7_apart 65 = .ok (.getfield 74, 3) := sdX7_apart_63.2.2.1
theorem dX7_apart_68 : decode cX7_apart 68 = .ok (.aload_n 0, 1) := sdX7_apart_63.2.2.2.1
theorem dX7_apart_69 : decode cX7_apart 69 = .ok (.getfield 68, 3) := sdX7_apart_63.2.2.2.2.1
theorem dX7_apart_72 : decode cX7_apart 72 = .ok (.invokevirtual 339, 3) := sdX7_apart_63.2.2.2.2.2.1
theorem dX7_apart_75 : decode cX7_apart 75 = .ok (.iconst 0, 1) := sdX7_apart_63.2.2.2.2.2.2.1
theorem dX7_apart_76 : decode cX7_apart 76 = .ok (.istore_n 2, 1) := sdX7_apart_63.2.2.2.2.2.2.2.1
theorem sdX7_apart_77 : dz_Seg cX7_apart [(77, .iconst 0, 1), (78, .istore_n 3, 1), (79, .iload_n 3, 1), (80, .aload_n 0, 1), (81, .getfield 26, 3), (84, .getfield 119, 3), (87, .if_icmp .ge 40, 3), (90, .aload_n 0, 1)] := dz_sg _ 77 (by decide +kernel)
theorem dX7_apart_77 : decode cX7_apart 77 = .ok (.iconst 0, 1) := sdX7_apart_77.1
theorem dX7_apart_78 : decode cX7_apart 78 = .ok (.istore_n 3, 1) := sdX7_apart_77.2.1
theorem dX7_apart_79 : decode cX7_apart 79 = .ok (.iload_n 3, 1) := sdX7_apart_77.2.2.1
theorem dX7_apart_80 : decode cX7_apart 80 = .ok (.aload_n 0, 1) := sdX7_apart_77.2.2.2.1
theorem dX7_apart_81 : decode cX7_apart 81 = .ok (.getfield 26, 3) := sdX7_apart_77.2.2.2.2.1
theorem dX7_apart_84 : decode cX7_apart 84 = .ok (.getfield 119, 3) := sdX7_apart_77.2.2.2.2.2.1
theorem dX7_apart_87 : decode cX7_apart 87 = .ok (.if_icmp .ge 40, 3) := sdX7_apart_77.2.2.2.2.2.2.1
theorem dX7_apart_90 : decode cX7_apart 90 = .ok (.aload_n 0, 1) := sdX7_apart_77.2.2.2.2.2.2.2.1
theorem sdX7_apart_91 : dz_Seg cX7_apart [(91, .getfield 26, 3), (94, .getfield 179, 3), (97, .iload_n 3, 1), (98, .invokestatic 175, 3), (101, .iload_n 1, 1), (102, .if_icmp .ne 19, 3), (105, .iload_n 2, 1), (106, .iconst 1, 1)] := dz_sg _ 91 (by decide +kernel)
theorem dX7_apart_91 : decode cX7_apart 91 = .ok (.getfield 26, 3) := sdX7_apart_91.1
theorem dX7_apart_94 : decode cX7_apart 94 = .ok (.getfield 179, 3) := sdX7_apart_91.2.1
theorem dX7_apart_97 : decode cX7_apart 97 = .ok (.iload_n 3, 1) := sdX7_apart_91.2.2.1
theorem dX7_apart_98 : decode cX7_apart 98 = .ok (.invokestatic 175, 3) := sdX7_apart_91.2.2.2.1
theorem dX7_apart_101 : decode cX7_apart 101 = .ok (.iload_n 1, 1) := sdX7_apart_91.2.2.2.2.1
theorem dX7_apart_102 : decode cX7_apart 102 = .ok (.if_icmp .ne 19, 3) := sdX7_apart_91.2.2.2.2.2.1
theorem dX7_apart_105 : decode cX7_apart 105 = .ok (.iload_n 2, 1) := sdX7_apart_91.2.2.2.2.2.2.1
theorem dX7_apart_106 : decode cX7_apart 106 = .ok (.iconst 1, 1) := sdX7_apart_91.2.2.2.2.2.2.2.1
theorem sdX7_apart_107 : dz_Seg cX7_apart [(107, .aload_n 0, 1), (108, .getfield 68, 3), (111, .getfield 182, 3), (114, .iload_n 3, 1), (115, .invokestatic 175, 3), (118, .ishl, 1), (119, .ior, 1), (120, .istore_n 2, 1)] := dz_sg _ 107 (by decide +kernel)
theorem dX7_apart_107 : decode cX7_apart 107 = .ok (.aload_n 0, 1) := sdX7_apart_107.1
theorem dX7_apart_108 : decode cX7_apart 108 = .ok (.getfield 68, 3) := sdX7_apart_107.2.1
theorem dX7_apart_111 : decode cX7_apart 111 = .ok (.getfield 182, 3) := sdX7_apart_107.2.2.1
theorem dX7_apart_114 : decode cX7_apart 114 = .ok (.iload_n 3, 1) := sdX7_apart_107.2.2.2.1
theorem dX7_apart_115 : decode cX7_apart 115 = .ok (.invokestatic 175, 3) := sdX7_apart_107.2.2.2.2.1
theorem dX7_apart_118 : decode cX7_apart 118 = .ok (.ishl, 1) := sdX7_apart_107.2.2.2.2.2.1
theorem dX7_apart_119 : decode cX7_apart 119 = .ok (.ior, 1) := sdX7_apart_107.2.2.2.2.2.2.1
theorem dX7_apart_120 : decode cX7_apart 120 = .ok (.istore_n 2, 1) := sdX7_apart_107.2.2.2.2.2.2.2.1
theorem sdX7_apart_121 : dz_Seg cX7_apart [(121, .iinc 3 1, 3), (124, .goto (-45), 3), (127, .aload_n 0, 1), (128, .aload_n 0, 1), (129, .getfield 74, 3), (132, .iload_n 2, 1), (133, .invokevirtual 319, 3), (136, .invokevirtual 303, 3)] := dz_sg _ 121 (by decide +kernel)
theorem dX7_apart_121 : decode cX7_apart 121 = .ok (.iinc 3 1, 3) := sdX7_apart_121.1
theorem dX7_apart_124 : decode cX7_apart 124 = .ok (.goto (-45), 3) := sdX7_apart_121.2.1
theorem dX7_apart_127 : decode cX7_apart 127 = .ok (.aload_n 0, 1) := sdX7_apart_121.2.2.1
theorem dX7_apart_128 : decode cX7_apart 128 = .ok (.aload_n 0, 1) := sdX7_apart_121.2.2.2.1
theorem dX7_apart_129 : decode cX7_apart 129 = .ok (.getfield 74, 3) := sdX7_apart_121.2.2.2.2.1
theorem dX7_apart_132 : decode cX7_apart 132 = .ok (.iload_n 2, 1) := sdX7_apart_121.2.2.2.2.2.1
theorem dX7_apart_133 : decode cX7_apart 133 = .ok (.invokevirtual 319, 3) := sdX7_apart_121.2.2.2.2.2.2.1
theorem dX7_apart_136 : decode cX7_apart 136 = .ok (.invokevirtual 303, 3) := sdX7_apart_121.2.2.2.2.2.2.2.1
theorem sdX7_apart_139 : dz_Seg cX7_apart [(139, .lreturn, 1)] := dz_sg _ 139 (by decide +kernel)
theorem dX7_apart_139 : decode cX7_apart 139 = .ok (.lreturn, 1) := sdX7_apart_139.1
theorem sdX7_likes_0 : dz_Seg cX7_likes [(0, .aload_n 0, 1), (1, .iload_n 1, 1), (2, .invokevirtual 206, 3), (5, .ifCond .ne 9, 3), (8, .aload_n 0, 1), (9, .iconst 2, 1), (10, .invokevirtual 102, 3), (13, .ireturn, 1)] := dz_sg _ 0 (by decide +kernel)
theorem dX7_likes_0 : decode cX7_likes 0 = .ok (.aload_n 0, 1) := sdX7_likes_0.1
theorem dX7_likes_1 : decode cX7_likes 1 = .ok (.iload_n 1, 1) := sdX7_likes_0.2.1
theorem dX7_likes_2 : decode cX7_likes 2 = .ok (.invokevirtual 206, 3) := sdX7_likes_0.2.2.1
theorem dX7_likes_5 : decode cX7_likes 5 = .ok (.ifCond .ne 9, 3) := sdX7_likes_0.2.2.2.1
theorem dX7_likes_8 : decode cX7_likes 8 = .ok (.aload_n 0, 1) := sdX7_likes_0.2.2.2.2.1
theorem dX7_likes_9 : decode cX7_likes 9 = .ok (.iconst 2, 1) := sdX7_likes_0.2.2.2.2.2.1
theorem dX7_likes_10 : decode cX7_likes 10 = .ok (.invokevirtual 102, 3) := sdX7_likes_0.2.2.2.2.2.2.1
theorem dX7_likes_13 : decode cX7_likes 13 = .ok (.ireturn, 1) := sdX7_likes_0.2.2.2.2.2.2.2.1
theorem sdX7_likes_14 : dz_Seg cX7_likes [(14, .aload_n 0, 1), (15, .getfield 40, 3), (18, .getfield 140, 3), (21, .bipush 7, 2), (23, .if_icmp .le 9, 3), (26, .aload_n 0, 1), (27, .iconst 3, 1), (28, .invokevirtual 102, 3)] := dz_sg _ 14 (by decide +kernel)
theorem dX7_likes_14 : decode cX7_likes 14 = .ok (.aload_n 0, 1) := sdX7_likes_14.1
theorem dX7_likes_15 : decode cX7_likes 15 = .ok (.getfield 40, 3) := sdX7_likes_14.2.1
theorem dX7_likes_18 : decode cX7_likes 18 = .ok (.getfield 140, 3) := sdX7_likes_14.2.2.1
theorem dX7_likes_21 : decode cX7_likes 21 = .ok (.bipush 7, 2) := sdX7_likes_14.2.2.2.1
theorem dX7_likes_23 : decode cX7_likes 23 = .ok (.if_icmp .le 9, 3) := sdX7_likes_14.2.2.2.2.1
theorem dX7_likes_26 : decode cX7_likes 26 = .ok (.aload_n 0, 1) := sdX7_likes_14.2.2.2.2.2.1
theorem dX7_likes_27 : decode cX7_likes 27 = .ok (.iconst 3, 1) := sdX7_likes_14.2.2.2.2.2.2.1
theorem dX7_likes_28 : decode cX7_likes 28 = .ok (.invokevirtual 102, 3) := sdX7_likes_14.2.2.2.2.2.2.2.1
theorem sdX7_likes_31 : dz_Seg cX7_likes [(31, .ireturn, 1), (32, .iconst 0, 1), (33, .istore_n 2, 1), (34, .ldc2_w 347, 3), (37, .lstore_n 3, 1), (38, .aload_n 0, 1), (39, .getfield 65, 3), (42, .aload_n 0, 1)] := dz_sg _ 31 (by decide +kernel)
theorem dX7_likes_31 : decode cX7_likes 31 = .ok (.ireturn, 1) := sdX7_likes_31.1
theorem dX7_likes_32 : decode cX7_likes 32 = .ok (.iconst 0, 1) := sdX7_likes_31.2.1
theorem dX7_likes_33 : decode cX7_likes 33 = .ok (.istore_n 2, 1) := sdX7_likes_31.2.2.1
theorem dX7_likes_34 : decode cX7_likes 34 = .ok (.ldc2_w 347, 3) := sdX7_likes_31.2.2.2.1
theorem dX7_likes_37 : decode cX7_likes 37 = .ok (.lstore_n 3, 1) := sdX7_likes_31.2.2.2.2.1
theorem dX7_likes_38 : decode cX7_likes 38 = .ok (.aload_n 0, 1) := sdX7_likes_31.2.2.2.2.2.1
theorem dX7_likes_39 : decode cX7_likes 39 = .ok (.getfield 65, 3) := sdX7_likes_31.2.2.2.2.2.2.1
theorem dX7_likes_42 : decode cX7_likes 42 = .ok (.aload_n 0, 1) := sdX7_likes_31.2.2.2.2.2.2.2.1
theorem sdX7_likes_43 : dz_Seg cX7_likes [(43, .getfield 26, 3), (46, .invokevirtual 113, 3), (49, .iconst 0, 1), (50, .istore 5, 2), (52, .iload 5, 2), (54, .iconst 2, 1), (55, .if_icmp .gt 63, 3), (58, .aload_n 0, 1)] := dz_sg _ 43 (by decide +kernel)
theorem dX7_likes_43 : decode cX7_likes 43 = .ok (.getfield 26, 3) := sdX7_likes_43.1
theorem dX7_likes_46 : decode cX7_likes 46 = .ok (.invokevirtual 113, 3) := sdX7_likes_43.2.1
theorem dX7_likes_49 : decode cX7_likes 49 = .ok (.iconst 0, 1) := sdX7_likes_43.2.2.1
theorem dX7_likes_50 : decode cX7_likes 50 = .ok (.istore 5, 2) := sdX7_likes_43.2.2.2.1
theorem dX7_likes_52 : decode cX7_likes 52 = .ok (.iload 5, 2) := sdX7_likes_43.2.2.2.2.1
theorem dX7_likes_54 : decode cX7_likes 54 = .ok (.iconst 2, 1) := sdX7_likes_43.2.2.2.2.2.1
theorem dX7_likes_55 : decode cX7_likes 55 = .ok (.if_icmp .gt 63, 3) := sdX7_likes_43.2.2.2.2.2.2.1
theorem dX7_likes_58 : decode cX7_likes 58 = .ok (.aload_n 0, 1) := sdX7_likes_43.2.2.2.2.2.2.2.1
theorem sdX7_likes_59 : dz_Seg cX7_likes [(59, .getfield 65, 3), (62, .iload 5, 2), (64, .putfield 143, 3), (67, .aload_n 0, 1), (68, .getfield 68, 3), (71, .aload_n 0, 1), (72, .getfield 65, 3), (75, .invokevirtual 80, 3)] := dz_sg _ 59 (by decide +kernel)
theorem dX7_likes_59 : decode cX7_likes 59 = .ok (.getfield 65, 3) := sdX7_likes_59.1
theorem dX7_likes_62 : decode cX7_likes 62 = .ok (.iload 5, 2) := sdX7_likes_59.2.1
theorem dX7_likes_64 : decode cX7_likes 64 = .ok (.putfield 143, 3) := sdX7_likes_59.2.2.1
theorem dX7_likes_67 : decode cX7_likes 67 = .ok (.aload_n 0, 1) := sdX7_likes_59.2.2.2.1
theorem dX7_likes_68 : decode cX7_likes 68 = .ok (.getfield 68, 3) := sdX7_likes_59.2.2.2.2.1
theorem dX7_likes_71 : decode cX7_likes 71 = .ok (.aload_n 0, 1) := sdX7_likes_59.2.2.2.2.2.1
theorem dX7_likes_72 : decode cX7_likes 72 = .ok (.getfield 65, 3) := sdX7_likes_59.2.2.2.2.2.2.1
theorem dX7_likes_75 : decode cX7_likes 75 = .ok (.invokevirtual 80, 3) := sdX7_likes_59.2.2.2.2.2.2.2.1
theorem sdX7_likes_78 : dz_Seg cX7_likes [(78, .aload_n 0, 1), (79, .getfield 74, 3), (82, .aload_n 0, 1), (83, .getfield 68, 3), (86, .invokevirtual 339, 3), (89, .aload_n 0, 1), (90, .getfield 74, 3), (93, .iload_n 1, 1)] := dz_sg _ 78 (by decide +kernel)
theorem dX7_likes_78 : decode cX7_likes 78 = .ok (.aload_n 0, 1) := sdX7_likes_78.1
theorem dX7_likes_79 : decode cX7_likes 79 = .ok (.getfield 74, 3) := sdX7_likes_78.2.1
theorem dX7_likes_82 : decode cX7_likes 82 = .ok (.aload_n 0, 1) := sdX7_likes_78.2.2.1
theorem dX7_likes_83 : decode cX7_likes 83 = .ok (.getfield 68, 3) := sdX7_likes_78.2.2.2.1
theorem dX7_likes_86 : decode cX7_likes 86 = .ok (.invokevirtual 339, 3) := sdX7_likes_78.2.2.2.2.1
theorem dX7_likes_89 : decode cX7_likes 89 = .ok (.aload_n 0, 1) := sdX7_likes_78.2.2.2.2.2.1
theorem dX7_likes_90 : decode cX7_likes 90 = .ok (.getfield 74, 3) := sdX7_likes_78.2.2.2.2.2.2.1
theorem dX7_likes_93 : decode cX7_likes 93 = .ok (.iload_n 1, 1) := sdX7_likes_78.2.2.2.2.2.2.2.1
theorem sdX7_likes_94 : dz_Seg cX7_likes [(94, .invokevirtual 299, 3), (97, .lstore 6, 2), (99, .lload 6, 2), (101, .lload_n 3, 1), (102, .lcmp, 1), (103, .ifCond .le 9, 3), (106, .lload 6, 2), (108, .lstore_n 3, 1)] := dz_sg _ 94 (by decide +kernel)
theorem dX7_likes_94 : decode cX7_likes 94 = .ok (.invokevirtual 299, 3) := sdX7_likes_94.1
theorem dX7_likes_97 : decode cX7_likes 97 = .ok (.lstore 6, 2) := sdX7_likes_94.2.1
theorem dX7_likes_99 : decode cX7_likes 99 = .ok (.lload 6, 2) := sdX7_likes_94.2.2.1
theorem dX7_likes_101 : decode cX7_likes 101 = .ok (.lload_n 3, 1) := sdX7_likes_94.2.2.2.1
theorem dX7_likes_102 : decode cX7_likes 102 = .ok (.lcmp, 1) := sdX7_likes_94.2.2.2.2.1
theorem dX7_likes_103 : decode cX7_likes 103 = .ok (.ifCond .le 9, 3) := sdX7_likes_94.2.2.2.2.2.1
theorem dX7_likes_106 : decode cX7_likes 106 = .ok (.lload 6, 2) := sdX7_likes_94.2.2.2.2.2.2.1
theorem dX7_likes_108 : decode cX7_likes 108 = .ok (.lstore_n 3, 1) := sdX7_likes_94.2.2.2.2.2.2.2.1
theorem sdX7_likes_109 : dz_Seg cX7_likes [(109, .iload 5, 2), (111, .istore_n 2, 1), (112, .iinc 5 1, 3), (115, .goto (-63), 3), (118, .aload_n 0, 1), (119, .iload_n 2, 1), (120, .invokevirtual 134, 3), (123, .ireturn, 1)] := dz_sg _ 109 (by decide +kernel)
theorem dX7_likes_109 : decode cX7_likes 109 = .ok (.iload 5, 2) := sdX7_likes_109.1
theorem dX7_likes_111 : decode cX7_likes 111 = .ok (.istore_n 2, 1) := sdX7_likes_109.2.1
theorem dX7_likes_112 : decode cX7_likes 112 = .ok (.iinc 5 1, 3) := sdX7_likes_109.2.2.1
theorem dX7_likes_115 : decode cX7_likes 115 = .ok (.goto (-63), 3) := sdX7_likes_109.2.2.2.1
theorem dX7_likes_118 : decode cX7_likes 118 = .ok (.aload_n 0, 1) := sdX7_likes_109.2.2.2.2.1
theorem dX7_likes_119 : decode cX7_likes 119 = .ok (.iload_n 2, 1) := sdX7_likes_109.2.2.2.2.2.1
theorem dX7_likes_120 : decode cX7_likes 120 = .ok (.invokevirtual 134, 3) := sdX7_likes_109.2.2.2.2.2.2.1
theorem dX7_likes_123 : decode cX7_likes 123 = .ok (.ireturn, 1) := sdX7_likes_109.2.2.2.2.2.2.2.1
theorem sdX7_reckon_0 : dz_Seg cX7_reckon [(0, .aload_n 0, 1), (1, .getfield 368, 3), (4, .ifCond .ne 19, 3), (7, .aload_n 0, 1), (8, .getfield 54, 3), (11, .aload_n 0, 1), (12, .getfield 40, 3), (15, .invokevirtual 339, 3)] := dz_sg _ 0 (by decide +kernel)
theorem dX7_reckon_0 : decode cX7_reckon 0 = .ok (.aload_n 0, 1) := sdX7_reckon_0.1
theorem dX7_reckon_1 : decode cX7_reckon 1 = .ok (.getfield 368, 3) := sdX7_reckon_0.2.1
theorem dX7_reckon_4 : decode cX7_reckon 4 = .ok (.ifCond .ne 19, 3) := sdX7_reckon_0.2.2.1
theorem dX7_reckon_7 : decode cX7_reckon 7 = .ok (.aload_n 0, 1) := sdX7_reckon_0.2.2.2.1
theorem dX7_reckon_8 : decode cX7_reckon 8 = .ok (.getfield 54, 3) := sdX7_reckon_0.2.2.2.2.1
theorem dX7_reckon_11 : decode cX7_reckon 11 = .ok (.aload_n 0, 1) := sdX7_reckon_0.2.2.2.2.2.1
theorem dX7_reckon_12 : decode cX7_reckon 12 = .ok (.getfield 40, 3) := sdX7_reckon_0.2.2.2.2.2.2.1
theorem dX7_reckon_15 : decode cX7_reckon 15 = .ok (.invokevirtual 339, 3) := sdX7_reckon_0.2.2.2.2.2.2.2.1
theorem sdX7_reckon_18 : dz_Seg cX7_reckon [(18, .aload_n 0, 1), (19, .iconst 1, 1), (20, .putfield 368, 3), (23, .return_, 1)] := dz_sg _ 18 (by decide +kernel)
theorem dX7_reckon_18 : decode cX7_reckon 18 = .ok (.aload_n 0, 1) := sdX7_reckon_18.1
theorem dX7_reckon_19 : decode cX7_reckon 19 = .ok (.iconst 1, 1) := sdX7_reckon_18.2.1
theorem dX7_reckon_20 : decode cX7_reckon 20 = .ok (.putfield 368, 3) := sdX7_reckon_18.2.2.1
theorem dX7_reckon_23 : decode cX7_reckon 23 = .ok (.return_, 1) := sdX7_reckon_18.2.2.2.1
theorem sdX7_years_0 : dz_Seg cX7_years [(0, .iload_n 1, 1), (1, .iload_n 2, 1), (2, .invokestatic 372, 3), (5, .ifCond .eq 12, 3), (8, .iload_n 3, 1), (9, .ifCond .lt 8, 3), (12, .iload_n 3, 1), (13, .iconst 2, 1)] := dz_sg _ 0 (by decide +kernel)
theorem dX7_years_0 : decode cX7_years 0 = .ok (.iload_n 1, 1) := sdX7_years_0.1
theorem dX7_years_1 : decode cX7_years 1 = .ok (.iload_n 2, 1) := sdX7_years_0.2.1
theorem dX7_years_2 : decode cX7_years 2 = .ok (.invokestatic 372, 3) := sdX7_years_0.2.2.1
theorem dX7_years_5 : decode cX7_years 5 = .ok (.ifCond .eq 12, 3) := sdX7_years_0.2.2.2.1
theorem dX7_years_8 : decode cX7_years 8 = .ok (.iload_n 3, 1) := sdX7_years_0.2.2.2.2.1
theorem dX7_years_9 : decode cX7_years 9 = .ok (.ifCond .lt 8, 3) := sdX7_years_0.2.2.2.2.2.1
theorem dX7_years_12 : decode cX7_years 12 = .ok (.iload_n 3, 1) := sdX7_years_0.2.2.2.2.2.2.1
theorem dX7_years_13 : decode cX7_years 13 = .ok (.iconst 2, 1) := sdX7_years_0.2.2.2.2.2.2.2.1
theorem sdX7_years_14 : dz_Seg cX7_years [(14, .if_icmp .le 9, 3), (17, .aload_n 0, 1), (18, .iconst 1, 1), (19, .invokevirtual 102, 3), (22, .ireturn, 1), (23, .aload_n 0, 1), (24, .getfield 61, 3), (27, .aload_n 0, 1)] := dz_sg _ 14 (by decide +kernel)
theorem dX7_years_14 : decode cX7_years 14 = .ok (.if_icmp .le 9, 3) := sdX7_years_14.1
theorem dX7_years_17 : decode cX7_years 17 = .ok (.aload_n 0, 1) := sdX7_years_14.2.1
theorem dX7_years_18 : decode cX7_years 18 = .ok (.iconst 1, 1) := sdX7_years_14.2.2.1
theorem dX7_years_19 : decode cX7_years 19 = .ok (.invokevirtual 102, 3) := sdX7_years_14.2.2.2.1
theorem dX7_years_22 : decode cX7_years 22 = .ok (.ireturn, 1) := sdX7_years_14.2.2.2.2.1
theorem dX7_years_23 : decode cX7_years 23 = .ok (.aload_n 0, 1) := sdX7_years_14.2.2.2.2.2.1
theorem dX7_years_24 : decode cX7_years 24 = .ok (.getfield 61, 3) := sdX7_years_14.2.2.2.2.2.2.1
theorem dX7_years_27 : decode cX7_years 27 = .ok (.aload_n 0, 1) := sdX7_years_14.2.2.2.2.2.2.2.1
theorem sdX7_years_28 : dz_Seg cX7_years [(28, .getfield 26, 3), (31, .iload_n 1, 1), (32, .iload_n 2, 1), (33, .invokevirtual 376, 3), (36, .iload_n 3, 1)] := dz_sg _ 28 (by decide +kernel)
theorem dX7_years_28 : decode cX7_years 28 = .ok (.getfield 26, 3) := sdX7_years_28.1
theorem dX7_years_31 : decode cX7_years 31 = .ok (.iload_n 1, 1) := sdX7_years_28.2.1
theorem dX7_years_32 : decode cX7_years 32 = .ok (.iload_n 2, 1) := sdX7_years_28.2.2.1
theorem dX7_years_33 : decode cX7_years 33 = .ok (.invokevirtual 376, 3) := sdX7_years_28.2.2.2.1
theorem dX7_years_36 : decode cX7_years 36 = .ok (.iload_n 3, 1) := sdX7_years_28.2.2.2.2.1
theorem dX7_years_37 : decode cX7_years 37 = .ok (.lookupswitch 58 #[(0, 27), (1, 39)], 27) := by decide +kernel
theorem sdX7_years_64 : dz_Seg cX7_years [(64, .aload_n 0, 1), (65, .aload_n 0, 1), (66, .getfield 61, 3), (69, .getfield 380, 3), (72, .invokevirtual 134, 3), (75, .ireturn, 1), (76, .aload_n 0, 1), (77, .aload_n 0, 1)] := dz_sg _ 64 (by decide +kernel)
theorem dX7_years_64 : decode cX7_years 64 = .ok (.aload_n 0, 1) := sdX7_years_64.1
theorem dX7_years_65 : decode cX7_years 65 = .ok (.aload_n 0, 1) := sdX7_years_64.2.1
theorem dX7_years_66 : decode cX7_years 66 = .ok (.getfield 61, 3) := sdX7_years_64.2.2.1
theorem dX7_years_69 : decode cX7_years 69 = .ok (.getfield 380, 3) := sdX7_years_64.2.2.2.1
theorem dX7_years_72 : decode cX7_years 72 = .ok (.invokevirtual 134, 3) := sdX7_years_64.2.2.2.2.1
theorem dX7_years_75 : decode cX7_years 75 = .ok (.ireturn, 1) := sdX7_years_64.2.2.2.2.2.1
theorem dX7_years_76 : decode cX7_years 76 = .ok (.aload_n 0, 1) := sdX7_years_64.2.2.2.2.2.2.1
theorem dX7_years_77 : decode cX7_years 77 = .ok (.aload_n 0, 1) := sdX7_years_64.2.2.2.2.2.2.2.1
theorem sdX7_years_78 : dz_Seg cX7_years [(78, .getfield 61, 3), (81, .aload_n 0, 1), (82, .getfield 26, 3), (85, .getfield 119, 3), (88, .invokevirtual 383, 3), (91, .invokevirtual 134, 3), (94, .ireturn, 1), (95, .aload_n 0, 1)] := dz_sg _ 78 (by decide +kernel)
theorem dX7_years_78 : decode cX7_years 78 = .ok (.getfield 61, 3) := sdX7_years_78.1
theorem dX7_years_81 : decode cX7_years 81 = .ok (.aload_n 0, 1) := sdX7_years_78.2.1
theorem dX7_years_82 : decode cX7_years 82 = .ok (.getfield 26, 3) := sdX7_years_78.2.2.1
theorem dX7_years_85 : decode cX7_years 85 = .ok (.getfield 119, 3) := sdX7_years_78.2.2.2.1
theorem dX7_years_88 : decode cX7_years 88 = .ok (.invokevirtual 383, 3) := sdX7_years_78.2.2.2.2.1
theorem dX7_years_91 : decode cX7_years 91 = .ok (.invokevirtual 134, 3) := sdX7_years_78.2.2.2.2.2.1
theorem dX7_years_94 : decode cX7_years 94 = .ok (.ireturn, 1) := sdX7_years_78.2.2.2.2.2.2.1
theorem dX7_years_95 : decode cX7_years 95 = .ok (.aload_n 0, 1) := sdX7_years_78.2.2.2.2.2.2.2.1
theorem sdX7_years_96 : dz_Seg cX7_years [(96, .aload_n 0, 1), (97, .getfield 61, 3), (100, .getfield 386, 3), (103, .invokevirtual 134, 3), (106, .ireturn, 1)] := dz_sg _ 96 (by decide +kernel)
theorem dX7_years_96 : decode cX7_years 96 = .ok (.aload_n 0, 1) := sdX7_years_96.1
theorem dX7_years_97 : decode cX7_years 97 = .ok (.getfield 61, 3) := sdX7_years_96.2.1
theorem dX7_years_100 : decode cX7_years 100 = .ok (.getfield 386, 3) := sdX7_years_96.2.2.1
theorem dX7_years_103 : decode cX7_years 103 = .ok (.invokevirtual 134, 3) := sdX7_years_96.2.2.2.1
theorem dX7_years_106 : decode cX7_years 106 = .ok (.ireturn, 1) := sdX7_years_96.2.2.2.2.1
theorem sdX7_often_0 : dz_Seg cX7_often [(0, .iload_n 1, 1), (1, .iload_n 2, 1), (2, .invokestatic 372, 3), (5, .ifCond .ne 9, 3), (8, .aload_n 0, 1), (9, .iconst 1, 1), (10, .invokevirtual 102, 3), (13, .ireturn, 1)] := dz_sg _ 0 (by decide +kernel)
theorem dX7_often_0 : decode cX7_often 0 = .ok (.iload_n 1, 1) := sdX7_often_0.1
theorem dX7_often_1 : decode cX7_often 1 = .ok (.iload_n 2, 1) := sdX7_often_0.2.1
theorem dX7_often_2 : decode cX7_often 2 = .ok (.invokestatic 372, 3) := sdX7_often_0.2.2.1
theorem dX7_often_5 : decode cX7_often 5 = .ok (.ifCond .ne 9, 3) := sdX7_often_0.2.2.2.1
theorem dX7_often_8 : decode cX7_often 8 = .ok (.aload_n 0, 1) := sdX7_often_0.2.2.2.2.1
theorem dX7_often_9 : decode cX7_often 9 = .ok (.iconst 1, 1) := sdX7_often_0.2.2.2.2.2.1
theorem dX7_often_10 : decode cX7_often 10 = .ok (.invokevirtual 102, 3) := sdX7_often_0.2.2.2.2.2.2.1
theorem dX7_often_13 : decode cX7_often 13 = .ok (.ireturn, 1) := sdX7_often_0.2.2.2.2.2.2.2.1
theorem sdX7_often_14 : dz_Seg cX7_often [(14, .aload_n 0, 1), (15, .iload_n 3, 1), (16, .invokevirtual 168, 3), (19, .ifCond .ne 9, 3), (22, .aload_n 0, 1), (23, .iconst 2, 1), (24, .invokevirtual 102, 3), (27, .ireturn, 1)] := dz_sg _ 14 (by decide +kernel)
theorem dX7_often_14 : decode cX7_often 14 = .ok (.aload_n 0, 1) := sdX7_often_14.1
theorem dX7_often_15 : decode cX7_often 15 = .ok (.iload_n 3, 1) := sdX7_often_14.2.1
theorem dX7_often_16 : decode cX7_often 16 = .ok (.invokevirtual 168, 3) := sdX7_often_14.2.2.1
theorem dX7_often_19 : decode cX7_often 19 = .ok (.ifCond .ne 9, 3) := sdX7_often_14.2.2.2.1
theorem dX7_often_22 : decode cX7_often 22 = .ok (.aload_n 0, 1) := sdX7_often_14.2.2.2.2.1
theorem dX7_often_23 : decode cX7_often 23 = .ok (.iconst 2, 1) := sdX7_often_14.2.2.2.2.2.1
theorem dX7_often_24 : decode cX7_often 24 = .ok (.invokevirtual 102, 3) := sdX7_often_14.2.2.2.2.2.2.1
theorem dX7_often_27 : decode cX7_often 27 = .ok (.ireturn, 1) := sdX7_often_14.2.2.2.2.2.2.2.1
theorem sdX7_often_28 : dz_Seg cX7_often [(28, .aload_n 0, 1), (29, .getfield 61, 3), (32, .aload_n 0, 1), (33, .getfield 26, 3), (36, .iload_n 1, 1), (37, .iload_n 2, 1), (38, .invokevirtual 376, 3), (41, .aload_n 0, 1)] := dz_sg _ 28 (by decide +kernel)
theorem dX7_often_28 : decode cX7_often 28 = .ok (.aload_n 0, 1) := sdX7_often_28.1
theorem dX7_often_29 : decode cX7_often 29 = .ok (.getfield 61, 3) := sdX7_often_28.2.1
theorem dX7_often_32 : decode cX7_often 32 = .ok (.aload_n 0, 1) := sdX7_often_28.2.2.1
theorem dX7_often_33 : decode cX7_often 33 = .ok (.getfield 26, 3) := sdX7_often_28.2.2.2.1
theorem dX7_often_36 : decode cX7_often 36 = .ok (.iload_n 1, 1) := sdX7_often_28.2.2.2.2.1
theorem dX7_often_37 : decode cX7_often 37 = .ok (.iload_n 2, 1) := sdX7_often_28.2.2.2.2.2.1
theorem dX7_often_38 : decode cX7_often 38 = .ok (.invokevirtual 376, 3) := sdX7_often_28.2.2.2.2.2.2.1
theorem dX7_often_41 : decode cX7_often 41 = .ok (.aload_n 0, 1) := sdX7_often_28.2.2.2.2.2.2.2.1
theorem sdX7_often_42 : dz_Seg cX7_often [(42, .aload_n 0, 1), (43, .getfield 61, 3), (46, .getfield 389, 3), (49, .iload_n 3, 1), (50, .invokestatic 175, 3), (53, .invokevirtual 134, 3), (56, .ireturn, 1)] := dz_sg _ 42 (by decide +kernel)
theorem dX7_often_42 : decode cX7_often 42 = .ok (.aload_n 0, 1) := sdX7_often_42.1
theorem dX7_often_43 : decode cX7_often 43 = .ok (.getfield 61, 3) := sdX7_often_42.2.1
theorem dX7_often_46 : decode cX7_often 46 = .ok (.getfield 389, 3) := sdX7_often_42.2.2.1
theorem dX7_often_49 : decode cX7_often 49 = .ok (.iload_n 3, 1) := sdX7_often_42.2.2.2.1
theorem dX7_often_50 : decode cX7_often 50 = .ok (.invokestatic 175, 3) := sdX7_often_42.2.2.2.2.1
theorem dX7_often_53 : decode cX7_often 53 = .ok (.invokevirtual 134, 3) := sdX7_often_42.2.2.2.2.2.1
theorem dX7_often_56 : decode cX7_often 56 = .ok (.ireturn, 1) := sdX7_often_42.2.2.2.2.2.2.1
theorem sdX7_soonest_0 : dz_Seg cX7_soonest [(0, .iload_n 1, 1), (1, .iload_n 2, 1), (2, .invokestatic 372, 3), (5, .ifCond .ne 9, 3), (8, .aload_n 0, 1), (9, .iconst 1, 1), (10, .invokevirtual 102, 3), (13, .ireturn, 1)] := dz_sg _ 0 (by decide +kernel)
theorem dX7_soonest_0 : decode cX7_soonest 0 = .ok (.iload_n 1, 1) := sdX7_soonest_0.1
theorem dX7_soonest_1 : decode cX7_soonest 1 = .ok (.iload_n 2, 1) := sdX7_soonest_0.2.1
theorem dX7_soonest_2 : decode cX7_soonest 2 = .ok (.invokestatic 372, 3) := sdX7_soonest_0.2.2.1
theorem dX7_soonest_5 : decode cX7_soonest 5 = .ok (.ifCond .ne 9, 3) := sdX7_soonest_0.2.2.2.1
theorem dX7_soonest_8 : decode cX7_soonest 8 = .ok (.aload_n 0, 1) := sdX7_soonest_0.2.2.2.2.1
theorem dX7_soonest_9 : decode cX7_soonest 9 = .ok (.iconst 1, 1) := sdX7_soonest_0.2.2.2.2.2.1
theorem dX7_soonest_10 : decode cX7_soonest 10 = .ok (.invokevirtual 102, 3) := sdX7_soonest_0.2.2.2.2.2.2.1
theorem dX7_soonest_13 : decode cX7_soonest 13 = .ok (.ireturn, 1) := sdX7_soonest_0.2.2.2.2.2.2.2.1
theorem sdX7_soonest_14 : dz_Seg cX7_soonest [(14, .aload_n 0, 1), (15, .iload_n 3, 1), (16, .invokevirtual 168, 3), (19, .ifCond .ne 9, 3), (22, .aload_n 0, 1), (23, .iconst 2, 1), (24, .invokevirtual 102, 3), (27, .ireturn, 1)] := dz_sg _ 14 (by decide +kernel)
theorem dX7_soonest_14 : decode cX7_soonest 14 = .ok (.aload_n 0, 1) := sdX7_soonest_14.1
theorem dX7_soonest_15 : decode cX7_soonest 15 = .ok (.iload_n 3, 1) := sdX7_soonest_14.2.1
theorem dX7_soonest_16 : decode cX7_soonest 16 = .ok (.invokevirtual 168, 3) := sdX7_soonest_14.2.2.1
theorem dX7_soonest_19 : decode cX7_soonest 19 = .ok (.ifCond .ne 9, 3) := sdX7_soonest_14.2.2.2.1
theorem dX7_soonest_22 : decode cX7_soonest 22 = .ok (.aload_n 0, 1) := sdX7_soonest_14.2.2.2.2.1
theorem dX7_soonest_23 : decode cX7_soonest 23 = .ok (.iconst 2, 1) := sdX7_soonest_14.2.2.2.2.2.1
theorem dX7_soonest_24 : decode cX7_soonest 24 = .ok (.invokevirtual 102, 3) := sdX7_soonest_14.2.2.2.2.2.2.1
theorem dX7_soonest_27 : decode cX7_soonest 27 = .ok (.ireturn, 1) := sdX7_soonest_14.2.2.2.2.2.2.2.1
theorem sdX7_soonest_28 : dz_Seg cX7_soonest [(28, .aload_n 0, 1), (29, .getfield 61, 3), (32, .aload_n 0, 1), (33, .getfield 26, 3), (36, .iload_n 1, 1), (37, .iload_n 2, 1), (38, .invokevirtual 376, 3), (41, .aload_n 0, 1)] := dz_sg _ 28 (by decide +kernel)
theorem dX7_soonest_28 : decode cX7_soonest 28 = .ok (.aload_n 0, 1) := sdX7_soonest_28.1
theorem dX7_soonest_29 : decode cX7_soonest 29 = .ok (.getfield 61, 3) := sdX7_soonest_28.2.1
theorem dX7_soonest_32 : decode cX7_soonest 32 = .ok (.aload_n 0, 1) := sdX7_soonest_28.2.2.1
theorem dX7_soonest_33 : decode cX7_soonest 33 = .ok (.getfield 26, 3) := sdX7_soonest_28.2.2.2.1
theorem dX7_soonest_36 : decode cX7_soonest 36 = .ok (.iload_n 1, 1) := sdX7_soonest_28.2.2.2.2.1
theorem dX7_soonest_37 : decode cX7_soonest 37 = .ok (.iload_n 2, 1) := sdX7_soonest_28.2.2.2.2.2.1
theorem dX7_soonest_38 : decode cX7_soonest 38 = .ok (.invokevirtual 376, 3) := sdX7_soonest_28.2.2.2.2.2.2.1
theorem dX7_soonest_41 : decode cX7_soonest 41 = .ok (.aload_n 0, 1) := sdX7_soonest_28.2.2.2.2.2.2.2.1
theorem sdX7_soonest_42 : dz_Seg cX7_soonest [(42, .getfield 61, 3), (45, .getfield 392, 3), (48, .iload_n 3, 1), (49, .invokestatic 175, 3), (52, .istore 4, 2), (54, .iload 4, 2), (56, .ifCond .ne 11, 3), (59, .aload_n 0, 1)] := dz_sg _ 42 (by decide +kernel)
theorem dX7_soonest_42 : decode cX7_soonest 42 = .ok (.getfield 61, 3) := sdX7_soonest_42.1
theorem dX7_soonest_45 : decode cX7_soonest 45 = .ok (.getfield 392, 3) := sdX7_soonest_42.2.1
theorem dX7_soonest_48 : decode cX7_soonest 48 = .ok (.iload_n 3, 1) := sdX7_soonest_42.2.2.1
theorem dX7_soonest_49 : decode cX7_soonest 49 = .ok (.invokestatic 175, 3) := sdX7_soonest_42.2.2.2.1
theorem dX7_soonest_52 : decode cX7_soonest 52 = .ok (.istore 4, 2) := sdX7_soonest_42.2.2.2.2.1
theorem dX7_soonest_54 : decode cX7_soonest 54 = .ok (.iload 4, 2) := sdX7_soonest_42.2.2.2.2.2.1
theorem dX7_soonest_56 : decode cX7_soonest 56 = .ok (.ifCond .ne 11, 3) := sdX7_soonest_42.2.2.2.2.2.2.1
theorem dX7_soonest_59 : decode cX7_soonest 59 = .ok (.aload_n 0, 1) := sdX7_soonest_42.2.2.2.2.2.2.2.1
theorem sdX7_soonest_60 : dz_Seg cX7_soonest [(60, .iconst 5, 1), (61, .invokevirtual 102, 3), (64, .goto 9, 3), (67, .aload_n 0, 1), (68, .iload 4, 2), (70, .invokevirtual 134, 3), (73, .ireturn, 1)] := dz_sg _ 60 (by decide +kernel)
theorem dX7_soonest_60 : decode cX7_soonest 60 = .ok (.iconst 5, 1) := sdX7_soonest_60.1
theorem dX7_soonest_61 : decode cX7_soonest 61 = .ok (.invokevirtual 102, 3) := sdX7_soonest_60.2.1
theorem dX7_soonest_64 : decode cX7_soonest 64 = .ok (.goto 9, 3) := sdX7_soonest_60.2.2.1
theorem dX7_soonest_67 : decode cX7_soonest 67 = .ok (.aload_n 0, 1) := sdX7_soonest_60.2.2.2.1
theorem dX7_soonest_68 : decode cX7_soonest 68 = .ok (.iload 4, 2) := sdX7_soonest_60.2.2.2.2.1
theorem dX7_soonest_70 : decode cX7_soonest 70 = .ok (.invokevirtual 134, 3) := sdX7_soonest_60.2.2.2.2.2.1
theorem dX7_soonest_73 : decode cX7_soonest 73 = .ok (.ireturn, 1) := sdX7_soonest_60.2.2.2.2.2.2.1
theorem sdX7_areYears_0 : dz_Seg cX7_areYears [(0, .iload_n 0, 1), (1, .invokestatic 237, 3), (4, .ifCond .eq 27, 3), (7, .iload_n 1, 1), (8, .iconst 1, 1), (9, .if_icmp .lt 22, 3), (12, .iload_n 1, 1), (13, .bipush 30, 2)] := dz_sg _ 0 (by decide +kernel)
theorem dX7_areYears_0 : decode cX7_areYears 0 = .ok (.iload_n 0, 1) := sdX7_areYears_0.1
theorem dX7_areYears_1 : decode cX7_areYears 1 = .ok (.invokestatic 237, 3) := sdX7_areYears_0.2.1
theorem dX7_areYears_4 : decode cX7_areYears 4 = .ok (.ifCond .eq 27, 3) := sdX7_areYears_0.2.2.1
theorem dX7_areYears_7 : decode cX7_areYears 7 = .ok (.iload_n 1, 1) := sdX7_areYears_0.2.2.2.1
theorem dX7_areYears_8 : decode cX7_areYears 8 = .ok (.iconst 1, 1) := sdX7_areYears_0.2.2.2.2.1
theorem dX7_areYears_9 : decode cX7_areYears 9 = .ok (.if_icmp .lt 22, 3) := sdX7_areYears_0.2.2.2.2.2.1
theorem dX7_areYears_12 : decode cX7_areYears 12 = .ok (.iload_n 1, 1) := sdX7_areYears_0.2.2.2.2.2.2.1
theorem dX7_areYears_13 : decode cX7_areYears 13 = .ok (.bipush 30, 2) := sdX7_areYears_0.2.2.2.2.2.2.2.1
theorem sdX7_areYears_15 : dz_Seg cX7_areYears [(15, .if_icmp .gt 16, 3), (18, .iload_n 0, 1), (19, .ldc_w 395, 3), (22, .iload_n 1, 1), (23, .isub, 1), (24, .if_icmp .gt 7, 3), (27, .iconst 1, 1), (28, .goto 4, 3)] := dz_sg _ 15 (by decide +kernel)
theorem dX7_areYears_15 : decode cX7_areYears 15 = .ok (.if_icmp .gt 16, 3) := sdX7_areYears_15.1
theorem dX7_areYears_18 : decode cX7_areYears 18 = .ok (.iload_n 0, 1) := sdX7_areYears_15.2.1
theorem dX7_areYears_19 : decode cX7_areYears 19 = .ok (.ldc_w 395, 3) := sdX7_areYears_15.2.2.1
theorem dX7_areYears_22 : decode cX7_areYears 22 = .ok (.iload_n 1, 1) := sdX7_areYears_15.2.2.2.1
theorem dX7_areYears_23 : decode cX7_areYears 23 = .ok (.isub, 1) := sdX7_areYears_15.2.2.2.2.1
theorem dX7_areYears_24 : decode cX7_areYears 24 = .ok (.if_icmp .gt 7, 3) := sdX7_areYears_15.2.2.2.2.2.1
theorem dX7_areYears_27 : decode cX7_areYears 27 = .ok (.iconst 1, 1) := sdX7_areYears_15.2.2.2.2.2.2.1
theorem dX7_areYears_28 : decode cX7_areYears 28 = .ok (.goto 4, 3) := sdX7_areYears_15.2.2.2.2.2.2.2.1
theorem sdX7_areYears_31 : dz_Seg cX7_areYears [(31, .iconst 0, 1), (32, .ireturn, 1)] := dz_sg _ 31 (by decide +kernel)
theorem dX7_areYears_31 : decode cX7_areYears 31 = .ok (.iconst 0, 1) := sdX7_areYears_31.1
theorem dX7_areYears_32 : decode cX7_areYears 32 = .ok (.ireturn, 1) := sdX7_areYears_31.2.1
theorem sdX7_draw_0 : dz_Seg cX7_draw [(0, .iload_n 1, 1), (1, .invokestatic 237, 3), (4, .ifCond .ne 9, 3), (7, .aload_n 0, 1), (8, .iconst 1, 1), (9, .invokevirtual 102, 3), (12, .ireturn, 1), (13, .aload_n 0, 1)] := dz_sg _ 0 (by decide +kernel)
theorem dX7_draw_0 : decode cX7_draw 0 = .ok (.iload_n 1, 1) := sdX7_draw_0.1
theorem dX7_draw_1 : decode cX7_draw 1 = .ok (.invokestatic 237, 3) := sdX7_draw_0.2.1
theorem dX7_draw_4 : decode cX7_draw 4 = .ok (.ifCond .ne 9, 3) := sdX7_draw_0.2.2.1
theorem dX7_draw_7 : decode cX7_draw 7 = .ok (.aload_n 0, 1) := sdX7_draw_0.2.2.2.1
theorem dX7_draw_8 : decode cX7_draw 8 = .ok (.iconst 1, 1) := sdX7_draw_0.2.2.2.2.1
theorem dX7_draw_9 : decode cX7_draw 9 = .ok (.invokevirtual 102, 3) := sdX7_draw_0.2.2.2.2.2.1
theorem dX7_draw_12 : decode cX7_draw 12 = .ok (.ireturn, 1) := sdX7_draw_0.2.2.2.2.2.2.1
theorem dX7_draw_13 : decode cX7_draw 13 = .ok (.aload_n 0, 1) := sdX7_draw_0.2.2.2.2.2.2.2.1
theorem sdX7_draw_14 : dz_Seg cX7_draw [(14, .getfield 33, 3), (17, .aload_n 0, 1), (18, .getfield 26, 3), (21, .invokevirtual 396, 3), (24, .aload_n 0, 1), (25, .getfield 47, 3), (28, .aload_n 0, 1), (29, .getfield 40, 3)] := dz_sg _ 14 (by decide +kernel)
theorem dX7_draw_14 : decode cX7_draw 14 = .ok (.getfield 33, 3) := sdX7_draw_14.1
theorem dX7_draw_17 : decode cX7_draw 17 = .ok (.aload_n 0, 1) := sdX7_draw_14.2.1
theorem dX7_draw_18 : decode cX7_draw 18 = .ok (.getfield 26, 3) := sdX7_draw_14.2.2.1
theorem dX7_draw_21 : decode cX7_draw 21 = .ok (.invokevirtual 396, 3) := sdX7_draw_14.2.2.2.1
theorem dX7_draw_24 : decode cX7_draw 24 = .ok (.aload_n 0, 1) := sdX7_draw_14.2.2.2.2.1
theorem dX7_draw_25 : decode cX7_draw 25 = .ok (.getfield 47, 3) := sdX7_draw_14.2.2.2.2.2.1
theorem dX7_draw_28 : decode cX7_draw 28 = .ok (.aload_n 0, 1) := sdX7_draw_14.2.2.2.2.2.2.1
theorem dX7_draw_29 : decode cX7_draw 29 = .ok (.getfield 40, 3) := sdX7_draw_14.2.2.2.2.2.2.2.1
theorem sdX7_draw_32 : dz_Seg cX7_draw [(32, .iload_n 1, 1), (33, .invokevirtual 247, 3), (36, .aload_n 0, 1), (37, .getfield 26, 3), (40, .aload_n 0, 1), (41, .getfield 40, 3), (44, .aload_n 0, 1), (45, .getfield 47, 3)] := dz_sg _ 32 (by decide +kernel)
theorem dX7_draw_32 : decode cX7_draw 32 = .ok (.iload_n 1, 1) := sdX7_draw_32.1
theorem dX7_draw_33 : decode cX7_draw 33 = .ok (.invokevirtual 247, 3) := sdX7_draw_32.2.1
theorem dX7_draw_36 : decode cX7_draw 36 = .ok (.aload_n 0, 1) := sdX7_draw_32.2.2.1
theorem dX7_draw_37 : decode cX7_draw 37 = .ok (.getfield 26, 3) := sdX7_draw_32.2.2.2.1
theorem dX7_draw_40 : decode cX7_draw 40 = .ok (.aload_n 0, 1) := sdX7_draw_32.2.2.2.2.1
theorem dX7_draw_41 : decode cX7_draw 41 = .ok (.getfield 40, 3) := sdX7_draw_32.2.2.2.2.2.1
theorem dX7_draw_44 : decode cX7_draw 44 = .ok (.aload_n 0, 1) := sdX7_draw_32.2.2.2.2.2.2.1
theorem dX7_draw_45 : decode cX7_draw 45 = .ok (.getfield 47, 3) := sdX7_draw_32.2.2.2.2.2.2.2.1
theorem sdX7_draw_48 : dz_Seg cX7_draw [(48, .invokevirtual 399, 3), (51, .aload_n 0, 1), (52, .getfield 26, 3), (55, .dup, 1), (56, .getfield 152, 3), (59, .iconst 1, 1), (60, .iadd, 1), (61, .putfield 152, 3)] := dz_sg _ 48 (by decide +kernel)
theorem dX7_draw_48 : decode cX7_draw 48 = .ok (.invokevirtual 399, 3) := sdX7_draw_48.1
theorem dX7_draw_51 : decode cX7_draw 51 = .ok (.aload_n 0, 1) := sdX7_draw_48.2.1
theorem dX7_draw_52 : decode cX7_draw 52 = .ok (.getfield 26, 3) := sdX7_draw_48.2.2.1
theorem dX7_draw_55 : decode cX7_draw 55 = .ok (.dup, 1) := sdX7_draw_48.2.2.2.1
theorem dX7_draw_56 : decode cX7_draw 56 = .ok (.getfield 152, 3) := sdX7_draw_48.2.2.2.2.1
theorem dX7_draw_59 : decode cX7_draw 59 = .ok (.iconst 1, 1) := sdX7_draw_48.2.2.2.2.2.1
theorem dX7_draw_60 : decode cX7_draw 60 = .ok (.iadd, 1) := sdX7_draw_48.2.2.2.2.2.2.1
theorem dX7_draw_61 : decode cX7_draw 61 = .ok (.putfield 152, 3) := sdX7_draw_48.2.2.2.2.2.2.2.1
theorem sdX7_draw_64 : dz_Seg cX7_draw [(64, .aload_n 0, 1), (65, .aload_n 0, 1), (66, .getfield 47, 3), (69, .aload_n 0, 1), (70, .getfield 40, 3), (73, .invokevirtual 403, 3), (76, .invokevirtual 122, 3), (79, .ireturn, 1)] := dz_sg _ 64 (by decide +kernel)
theorem dX7_draw_64 : decode cX7_draw 64 = .ok (.aload_n 0, 1) := sdX7_draw_64.1
theorem dX7_draw_65 : decode cX7_draw 65 = .ok (.aload_n 0, 1) := sdX7_draw_64.2.1
theorem dX7_draw_66 : decode cX7_draw 66 = .ok (.getfield 47, 3) := sdX7_draw_64.2.2.1
theorem dX7_draw_69 : decode cX7_draw 69 = .ok (.aload_n 0, 1) := sdX7_draw_64.2.2.2.1
theorem dX7_draw_70 : decode cX7_draw 70 = .ok (.getfield 40, 3) := sdX7_draw_64.2.2.2.2.1
theorem dX7_draw_73 : decode cX7_draw 73 = .ok (.invokevirtual 403, 3) := sdX7_draw_64.2.2.2.2.2.1
theorem dX7_draw_76 : decode cX7_draw 76 = .ok (.invokevirtual 122, 3) := sdX7_draw_64.2.2.2.2.2.2.1
theorem dX7_draw_79 : decode cX7_draw 79 = .ok (.ireturn, 1) := sdX7_draw_64.2.2.2.2.2.2.2.1
theorem sdX7_points_0 : dz_Seg cX7_points [(0, .iload_n 2, 1), (1, .ifCond .lt 9, 3), (4, .iload_n 2, 1), (5, .bipush 20, 2), (7, .if_icmp .le 9, 3), (10, .aload_n 0, 1), (11, .iconst 1, 1), (12, .invokevirtual 102, 3)] := dz_sg _ 0 (by decide +kernel)
theorem dX7_points_0 : decode cX7_points 0 = .ok (.iload_n 2, 1) := sdX7_points_0.1
theorem dX7_points_1 : decode cX7_points 1 = .ok (.ifCond .lt 9, 3) := sdX7_points_0.2.1
theorem dX7_points_4 : decode cX7_points 4 = .ok (.iload_n 2, 1) := sdX7_points_0.2.2.1
theorem dX7_points_5 : decode cX7_points 5 = .ok (.bipush 20, 2) := sdX7_points_0.2.2.2.1
theorem dX7_points_7 : decode cX7_points 7 = .ok (.if_icmp .le 9, 3) := sdX7_points_0.2.2.2.2.1
theorem dX7_points_10 : decode cX7_points 10 = .ok (.aload_n 0, 1) := sdX7_points_0.2.2.2.2.2.1
theorem dX7_points_11 : decode cX7_points 11 = .ok (.iconst 1, 1) := sdX7_points_0.2.2.2.2.2.2.1
theorem dX7_points_12 : decode cX7_points 12 = .ok (.invokevirtual 102, 3) := sdX7_points_0.2.2.2.2.2.2.2.1
theorem sdX7_points_15 : dz_Seg cX7_points [(15, .ireturn, 1), (16, .aload_n 0, 1), (17, .iload_n 1, 1), (18, .invokevirtual 168, 3), (21, .ifCond .ne 9, 3), (24, .aload_n 0, 1), (25, .iconst 2, 1), (26, .invokevirtual 102, 3)] := dz_sg _ 15 (by decide +kernel)
theorem dX7_points_15 : decode cX7_points 15 = .ok (.ireturn, 1) := sdX7_points_15.1
theorem dX7_points_16 : decode cX7_points 16 = .ok (.aload_n 0, 1) := sdX7_points_15.2.1
theorem dX7_points_17 : decode cX7_points 17 = .ok (.iload_n 1, 1) := sdX7_points_15.2.2.1
theorem dX7_points_18 : decode cX7_points 18 = .ok (.invokevirtual 168, 3) := sdX7_points_15.2.2.2.1
theorem dX7_points_21 : decode cX7_points 21 = .ok (.ifCond .ne 9, 3) := sdX7_points_15.2.2.2.2.1
theorem dX7_points_24 : decode cX7_points 24 = .ok (.aload_n 0, 1) := sdX7_points_15.2.2.2.2.2.1
theorem dX7_points_25 : decode cX7_points 25 = .ok (.iconst 2, 1) := sdX7_points_15.2.2.2.2.2.2.1
theorem dX7_points_26 : decode cX7_points 26 = .ok (.invokevirtual 102, 3) := sdX7_points_15.2.2.2.2.2.2.2.1
theorem sdX7_points_29 : dz_Seg cX7_points [(29, .ireturn, 1), (30, .aload_n 0, 1), (31, .getfield 26, 3), (34, .getfield 172, 3), (37, .iload_n 1, 1), (38, .invokestatic 175, 3), (41, .istore_n 3, 1), (42, .iload_n 3, 1)] := dz_sg _ 29 (by decide +kernel)
theorem dX7_points_29 : decode cX7_points 29 = .ok (.ireturn, 1) := sdX7_points_29.1
theorem dX7_points_30 : decode cX7_points 30 = .ok (.aload_n 0, 1) := sdX7_points_29.2.1
theorem dX7_points_31 : decode cX7_points 31 = .ok (.getfield 26, 3) := sdX7_points_29.2.2.1
theorem dX7_points_34 : decode cX7_points 34 = .ok (.getfield 172, 3) := sdX7_points_29.2.2.2.1
theorem dX7_points_37 : decode cX7_points 37 = .ok (.iload_n 1, 1) := sdX7_points_29.2.2.2.2.1
theorem dX7_points_38 : decode cX7_points 38 = .ok (.invokestatic 175, 3) := sdX7_points_29.2.2.2.2.2.1
theorem dX7_points_41 : decode cX7_points 41 = .ok (.istore_n 3, 1) := sdX7_points_29.2.2.2.2.2.2.1
theorem dX7_points_42 : decode cX7_points 42 = .ok (.iload_n 3, 1) := sdX7_points_29.2.2.2.2.2.2.2.1
theorem sdX7_points_43 : dz_Seg cX7_points [(43, .iload_n 2, 1), (44, .if_icmp .ne 9, 3), (47, .aload_n 0, 1), (48, .iconst 4, 1), (49, .invokevirtual 102, 3), (52, .ireturn, 1), (53, .aload_n 0, 1), (54, .getfield 33, 3)] := dz_sg _ 43 (by decide +kernel)
theorem dX7_points_43 : decode cX7_points 43 = .ok (.iload_n 2, 1) := sdX7_points_43.1
theorem dX7_points_44 : decode cX7_points 44 = .ok (.if_icmp .ne 9, 3) := sdX7_points_43.2.1
theorem dX7_points_47 : decode cX7_points 47 = .ok (.aload_n 0, 1) := sdX7_points_43.2.2.1
theorem dX7_points_48 : decode cX7_points 48 = .ok (.iconst 4, 1) := sdX7_points_43.2.2.2.1
theorem dX7_points_49 : decode cX7_points 49 = .ok (.invokevirtual 102, 3) := sdX7_points_43.2.2.2.2.1
theorem dX7_points_52 : decode cX7_points 52 = .ok (.ireturn, 1) := sdX7_points_43.2.2.2.2.2.1
theorem dX7_points_53 : decode cX7_points 53 = .ok (.aload_n 0, 1) := sdX7_points_43.2.2.2.2.2.2.1
theorem dX7_points_54 : decode cX7_points 54 = .ok (.getfield 33, 3) := sdX7_points_43.2.2.2.2.2.2.2.1
theorem sdX7_points_57 : dz_Seg cX7_points [(57, .aload_n 0, 1), (58, .getfield 26, 3), (61, .invokevirtual 396, 3), (64, .aload_n 0, 1), (65, .getfield 26, 3), (68, .getfield 172, 3), (71, .iload_n 1, 1), (72, .iload_n 2, 1)] := dz_sg _ 57 (by decide +kernel)
theorem dX7_points_57 : decode cX7_points 57 = .ok (.aload_n 0, 1) := sdX7_points_57.1
theorem dX7_points_58 : decode cX7_points 58 = .ok (.getfield 26, 3) := sdX7_points_57.2.1
theorem dX7_points_61 : decode cX7_points 61 = .ok (.invokevirtual 396, 3) := sdX7_points_57.2.2.1
theorem dX7_points_64 : decode cX7_points 64 = .ok (.aload_n 0, 1) := sdX7_points_57.2.2.2.1
theorem dX7_points_65 : decode cX7_points 65 = .ok (.getfield 26, 3) := sdX7_points_57.2.2.2.2.1
theorem dX7_points_68 : decode cX7_points 68 = .ok (.getfield 172, 3) := sdX7_points_57.2.2.2.2.2.1
theorem dX7_points_71 : decode cX7_points 71 = .ok (.iload_n 1, 1) := sdX7_points_57.2.2.2.2.2.2.1
theorem dX7_points_72 : decode cX7_points 72 = .ok (.iload_n 2, 1) := sdX7_points_57.2.2.2.2.2.2.2.1
theorem sdX7_points_73 : dz_Seg cX7_points [(73, .invokestatic 98, 3), (76, .aload_n 0, 1), (77, .iload_n 3, 1), (78, .invokevirtual 122, 3), (81, .ireturn, 1)] := dz_sg _ 73 (by decide +kernel)
theorem dX7_points_73 : decode cX7_points 73 = .ok (.invokestatic 98, 3) := sdX7_points_73.1
theorem dX7_points_76 : decode cX7_points 76 = .ok (.aload_n 0, 1) := sdX7_points_73.2.1
theorem dX7_points_77 : decode cX7_points 77 = .ok (.iload_n 3, 1) := sdX7_points_73.2.2.1
theorem dX7_points_78 : decode cX7_points 78 = .ok (.invokevirtual 122, 3) := sdX7_points_73.2.2.2.1
theorem dX7_points_81 : decode cX7_points 81 = .ok (.ireturn, 1) := sdX7_points_73.2.2.2.2.1
theorem sdX7_quota_0 : dz_Seg cX7_quota [(0, .iload_n 2, 1), (1, .ifCond .lt 9, 3), (4, .iload_n 2, 1), (5, .bipush 20, 2), (7, .if_icmp .le 9, 3), (10, .aload_n 0, 1), (11, .iconst 1, 1), (12, .invokevirtual 102, 3)] := dz_sg _ 0 (by decide +kernel)
theorem dX7_quota_0 : decode cX7_quota 0 = .ok (.iload_n 2, 1) := sdX7_quota_0.1
theorem dX7_quota_1 : decode cX7_quota 1 = .ok (.ifCond .lt 9, 3) := sdX7_quota_0.2.1
theorem dX7_quota_4 : decode cX7_quota 4 = .ok (.iload_n 2, 1) := sdX7_quota_0.2.2.1
theorem dX7_quota_5 : decode cX7_quota 5 = .ok (.bipush 20, 2) := sdX7_quota_0.2.2.2.1
theorem dX7_quota_7 : decode cX7_quota 7 = .ok (.if_icmp .le 9, 3) := sdX7_quota_0.2.2.2.2.1
theorem dX7_quota_10 : decode cX7_quota 10 = .ok (.aload_n 0, 1) := sdX7_quota_0.2.2.2.2.2.1
theorem dX7_quota_11 : decode cX7_quota 11 = .ok (.iconst 1, 1) := sdX7_quota_0.2.2.2.2.2.2.1
theorem dX7_quota_12 : decode cX7_quota 12 = .ok (.invokevirtual 102, 3) := sdX7_quota_0.2.2.2.2.2.2.2.1
theorem sdX7_quota_15 : dz_Seg cX7_quota [(15, .ireturn, 1), (16, .aload_n 0, 1), (17, .iload_n 1, 1), (18, .invokevirtual 188, 3), (21, .ifCond .ne 9, 3), (24, .aload_n 0, 1), (25, .iconst 2, 1), (26, .invokevirtual 102, 3)] := dz_sg _ 15 (by decide +kernel)
theorem dX7_quota_15 : decode cX7_quota 15 = .ok (.ireturn, 1) := sdX7_quota_15.1
theorem dX7_quota_16 : decode cX7_quota 16 = .ok (.aload_n 0, 1) := sdX7_quota_15.2.1
theorem dX7_quota_17 : decode cX7_quota 17 = .ok (.iload_n 1, 1) := sdX7_quota_15.2.2.1
theorem dX7_quota_18 : decode cX7_quota 18 = .ok (.invokevirtual 188, 3) := sdX7_quota_15.2.2.2.1
theorem dX7_quota_21 : decode cX7_quota 21 = .ok (.ifCond .ne 9, 3) := sdX7_quota_15.2.2.2.2.1
theorem dX7_quota_24 : decode cX7_quota 24 = .ok (.aload_n 0, 1) := sdX7_quota_15.2.2.2.2.2.1
theorem dX7_quota_25 : decode cX7_quota 25 = .ok (.iconst 2, 1) := sdX7_quota_15.2.2.2.2.2.2.1
theorem dX7_quota_26 : decode cX7_quota 26 = .ok (.invokevirtual 102, 3) := sdX7_quota_15.2.2.2.2.2.2.2.1
theorem sdX7_quota_29 : dz_Seg cX7_quota [(29, .ireturn, 1), (30, .aload_n 0, 1), (31, .getfield 26, 3), (34, .getfield 158, 3), (37, .iload_n 1, 1), (38, .invokestatic 175, 3), (41, .istore_n 3, 1), (42, .iload_n 3, 1)] := dz_sg _ 29 (by decide +kernel)
theorem dX7_quota_29 : decode cX7_quota 29 = .ok (.ireturn, 1) := sdX7_quota_29.1
theorem dX7_quota_30 : decode cX7_quota 30 = .ok (.aload_n 0, 1) := sdX7_quota_29.2.1
theorem dX7_quota_31 : decode cX7_quota 31 = .ok (.getfield 26, 3) := sdX7_quota_29.2.2.1
theorem dX7_quota_34 : decode cX7_quota 34 = .ok (.getfield 158, 3) := sdX7_quota_29.2.2.2.1
theorem dX7_quota_37 : decode cX7_quota 37 = .ok (.iload_n 1, 1) := sdX7_quota_29.2.2.2.2.1
theorem dX7_quota_38 : decode cX7_quota 38 = .ok (.invokestatic 175, 3) := sdX7_quota_29.2.2.2.2.2.1
theorem dX7_quota_41 : decode cX7_quota 41 = .ok (.istore_n 3, 1) := sdX7_quota_29.2.2.2.2.2.2.1
theorem dX7_quota_42 : decode cX7_quota 42 = .ok (.iload_n 3, 1) := sdX7_quota_29.2.2.2.2.2.2.2.1
theorem sdX7_quota_43 : dz_Seg cX7_quota [(43, .iload_n 2, 1), (44, .if_icmp .ne 9, 3), (47, .aload_n 0, 1), (48, .iconst 4, 1), (49, .invokevirtual 102, 3), (52, .ireturn, 1), (53, .aload_n 0, 1), (54, .getfield 33, 3)] := dz_sg _ 43 (by decide +kernel)
theorem dX7_quota_43 : decode cX7_quota 43 = .ok (.iload_n 2, 1) := sdX7_quota_43.1
theorem dX7_quota_44 : decode cX7_quota 44 = .ok (.if_icmp .ne 9, 3) := sdX7_quota_43.2.1
theorem dX7_quota_47 : decode cX7_quota 47 = .ok (.aload_n 0, 1) := sdX7_quota_43.2.2.1
theorem dX7_quota_48 : decode cX7_quota 48 = .ok (.iconst 4, 1) := sdX7_quota_43.2.2.2.1
theorem dX7_quota_49 : decode cX7_quota 49 = .ok (.invokevirtual 102, 3) := sdX7_quota_43.2.2.2.2.1
theorem dX7_quota_52 : decode cX7_quota 52 = .ok (.ireturn, 1) := sdX7_quota_43.2.2.2.2.2.1
theorem dX7_quota_53 : decode cX7_quota 53 = .ok (.aload_n 0, 1) := sdX7_quota_43.2.2.2.2.2.2.1
theorem dX7_quota_54 : decode cX7_quota 54 = .ok (.getfield 33, 3) := sdX7_quota_43.2.2.2.2.2.2.2.1
theorem sdX7_quota_57 : dz_Seg cX7_quota [(57, .aload_n 0, 1), (58, .getfield 26, 3), (61, .invokevirtual 396, 3), (64, .aload_n 0, 1), (65, .getfield 26, 3), (68, .getfield 158, 3), (71, .iload_n 1, 1), (72, .iload_n 2, 1)] := dz_sg _ 57 (by decide +kernel)
theorem dX7_quota_57 : decode cX7_quota 57 = .ok (.aload_n 0, 1) := sdX7_quota_57.1
theorem dX7_quota_58 : decode cX7_quota 58 = .ok (.getfield 26, 3) := sdX7_quota_57.2.1
theorem dX7_quota_61 : decode cX7_quota 61 = .ok (.invokevirtual 396, 3) := sdX7_quota_57.2.2.1
theorem dX7_quota_64 : decode cX7_quota 64 = .ok (.aload_n 0, 1) := sdX7_quota_57.2.2.2.1
theorem dX7_quota_65 : decode cX7_quota 65 = .ok (.getfield 26, 3) := sdX7_quota_57.2.2.2.2.1
theorem dX7_quota_68 : decode cX7_quota 68 = .ok (.getfield 158, 3) := sdX7_quota_57.2.2.2.2.2.1
theorem dX7_quota_71 : decode cX7_quota 71 = .ok (.iload_n 1, 1) := sdX7_quota_57.2.2.2.2.2.2.1
theorem dX7_quota_72 : decode cX7_quota 72 = .ok (.iload_n 2, 1) := sdX7_quota_57.2.2.2.2.2.2.2.1
theorem sdX7_quota_73 : dz_Seg cX7_quota [(73, .invokestatic 98, 3), (76, .aload_n 0, 1), (77, .iload_n 3, 1), (78, .invokevirtual 122, 3), (81, .ireturn, 1)] := dz_sg _ 73 (by decide +kernel)
theorem dX7_quota_73 : decode cX7_quota 73 = .ok (.invokestatic 98, 3) := sdX7_quota_73.1
theorem dX7_quota_76 : decode cX7_quota 76 = .ok (.aload_n 0, 1) := sdX7_quota_73.2.1
theorem dX7_quota_77 : decode cX7_quota 77 = .ok (.iload_n 3, 1) := sdX7_quota_73.2.2.1
theorem dX7_quota_78 : decode cX7_quota 78 = .ok (.invokevirtual 122, 3) := sdX7_quota_73.2.2.2.1
theorem dX7_quota_81 : decode cX7_quota 81 = .ok (.ireturn, 1) := sdX7_quota_73.2.2.2.2.1
theorem sdX7_choose_0 : dz_Seg cX7_choose [(0, .iload_n 2, 1), (1, .iconst (-1), 1), (2, .if_icmp .ne 8, 3), (5, .iload_n 3, 1), (6, .iconst (-1), 1), (7, .if_icmp .ne 14, 3), (10, .iload_n 3, 1), (11, .iconst (-1), 1)] := dz_sg _ 0 (by decide +kernel)
theorem dX7_choose_0 : decode cX7_choose 0 = .ok (.iload_n 2, 1) := sdX7_choose_0.1
theorem dX7_choose_1 : decode cX7_choose 1 = .ok (.iconst (-1), 1) := sdX7_choose_0.2.1
theorem dX7_choose_2 : decode cX7_choose 2 = .ok (.if_icmp .ne 8, 3) := sdX7_choose_0.2.2.1
theorem dX7_choose_5 : decode cX7_choose 5 = .ok (.iload_n 3, 1) := sdX7_choose_0.2.2.2.1
theorem dX7_choose_6 : decode cX7_choose 6 = .ok (.iconst (-1), 1) := sdX7_choose_0.2.2.2.2.1
theorem dX7_choose_7 : decode cX7_choose 7 = .ok (.if_icmp .ne 14, 3) := sdX7_choose_0.2.2.2.2.2.1
theorem dX7_choose_10 : decode cX7_choose 10 = .ok (.iload_n 3, 1) := sdX7_choose_0.2.2.2.2.2.2.1
theorem dX7_choose_11 : decode cX7_choose 11 = .ok (.iconst (-1), 1) := sdX7_choose_0.2.2.2.2.2.2.2.1
theorem sdX7_choose_12 : dz_Seg cX7_choose [(12, .if_icmp .ne 15, 3), (15, .iload 4, 2), (17, .iconst (-1), 1), (18, .if_icmp .eq 9, 3), (21, .aload_n 0, 1), (22, .iconst 1, 1), (23, .invokevirtual 102, 3), (26, .ireturn, 1)] := dz_sg _ 12 (by decide +kernel)
theorem dX7_choose_12 : decode cX7_choose 12 = .ok (.if_icmp .ne 15, 3) := sdX7_choose_12.1
theorem dX7_choose_15 : decode cX7_choose 15 = .ok (.iload 4, 2) := sdX7_choose_12.2.1
theorem dX7_choose_17 : decode cX7_choose 17 = .ok (.iconst (-1), 1) := sdX7_choose_12.2.2.1
theorem dX7_choose_18 : decode cX7_choose 18 = .ok (.if_icmp .eq 9, 3) := sdX7_choose_12.2.2.2.1
theorem dX7_choose_21 : decode cX7_choose 21 = .ok (.aload_n 0, 1) := sdX7_choose_12.2.2.2.2.1
theorem dX7_choose_22 : decode cX7_choose 22 = .ok (.iconst 1, 1) := sdX7_choose_12.2.2.2.2.2.1
theorem dX7_choose_23 : decode cX7_choose 23 = .ok (.invokevirtual 102, 3) := sdX7_choose_12.2.2.2.2.2.2.1
theorem dX7_choose_26 : decode cX7_choose 26 = .ok (.ireturn, 1) := sdX7_choose_12.2.2.2.2.2.2.2.1
theorem sdX7_choose_27 : dz_Seg cX7_choose [(27, .iload_n 2, 1), (28, .iconst (-1), 1), (29, .if_icmp .eq 14, 3), (32, .iload_n 2, 1), (33, .iload_n 3, 1), (34, .if_icmp .eq 20, 3), (37, .iload_n 2, 1), (38, .iload 4, 2)] := dz_sg _ 27 (by decide +kernel)
theorem dX7_choose_27 : decode cX7_choose 27 = .ok (.iload_n 2, 1) := sdX7_choose_27.1
theorem dX7_choose_28 : decode cX7_choose 28 = .ok (.iconst (-1), 1) := sdX7_choose_27.2.1
theorem dX7_choose_29 : decode cX7_choose 29 = .ok (.if_icmp .eq 14, 3) := sdX7_choose_27.2.2.1
theorem dX7_choose_32 : decode cX7_choose 32 = .ok (.iload_n 2, 1) := sdX7_choose_27.2.2.2.1
theorem dX7_choose_33 : decode cX7_choose 33 = .ok (.iload_n 3, 1) := sdX7_choose_27.2.2.2.2.1
theorem dX7_choose_34 : decode cX7_choose 34 = .ok (.if_icmp .eq 20, 3) := sdX7_choose_27.2.2.2.2.2.1
theorem dX7_choose_37 : decode cX7_choose 37 = .ok (.iload_n 2, 1) := sdX7_choose_27.2.2.2.2.2.2.1
theorem dX7_choose_38 : decode cX7_choose 38 = .ok (.iload 4, 2) := sdX7_choose_27.2.2.2.2.2.2.2.1
theorem sdX7_choose_40 : dz_Seg cX7_choose [(40, .if_icmp .eq 14, 3), (43, .iload_n 3, 1), (44, .iconst (-1), 1), (45, .if_icmp .eq 15, 3), (48, .iload_n 3, 1), (49, .iload 4, 2), (51, .if_icmp .ne 9, 3), (54, .aload_n 0, 1)] := dz_sg _ 40 (by decide +kernel)
theorem dX7_choose_40 : decode cX7_choose 40 = .ok (.if_icmp .eq 14, 3) := sdX7_choose_40.1
theorem dX7_choose_43 : decode cX7_choose 43 = .ok (.iload_n 3, 1) := sdX7_choose_40.2.1
theorem dX7_choose_44 : decode cX7_choose 44 = .ok (.iconst (-1), 1) := sdX7_choose_40.2.2.1
theorem dX7_choose_45 : decode cX7_choose 45 = .ok (.if_icmp .eq 15, 3) := sdX7_choose_40.2.2.2.1
theorem dX7_choose_48 : decode cX7_choose 48 = .ok (.iload_n 3, 1) := sdX7_choose_40.2.2.2.2.1
theorem dX7_choose_49 : decode cX7_choose 49 = .ok (.iload 4, 2) := sdX7_choose_40.2.2.2.2.2.1
theorem dX7_choose_51 : decode cX7_choose 51 = .ok (.if_icmp .ne 9, 3) := sdX7_choose_40.2.2.2.2.2.2.1
theorem dX7_choose_54 : decode cX7_choose 54 = .ok (.aload_n 0, 1) := sdX7_choose_40.2.2.2.2.2.2.2.1
theorem sdX7_choose_55 : dz_Seg cX7_choose [(55, .iconst 1, 1), (56, .invokevirtual 102, 3), (59, .ireturn, 1), (60, .aload_n 0, 1), (61, .iload_n 1, 1), (62, .invokevirtual 206, 3), (65, .ifCond .eq 28, 3), (68, .aload_n 0, 1)] := dz_sg _ 55 (by decide +kernel)
theorem dX7_choose_55 : decode cX7_choose 55 = .ok (.iconst 1, 1) := sdX7_choose_55.1
theorem dX7_choose_56 : decode cX7_choose 56 = .ok (.invokevirtual 102, 3) := sdX7_choose_55.2.1
theorem dX7_choose_59 : decode cX7_choose 59 = .ok (.ireturn, 1) := sdX7_choose_55.2.2.1
theorem dX7_choose_60 : decode cX7_choose 60 = .ok (.aload_n 0, 1) := sdX7_choose_55.2.2.2.1
theorem dX7_choose_61 : decode cX7_choose 61 = .ok (.iload_n 1, 1) := sdX7_choose_55.2.2.2.2.1
theorem dX7_choose_62 : decode cX7_choose 62 = .ok (.invokevirtual 206, 3) := sdX7_choose_55.2.2.2.2.2.1
theorem dX7_choose_65 : decode cX7_choose 65 = .ok (.ifCond .eq 28, 3) := sdX7_choose_55.2.2.2.2.2.2.1
theorem dX7_choose_68 : decode cX7_choose 68 = .ok (.aload_n 0, 1) := sdX7_choose_55.2.2.2.2.2.2.2.1
theorem sdX7_choose_69 : dz_Seg cX7_choose [(69, .iload_n 2, 1), (70, .invokevirtual 406, 3), (73, .ifCond .eq 20, 3), (76, .aload_n 0, 1), (77, .iload_n 3, 1), (78, .invokevirtual 406, 3), (81, .ifCond .eq 12, 3), (84, .aload_n 0, 1)] := dz_sg _ 69 (by decide +kernel)
theorem dX7_choose_69 : decode cX7_choose 69 = .ok (.iload_n 2, 1) := sdX7_choose_69.1
theorem dX7_choose_70 : decode cX7_choose 70 = .ok (.invokevirtual 406, 3) := sdX7_choose_69.2.1
theorem dX7_choose_73 : decode cX7_choose 73 = .ok (.ifCond .eq 20, 3) := sdX7_choose_69.2.2.1
theorem dX7_choose_76 : decode cX7_choose 76 = .ok (.aload_n 0, 1) := sdX7_choose_69.2.2.2.1
theorem dX7_choose_77 : decode cX7_choose 77 = .ok (.iload_n 3, 1) := sdX7_choose_69.2.2.2.2.1
theorem dX7_choose_78 : decode cX7_choose 78 = .ok (.invokevirtual 406, 3) := sdX7_choose_69.2.2.2.2.2.1
theorem dX7_choose_81 : decode cX7_choose 81 = .ok (.ifCond .eq 12, 3) := sdX7_choose_69.2.2.2.2.2.2.1
theorem dX7_choose_84 : decode cX7_choose 84 = .ok (.aload_n 0, 1) := sdX7_choose_69.2.2.2.2.2.2.2.1
theorem sdX7_choose_85 : dz_Seg cX7_choose [(85, .iload 4, 2), (87, .invokevirtual 406, 3), (90, .ifCond .ne 9, 3), (93, .aload_n 0, 1), (94, .iconst 2, 1), (95, .invokevirtual 102, 3), (98, .ireturn, 1), (99, .aload_n 0, 1)] := dz_sg _ 85 (by decide +kernel)
theorem dX7_choose_85 : decode cX7_choose 85 = .ok (.iload 4, 2) := sdX7_choose_85.1
theorem dX7_choose_87 : decode cX7_choose 87 = .ok (.invokevirtual 406, 3) := sdX7_choose_85.2.1
theorem dX7_choose_90 : decode cX7_choose 90 = .ok (.ifCond .ne 9, 3) := sdX7_choose_85.2.2.1
theorem dX7_choose_93 : decode cX7_choose 93 = .ok (.aload_n 0, 1) := sdX7_choose_85.2.2.2.1
theorem dX7_choose_94 : decode cX7_choose 94 = .ok (.iconst 2, 1) := sdX7_choose_85.2.2.2.2.1
theorem dX7_choose_95 : decode cX7_choose 95 = .ok (.invokevirtual 102, 3) := sdX7_choose_85.2.2.2.2.2.1
theorem dX7_choose_98 : decode cX7_choose 98 = .ok (.ireturn, 1) := sdX7_choose_85.2.2.2.2.2.2.1
theorem dX7_choose_99 : decode cX7_choose 99 = .ok (.aload_n 0, 1) := sdX7_choose_85.2.2.2.2.2.2.2.1
theorem sdX7_choose_100 : dz_Seg cX7_choose [(100, .getfield 40, 3), (103, .iload_n 1, 1), (104, .iconst 0, 1), (105, .invokevirtual 226, 3), (108, .iload_n 2, 1), (109, .if_icmp .ne 36, 3), (112, .aload_n 0, 1), (113, .getfield 40, 3)] := dz_sg _ 100 (by decide +kernel)
theorem dX7_choose_100 : decode cX7_choose 100 = .ok (.getfield 40, 3) := sdX7_choose_100.1
theorem dX7_choose_103 : decode cX7_choose 103 = .ok (.iload_n 1, 1) := sdX7_choose_100.2.1
theorem dX7_choose_104 : decode cX7_choose 104 = .ok (.iconst 0, 1) := sdX7_choose_100.2.2.1
theorem dX7_choose_105 : decode cX7_choose 105 = .ok (.invokevirtual 226, 3) := sdX7_choose_100.2.2.2.1
theorem dX7_choose_108 : decode cX7_choose 108 = .ok (.iload_n 2, 1) := sdX7_choose_100.2.2.2.2.1
theorem dX7_choose_109 : decode cX7_choose 109 = .ok (.if_icmp .ne 36, 3) := sdX7_choose_100.2.2.2.2.2.1
theorem dX7_choose_112 : decode cX7_choose 112 = .ok (.aload_n 0, 1) := sdX7_choose_100.2.2.2.2.2.2.1
theorem dX7_choose_113 : decode cX7_choose 113 = .ok (.getfield 40, 3) := sdX7_choose_100.2.2.2.2.2.2.2.1
theorem sdX7_choose_116 : dz_Seg cX7_choose [(116, .iload_n 1, 1), (117, .iconst 1, 1), (118, .invokevirtual 226, 3), (121, .iload_n 3, 1), (122, .if_icmp .ne 23, 3), (125, .aload_n 0, 1), (126, .getfield 40, 3), (129, .iload_n 1, 1)] := dz_sg _ 116 (by decide +kernel)
theorem dX7_choose_116 : decode cX7_choose 116 = .ok (.iload_n 1, 1) := sdX7_choose_116.1
theorem dX7_choose_117 : decode cX7_choose 117 = .ok (.iconst 1, 1) := sdX7_choose_116.2.1
theorem dX7_choose_118 : decode cX7_choose 118 = .ok (.invokevirtual 226, 3) := sdX7_choose_116.2.2.1
theorem dX7_choose_121 : decode cX7_choose 121 = .ok (.iload_n 3, 1) := sdX7_choose_116.2.2.2.1
theorem dX7_choose_122 : decode cX7_choose 122 = .ok (.if_icmp .ne 23, 3) := sdX7_choose_116.2.2.2.2.1
theorem dX7_choose_125 : decode cX7_choose 125 = .ok (.aload_n 0, 1) := sdX7_choose_116.2.2.2.2.2.1
theorem dX7_choose_126 : decode cX7_choose 126 = .ok (.getfield 40, 3) := sdX7_choose_116.2.2.2.2.2.2.1
theorem dX7_choose_129 : decode cX7_choose 129 = .ok (.iload_n 1, 1) := sdX7_choose_116.2.2.2.2.2.2.2.1
theorem sdX7_choose_130 : dz_Seg cX7_choose [(130, .iconst 2, 1), (131, .invokevirtual 226, 3), (134, .iload 4, 2), (136, .if_icmp .ne 9, 3), (139, .aload_n 0, 1), (140, .iconst 4, 1), (141, .invokevirtual 102, 3), (144, .ireturn, 1)] := dz_sg _ 130 (by decide +kernel)
theorem dX7_choose_130 : decode cX7_choose 130 = .ok (.iconst 2, 1) := sdX7_choose_130.1
theorem dX7_choose_131 : decode cX7_choose 131 = .ok (.invokevirtual 226, 3) := sdX7_choose_130.2.1
theorem dX7_choose_134 : decode cX7_choose 134 = .ok (.iload 4, 2) := sdX7_choose_130.2.2.1
theorem dX7_choose_136 : decode cX7_choose 136 = .ok (.if_icmp .ne 9, 3) := sdX7_choose_130.2.2.2.1
theorem dX7_choose_139 : decode cX7_choose 139 = .ok (.aload_n 0, 1) := sdX7_choose_130.2.2.2.2.1
theorem dX7_choose_140 : decode cX7_choose 140 = .ok (.iconst 4, 1) := sdX7_choose_130.2.2.2.2.2.1
theorem dX7_choose_141 : decode cX7_choose 141 = .ok (.invokevirtual 102, 3) := sdX7_choose_130.2.2.2.2.2.2.1
theorem dX7_choose_144 : decode cX7_choose 144 = .ok (.ireturn, 1) := sdX7_choose_130.2.2.2.2.2.2.2.1
theorem sdX7_choose_145 : dz_Seg cX7_choose [(145, .aload_n 0, 1), (146, .getfield 40, 3), (149, .getfield 219, 3), (152, .iload_n 1, 1), (153, .invokestatic 175, 3), (156, .istore 5, 2), (158, .aload_n 0, 1), (159, .getfield 33, 3)] := dz_sg _ 145 (by decide +kernel)
theorem dX7_choose_145 : decode cX7_choose 145 = .ok (.aload_n 0, 1) := sdX7_choose_145.1
theorem dX7_choose_146 : decode cX7_choose 146 = .ok (.getfield 40, 3) := sdX7_choose_145.2.1
theorem dX7_choose_149 : decode cX7_choose 149 = .ok (.getfield 219, 3) := sdX7_choose_145.2.2.1
theorem dX7_choose_152 : decode cX7_choose 152 = .ok (.iload_n 1, 1) := sdX7_choose_145.2.2.2.1
theorem dX7_choose_153 : decode cX7_choose 153 = .ok (.invokestatic 175, 3) := sdX7_choose_145.2.2.2.2.1
theorem dX7_choose_156 : decode cX7_choose 156 = .ok (.istore 5, 2) := sdX7_choose_145.2.2.2.2.2.1
theorem dX7_choose_158 : decode cX7_choose 158 = .ok (.aload_n 0, 1) := sdX7_choose_145.2.2.2.2.2.2.1
theorem dX7_choose_159 : decode cX7_choose 159 = .ok (.getfield 33, 3) := sdX7_choose_145.2.2.2.2.2.2.2.1
theorem sdX7_choose_162 : dz_Seg cX7_choose [(162, .aload_n 0, 1), (163, .getfield 26, 3), (166, .invokevirtual 396, 3), (169, .aload_n 0, 1), (170, .getfield 26, 3), (173, .aload_n 0, 1), (174, .getfield 40, 3), (177, .getfield 222, 3)] := dz_sg _ 162 (by decide +kernel)
theorem dX7_choose_162 : decode cX7_choose 162 = .ok (.aload_n 0, 1) := sdX7_choose_162.1
theorem dX7_choose_163 : decode cX7_choose 163 = .ok (.getfield 26, 3) := sdX7_choose_162.2.1
theorem dX7_choose_166 : decode cX7_choose 166 = .ok (.invokevirtual 396, 3) := sdX7_choose_162.2.2.1
theorem dX7_choose_169 : decode cX7_choose 169 = .ok (.aload_n 0, 1) := sdX7_choose_162.2.2.2.1
theorem dX7_choose_170 : decode cX7_choose 170 = .ok (.getfield 26, 3) := sdX7_choose_162.2.2.2.2.1
theorem dX7_choose_173 : decode cX7_choose 173 = .ok (.aload_n 0, 1) := sdX7_choose_162.2.2.2.2.2.1
theorem dX7_choose_174 : decode cX7_choose 174 = .ok (.getfield 40, 3) := sdX7_choose_162.2.2.2.2.2.2.1
theorem dX7_choose_177 : decode cX7_choose 177 = .ok (.getfield 222, 3) := sdX7_choose_162.2.2.2.2.2.2.2.1
theorem sdX7_choose_180 : dz_Seg cX7_choose [(180, .iload_n 1, 1), (181, .invokestatic 175, 3), (184, .iload_n 2, 1), (185, .iload_n 3, 1), (186, .iload 4, 2), (188, .invokevirtual 283, 3), (191, .aload_n 0, 1), (192, .iload 5, 2)] := dz_sg _ 180 (by decide +kernel)
theorem dX7_choose_180 : decode cX7_choose 180 = .ok (.iload_n 1, 1) := sdX7_choose_180.1
theorem dX7_choose_181 : decode cX7_choose 181 = .ok (.invokestatic 175, 3) := sdX7_choose_180.2.1
theorem dX7_choose_184 : decode cX7_choose 184 = .ok (.iload_n 2, 1) := sdX7_choose_180.2.2.1
theorem dX7_choose_185 : decode cX7_choose 185 = .ok (.iload_n 3, 1) := sdX7_choose_180.2.2.2.1
theorem dX7_choose_186 : decode cX7_choose 186 = .ok (.iload 4, 2) := sdX7_choose_180.2.2.2.2.1
theorem dX7_choose_188 : decode cX7_choose 188 = .ok (.invokevirtual 283, 3) := sdX7_choose_180.2.2.2.2.2.1
theorem dX7_choose_191 : decode cX7_choose 191 = .ok (.aload_n 0, 1) := sdX7_choose_180.2.2.2.2.2.2.1
theorem dX7_choose_192 : decode cX7_choose 192 = .ok (.iload 5, 2) := sdX7_choose_180.2.2.2.2.2.2.2.1
theorem sdX7_choose_194 : dz_Seg cX7_choose [(194, .invokevirtual 122, 3), (197, .ireturn, 1)] := dz_sg _ 194 (by decide +kernel)
theorem dX7_choose_194 : decode cX7_choose 194 = .ok (.invokevirtual 122, 3) := sdX7_choose_194.1
theorem dX7_choose_197 : decode cX7_choose 197 = .ok (.ireturn, 1) := sdX7_choose_194.2.1
theorem sdX7_law_0 : dz_Seg cX7_law [(0, .iload_n 1, 1), (1, .ifCond .lt 8, 3), (4, .iload_n 1, 1), (5, .iconst 2, 1), (6, .if_icmp .le 9, 3), (9, .aload_n 0, 1), (10, .iconst 1, 1), (11, .invokevirtual 102, 3)] := dz_sg _ 0 (by decide +kernel)
theorem dX7_law_0 : decode cX7_law 0 = .ok (.iload_n 1, 1) := sdX7_law_0.1
theorem dX7_law_1 : decode cX7_law 1 = .ok (.ifCond .lt 8, 3) := sdX7_law_0.2.1
theorem dX7_law_4 : decode cX7_law 4 = .ok (.iload_n 1, 1) := sdX7_law_0.2.2.1
theorem dX7_law_5 : decode cX7_law 5 = .ok (.iconst 2, 1) := sdX7_law_0.2.2.2.1
theorem dX7_law_6 : decode cX7_law 6 = .ok (.if_icmp .le 9, 3) := sdX7_law_0.2.2.2.2.1
theorem dX7_law_9 : decode cX7_law 9 = .ok (.aload_n 0, 1) := sdX7_law_0.2.2.2.2.2.1
theorem dX7_law_10 : decode cX7_law 10 = .ok (.iconst 1, 1) := sdX7_law_0.2.2.2.2.2.2.1
theorem dX7_law_11 : decode cX7_law 11 = .ok (.invokevirtual 102, 3) := sdX7_law_0.2.2.2.2.2.2.2.1
theorem sdX7_law_14 : dz_Seg cX7_law [(14, .ireturn, 1), (15, .aload_n 0, 1), (16, .getfield 26, 3), (19, .getfield 143, 3), (22, .istore_n 2, 1), (23, .iload_n 2, 1), (24, .iload_n 1, 1), (25, .if_icmp .ne 9, 3)] := dz_sg _ 14 (by decide +kernel)
theorem dX7_law_14 : decode cX7_law 14 = .ok (.ireturn, 1) := sdX7_law_14.1
theorem dX7_law_15 : decode cX7_law 15 = .ok (.aload_n 0, 1) := sdX7_law_14.2.1
theorem dX7_law_16 : decode cX7_law 16 = .ok (.getfield 26, 3) := sdX7_law_14.2.2.1
theorem dX7_law_19 : decode cX7_law 19 = .ok (.getfield 143, 3) := sdX7_law_14.2.2.2.1
theorem dX7_law_22 : decode cX7_law 22 = .ok (.istore_n 2, 1) := sdX7_law_14.2.2.2.2.1
theorem dX7_law_23 : decode cX7_law 23 = .ok (.iload_n 2, 1) := sdX7_law_14.2.2.2.2.2.1
theorem dX7_law_24 : decode cX7_law 24 = .ok (.iload_n 1, 1) := sdX7_law_14.2.2.2.2.2.2.1
theorem dX7_law_25 : decode cX7_law 25 = .ok (.if_icmp .ne 9, 3) := sdX7_law_14.2.2.2.2.2.2.2.1
theorem sdX7_law_28 : dz_Seg cX7_law [(28, .aload_n 0, 1), (29, .iconst 4, 1), (30, .invokevirtual 102, 3), (33, .ireturn, 1), (34, .aload_n 0, 1), (35, .getfield 33, 3), (38, .aload_n 0, 1), (39, .getfield 26, 3)] := dz_sg _ 28 (by decide +kernel)
theorem dX7_law_28 : decode cX7_law 28 = .ok (.aload_n 0, 1) := sdX7_law_28.1
theorem dX7_law_29 : decode cX7_law 29 = .ok (.iconst 4, 1) := sdX7_law_28.2.1
theorem dX7_law_30 : decode cX7_law 30 = .ok (.invokevirtual 102, 3) := sdX7_law_28.2.2.1
theorem dX7_law_33 : decode cX7_law 33 = .ok (.ireturn, 1) := sdX7_law_28.2.2.2.1
theorem dX7_law_34 : decode cX7_law 34 = .ok (.aload_n 0, 1) := sdX7_law_28.2.2.2.2.1
theorem dX7_law_35 : decode cX7_law 35 = .ok (.getfield 33, 3) := sdX7_law_28.2.2.2.2.2.1
theorem dX7_law_38 : decode cX7_law 38 = .ok (.aload_n 0, 1) := sdX7_law_28.2.2.2.2.2.2.1
theorem dX7_law_39 : decode cX7_law 39 = .ok (.getfield 26, 3) := sdX7_law_28.2.2.2.2.2.2.2.1
theorem sdX7_law_42 : dz_Seg cX7_law [(42, .invokevirtual 396, 3), (45, .aload_n 0, 1), (46, .getfield 26, 3), (49, .iload_n 1, 1), (50, .putfield 143, 3), (53, .aload_n 0, 1), (54, .iload_n 2, 1), (55, .invokevirtual 122, 3)] := dz_sg _ 42 (by decide +kernel)
theorem dX7_law_42 : decode cX7_law 42 = .ok (.invokevirtual 396, 3) := sdX7_law_42.1
theorem dX7_law_45 : decode cX7_law 45 = .ok (.aload_n 0, 1) := sdX7_law_42.2.1
theorem dX7_law_46 : decode cX7_law 46 = .ok (.getfield 26, 3) := sdX7_law_42.2.2.1
theorem dX7_law_49 : decode cX7_law 49 = .ok (.iload_n 1, 1) := sdX7_law_42.2.2.2.1
theorem dX7_law_50 : decode cX7_law 50 = .ok (.putfield 143, 3) := sdX7_law_42.2.2.2.2.1
theorem dX7_law_53 : decode cX7_law 53 = .ok (.aload_n 0, 1) := sdX7_law_42.2.2.2.2.2.1
theorem dX7_law_54 : decode cX7_law 54 = .ok (.iload_n 2, 1) := sdX7_law_42.2.2.2.2.2.2.1
theorem dX7_law_55 : decode cX7_law 55 = .ok (.invokevirtual 122, 3) := sdX7_law_42.2.2.2.2.2.2.2.1
theorem sdX7_law_58 : dz_Seg cX7_law [(58, .ireturn, 1)] := dz_sg _ 58 (by decide +kernel)
theorem dX7_law_58 : decode cX7_law 58 = .ok (.ireturn, 1) := sdX7_law_58.1
theorem sdX7_prefer_0 : dz_Seg cX7_prefer [(0, .iload_n 1, 1), (1, .ifCond .lt 9, 3), (4, .iload_n 1, 1), (5, .bipush 100, 2), (7, .if_icmp .le 9, 3), (10, .aload_n 0, 1), (11, .iconst 1, 1), (12, .invokevirtual 102, 3)] := dz_sg _ 0 (by decide +kernel)
theorem dX7_prefer_0 : decode cX7_prefer 0 = .ok (.iload_n 1, 1) := sdX7_prefer_0.1
theorem dX7_prefer_1 : decode cX7_prefer 1 = .ok (.ifCond .lt 9, 3) := sdX7_prefer_0.2.1
theorem dX7_prefer_4 : decode cX7_prefer 4 = .ok (.iload_n 1, 1) := sdX7_prefer_0.2.2.1
theorem dX7_prefer_5 : decode cX7_prefer 5 = .ok (.bipush 100, 2) := sdX7_prefer_0.2.2.2.1
theorem dX7_prefer_7 : decode cX7_prefer 7 = .ok (.if_icmp .le 9, 3) := sdX7_prefer_0.2.2.2.2.1
theorem dX7_prefer_10 : decode cX7_prefer 10 = .ok (.aload_n 0, 1) := sdX7_prefer_0.2.2.2.2.2.1
theorem dX7_prefer_11 : decode cX7_prefer 11 = .ok (.iconst 1, 1) := sdX7_prefer_0.2.2.2.2.2.2.1
theorem dX7_prefer_12 : decode cX7_prefer 12 = .ok (.invokevirtual 102, 3) := sdX7_prefer_0.2.2.2.2.2.2.2.1
theorem sdX7_prefer_15 : dz_Seg cX7_prefer [(15, .ireturn, 1), (16, .aload_n 0, 1), (17, .getfield 26, 3), (20, .getfield 146, 3), (23, .istore_n 2, 1), (24, .iload_n 2, 1), (25, .iload_n 1, 1), (26, .if_icmp .ne 9, 3)] := dz_sg _ 15 (by decide +kernel)
theorem dX7_prefer_15 : decode cX7_prefer 15 = .ok (.ireturn, 1) := sdX7_prefer_15.1
theorem dX7_prefer_16 : decode cX7_prefer 16 = .ok (.aload_n 0, 1) := sdX7_prefer_15.2.1
theorem dX7_prefer_17 : decode cX7_prefer 17 = .ok (.getfield 26, 3) := sdX7_prefer_15.2.2.1
theorem dX7_prefer_20 : decode cX7_prefer 20 = .ok (.getfield 146, 3) := sdX7_prefer_15.2.2.2.1
theorem dX7_prefer_23 : decode cX7_prefer 23 = .ok (.istore_n 2, 1) := sdX7_prefer_15.2.2.2.2.1
theorem dX7_prefer_24 : decode cX7_prefer 24 = .ok (.iload_n 2, 1) := sdX7_prefer_15.2.2.2.2.2.1
theorem dX7_prefer_25 : decode cX7_prefer 25 = .ok (.iload_n 1, 1) := sdX7_prefer_15.2.2.2.2.2.2.1
theorem dX7_prefer_26 : decode cX7_prefer 26 = .ok (.if_icmp .ne 9, 3) := sdX7_prefer_15.2.2.2.2.2.2.2.1
theorem sdX7_prefer_29 : dz_Seg cX7_prefer [(29, .aload_n 0, 1), (30, .iconst 4, 1), (31, .invokevirtual 102, 3), (34, .ireturn, 1), (35, .aload_n 0, 1), (36, .getfield 33, 3), (39, .aload_n 0, 1), (40, .getfield 26, 3)] := dz_sg _ 29 (by decide +kernel)
theorem dX7_prefer_29 : decode cX7_prefer 29 = .ok (.aload_n 0, 1) := sdX7_prefer_29.1
theorem dX7_prefer_30 : decode cX7_prefer 30 = .ok (.iconst 4, 1) := sdX7_prefer_29.2.1
theorem dX7_prefer_31 : decode cX7_prefer 31 = .ok (.invokevirtual 102, 3) := sdX7_prefer_29.2.2.1
theorem dX7_prefer_34 : decode cX7_prefer 34 = .ok (.ireturn, 1) := sdX7_prefer_29.2.2.2.1
theorem dX7_prefer_35 : decode cX7_prefer 35 = .ok (.aload_n 0, 1) := sdX7_prefer_29.2.2.2.2.1
theorem dX7_prefer_36 : decode cX7_prefer 36 = .ok (.getfield 33, 3) := sdX7_prefer_29.2.2.2.2.2.1
theorem dX7_prefer_39 : decode cX7_prefer 39 = .ok (.aload_n 0, 1) := sdX7_prefer_29.2.2.2.2.2.2.1
theorem dX7_prefer_40 : decode cX7_prefer 40 = .ok (.getfield 26, 3) := sdX7_prefer_29.2.2.2.2.2.2.2.1
theorem sdX7_prefer_43 : dz_Seg cX7_prefer [(43, .invokevirtual 396, 3), (46, .aload_n 0, 1), (47, .getfield 26, 3), (50, .iload_n 1, 1), (51, .putfield 146, 3), (54, .aload_n 0, 1), (55, .iload_n 2, 1), (56, .invokevirtual 122, 3)] := dz_sg _ 43 (by decide +kernel)
theorem dX7_prefer_43 : decode cX7_prefer 43 = .ok (.invokevirtual 396, 3) := sdX7_prefer_43.1
theorem dX7_prefer_46 : decode cX7_prefer 46 = .ok (.aload_n 0, 1) := sdX7_prefer_43.2.1
theorem dX7_prefer_47 : decode cX7_prefer 47 = .ok (.getfield 26, 3) := sdX7_prefer_43.2.2.1
theorem dX7_prefer_50 : decode cX7_prefer 50 = .ok (.iload_n 1, 1) := sdX7_prefer_43.2.2.2.1
theorem dX7_prefer_51 : decode cX7_prefer 51 = .ok (.putfield 146, 3) := sdX7_prefer_43.2.2.2.2.1
theorem dX7_prefer_54 : decode cX7_prefer 54 = .ok (.aload_n 0, 1) := sdX7_prefer_43.2.2.2.2.2.1
theorem dX7_prefer_55 : decode cX7_prefer 55 = .ok (.iload_n 2, 1) := sdX7_prefer_43.2.2.2.2.2.2.1
theorem dX7_prefer_56 : decode cX7_prefer 56 = .ok (.invokevirtual 122, 3) := sdX7_prefer_43.2.2.2.2.2.2.2.1
theorem sdX7_prefer_59 : dz_Seg cX7_prefer [(59, .ireturn, 1)] := dz_sg _ 59 (by decide +kernel)
theorem dX7_prefer_59 : decode cX7_prefer 59 = .ok (.ireturn, 1) := sdX7_prefer_59.1
theorem sdX7_guests_0 : dz_Seg cX7_guests [(0, .iload_n 1, 1), (1, .ifCond .lt 9, 3), (4, .iload_n 1, 1), (5, .bipush 100, 2), (7, .if_icmp .le 9, 3), (10, .aload_n 0, 1), (11, .iconst 1, 1), (12, .invokevirtual 102, 3)] := dz_sg _ 0 (by decide +kernel)
theorem dX7_guests_0 : decode cX7_guests 0 = .ok (.iload_n 1, 1) := sdX7_guests_0.1
theorem dX7_guests_1 : decode cX7_guests 1 = .ok (.ifCond .lt 9, 3) := sdX7_guests_0.2.1
theorem dX7_guests_4 : decode cX7_guests 4 = .ok (.iload_n 1, 1) := sdX7_guests_0.2.2.1
theorem dX7_guests_5 : decode cX7_guests 5 = .ok (.bipush 100, 2) := sdX7_guests_0.2.2.2.1
theorem dX7_guests_7 : decode cX7_guests 7 = .ok (.if_icmp .le 9, 3) := sdX7_guests_0.2.2.2.2.1
theorem dX7_guests_10 : decode cX7_guests 10 = .ok (.aload_n 0, 1) := sdX7_guests_0.2.2.2.2.2.1
theorem dX7_guests_11 : decode cX7_guests 11 = .ok (.iconst 1, 1) := sdX7_guests_0.2.2.2.2.2.2.1
theorem dX7_guests_12 : decode cX7_guests 12 = .ok (.invokevirtual 102, 3) := sdX7_guests_0.2.2.2.2.2.2.2.1
theorem sdX7_guests_15 : dz_Seg cX7_guests [(15, .ireturn, 1), (16, .aload_n 0, 1), (17, .getfield 26, 3), (20, .getfield 149, 3), (23, .istore_n 2, 1), (24, .iload_n 2, 1), (25, .iload_n 1, 1), (26, .if_icmp .ne 9, 3)] := dz_sg _ 15 (by decide +kernel)
theorem dX7_guests_15 : decode cX7_guests 15 = .ok (.ireturn, 1) := sdX7_guests_15.1
theorem dX7_guests_16 : decode cX7_guests 16 = .ok (.aload_n 0, 1) := sdX7_guests_15.2.1
theorem dX7_guests_17 : decode cX7_guests 17 = .ok (.getfield 26, 3) := sdX7_guests_15.2.2.1
theorem dX7_guests_20 : decode cX7_guests 20 = .ok (.getfield 149, 3) := sdX7_guests_15.2.2.2.1
theorem dX7_guests_23 : decode cX7_guests 23 = .ok (.istore_n 2, 1) := sdX7_guests_15.2.2.2.2.1
theorem dX7_guests_24 : decode cX7_guests 24 = .ok (.iload_n 2, 1) := sdX7_guests_15.2.2.2.2.2.1
theorem dX7_guests_25 : decode cX7_guests 25 = .ok (.iload_n 1, 1) := sdX7_guests_15.2.2.2.2.2.2.1
theorem dX7_guests_26 : decode cX7_guests 26 = .ok (.if_icmp .ne 9, 3) := sdX7_guests_15.2.2.2.2.2.2.2.1
theorem sdX7_guests_29 : dz_Seg cX7_guests [(29, .aload_n 0, 1), (30, .iconst 4, 1), (31, .invokevirtual 102, 3), (34, .ireturn, 1), (35, .aload_n 0, 1), (36, .getfield 33, 3), (39, .aload_n 0, 1), (40, .getfield 26, 3)] := dz_sg _ 29 (by decide +kernel)
theorem dX7_guests_29 : decode cX7_guests 29 = .ok (.aload_n 0, 1) := sdX7_guests_29.1
theorem dX7_guests_30 : decode cX7_guests 30 = .ok (.iconst 4, 1) := sdX7_guests_29.2.1
theorem dX7_guests_31 : decode cX7_guests 31 = .ok (.invokevirtual 102, 3) := sdX7_guests_29.2.2.1
theorem dX7_guests_34 : decode cX7_guests 34 = .ok (.ireturn, 1) := sdX7_guests_29.2.2.2.1
theorem dX7_guests_35 : decode cX7_guests 35 = .ok (.aload_n 0, 1) := sdX7_guests_29.2.2.2.2.1
theorem dX7_guests_36 : decode cX7_guests 36 = .ok (.getfield 33, 3) := sdX7_guests_29.2.2.2.2.2.1
theorem dX7_guests_39 : decode cX7_guests 39 = .ok (.aload_n 0, 1) := sdX7_guests_29.2.2.2.2.2.2.1
theorem dX7_guests_40 : decode cX7_guests 40 = .ok (.getfield 26, 3) := sdX7_guests_29.2.2.2.2.2.2.2.1
theorem sdX7_guests_43 : dz_Seg cX7_guests [(43, .invokevirtual 396, 3), (46, .aload_n 0, 1), (47, .getfield 26, 3), (50, .iload_n 1, 1), (51, .putfield 149, 3), (54, .aload_n 0, 1), (55, .iload_n 2, 1), (56, .invokevirtual 122, 3)] := dz_sg _ 43 (by decide +kernel)
theorem dX7_guests_43 : decode cX7_guests 43 = .ok (.invokevirtual 396, 3) := sdX7_guests_43.1
theorem dX7_guests_46 : decode cX7_guests 46 = .ok (.aload_n 0, 1) := sdX7_guests_43.2.1
theorem dX7_guests_47 : decode cX7_guests 47 = .ok (.getfield 26, 3) := sdX7_guests_43.2.2.1
theorem dX7_guests_50 : decode cX7_guests 50 = .ok (.iload_n 1, 1) := sdX7_guests_43.2.2.2.1
theorem dX7_guests_51 : decode cX7_guests 51 = .ok (.putfield 149, 3) := sdX7_guests_43.2.2.2.2.1
theorem dX7_guests_54 : decode cX7_guests 54 = .ok (.aload_n 0, 1) := sdX7_guests_43.2.2.2.2.2.1
theorem dX7_guests_55 : decode cX7_guests 55 = .ok (.iload_n 2, 1) := sdX7_guests_43.2.2.2.2.2.2.1
theorem dX7_guests_56 : decode cX7_guests 56 = .ok (.invokevirtual 122, 3) := sdX7_guests_43.2.2.2.2.2.2.2.1
theorem sdX7_guests_59 : dz_Seg cX7_guests [(59, .ireturn, 1)] := dz_sg _ 59 (by decide +kernel)
theorem dX7_guests_59 : decode cX7_guests 59 = .ok (.ireturn, 1) := sdX7_guests_59.1
theorem sdX7_split_0 : dz_Seg cX7_split [(0, .aload_n 0, 1), (1, .iload_n 1, 1), (2, .invokevirtual 362, 3), (5, .ifCond .ne 9, 3), (8, .aload_n 0, 1), (9, .iconst 2, 1), (10, .invokevirtual 102, 3), (13, .ireturn, 1)] := dz_sg _ 0 (by decide +kernel)
theorem dX7_split_0 : decode cX7_split 0 = .ok (.aload_n 0, 1) := sdX7_split_0.1
theorem dX7_split_1 : decode cX7_split 1 = .ok (.iload_n 1, 1) := sdX7_split_0.2.1
theorem dX7_split_2 : decode cX7_split 2 = .ok (.invokevirtual 362, 3) := sdX7_split_0.2.2.1
theorem dX7_split_5 : decode cX7_split 5 = .ok (.ifCond .ne 9, 3) := sdX7_split_0.2.2.2.1
theorem dX7_split_8 : decode cX7_split 8 = .ok (.aload_n 0, 1) := sdX7_split_0.2.2.2.2.1
theorem dX7_split_9 : decode cX7_split 9 = .ok (.iconst 2, 1) := sdX7_split_0.2.2.2.2.2.1
theorem dX7_split_10 : decode cX7_split 10 = .ok (.invokevirtual 102, 3) := sdX7_split_0.2.2.2.2.2.2.1
theorem dX7_split_13 : decode cX7_split 13 = .ok (.ireturn, 1) := sdX7_split_0.2.2.2.2.2.2.2.1
theorem sdX7_split_14 : dz_Seg cX7_split [(14, .aload_n 0, 1), (15, .getfield 33, 3), (18, .aload_n 0, 1), (19, .getfield 26, 3), (22, .invokevirtual 396, 3), (25, .aload_n 0, 1), (26, .getfield 26, 3), (29, .iload_n 1, 1)] := dz_sg _ 14 (by decide +kernel)
theorem dX7_split_14 : decode cX7_split 14 = .ok (.aload_n 0, 1) := sdX7_split_14.1
theorem dX7_split_15 : decode cX7_split 15 = .ok (.getfield 33, 3) := sdX7_split_14.2.1
theorem dX7_split_18 : decode cX7_split 18 = .ok (.aload_n 0, 1) := sdX7_split_14.2.2.1
theorem dX7_split_19 : decode cX7_split 19 = .ok (.getfield 26, 3) := sdX7_split_14.2.2.2.1
theorem dX7_split_22 : decode cX7_split 22 = .ok (.invokevirtual 396, 3) := sdX7_split_14.2.2.2.2.1
theorem dX7_split_25 : decode cX7_split 25 = .ok (.aload_n 0, 1) := sdX7_split_14.2.2.2.2.2.1
theorem dX7_split_26 : decode cX7_split 26 = .ok (.getfield 26, 3) := sdX7_split_14.2.2.2.2.2.2.1
theorem dX7_split_29 : decode cX7_split 29 = .ok (.iload_n 1, 1) := sdX7_split_14.2.2.2.2.2.2.2.1
theorem sdX7_split_30 : dz_Seg cX7_split [(30, .invokevirtual 365, 3), (33, .aload_n 0, 1), (34, .iconst 0, 1), (35, .invokevirtual 122, 3), (38, .pop, 1), (39, .aload_n 0, 1), (40, .aload_n 0, 1), (41, .getfield 40, 3)] := dz_sg _ 30 (by decide +kernel)
theorem dX7_split_30 : decode cX7_split 30 = .ok (.invokevirtual 365, 3) := sdX7_split_30.1
theorem dX7_split_33 : decode cX7_split 33 = .ok (.aload_n 0, 1) := sdX7_split_30.2.1
theorem dX7_split_34 : decode cX7_split 34 = .ok (.iconst 0, 1) := sdX7_split_30.2.2.1
theorem dX7_split_35 : decode cX7_split 35 = .ok (.invokevirtual 122, 3) := sdX7_split_30.2.2.2.1
theorem dX7_split_38 : decode cX7_split 38 = .ok (.pop, 1) := sdX7_split_30.2.2.2.2.1
theorem dX7_split_39 : decode cX7_split 39 = .ok (.aload_n 0, 1) := sdX7_split_30.2.2.2.2.2.1
theorem dX7_split_40 : decode cX7_split 40 = .ok (.aload_n 0, 1) := sdX7_split_30.2.2.2.2.2.2.1
theorem dX7_split_41 : decode cX7_split 41 = .ok (.getfield 40, 3) := sdX7_split_30.2.2.2.2.2.2.2.1
theorem sdX7_split_44 : dz_Seg cX7_split [(44, .getfield 140, 3), (47, .invokevirtual 134, 3), (50, .ireturn, 1)] := dz_sg _ 44 (by decide +kernel)
theorem dX7_split_44 : decode cX7_split 44 = .ok (.getfield 140, 3) := sdX7_split_44.1
theorem dX7_split_47 : decode cX7_split 47 = .ok (.invokevirtual 134, 3) := sdX7_split_44.2.1
theorem dX7_split_50 : decode cX7_split 50 = .ok (.ireturn, 1) := sdX7_split_44.2.2.1
theorem sdX7_undo_0 : dz_Seg cX7_undo [(0, .aload_n 0, 1), (1, .getfield 33, 3), (4, .aload_n 0, 1), (5, .getfield 26, 3), (8, .invokevirtual 409, 3), (11, .ifCond .ne 9, 3), (14, .aload_n 0, 1), (15, .iconst 5, 1)] := dz_sg _ 0 (by decide +kernel)
theorem dX7_undo_0 : decode cX7_undo 0 = .ok (.aload_n 0, 1) := sdX7_undo_0.1
theorem dX7_undo_1 : decode cX7_undo 1 = .ok (.getfield 33, 3) := sdX7_undo_0.2.1
theorem dX7_undo_4 : decode cX7_undo 4 = .ok (.aload_n 0, 1) := sdX7_undo_0.2.2.1
theorem dX7_undo_5 : decode cX7_undo 5 = .ok (.getfield 26, 3) := sdX7_undo_0.2.2.2.1
theorem dX7_undo_8 : decode cX7_undo 8 = .ok (.invokevirtual 409, 3) := sdX7_undo_0.2.2.2.2.1
theorem dX7_undo_11 : decode cX7_undo 11 = .ok (.ifCond .ne 9, 3) := sdX7_undo_0.2.2.2.2.2.1
theorem dX7_undo_14 : decode cX7_undo 14 = .ok (.aload_n 0, 1) := sdX7_undo_0.2.2.2.2.2.2.1
theorem dX7_undo_15 : decode cX7_undo 15 = .ok (.iconst 5, 1) := sdX7_undo_0.2.2.2.2.2.2.2.1
theorem sdX7_undo_16 : dz_Seg cX7_undo [(16, .invokevirtual 102, 3), (19, .ireturn, 1), (20, .aload_n 0, 1), (21, .aload_n 0, 1), (22, .getfield 33, 3), (25, .getfield 155, 3), (28, .invokevirtual 122, 3), (31, .ireturn, 1)] := dz_sg _ 16 (by decide +kernel)
theorem dX7_undo_16 : decode cX7_undo 16 = .ok (.invokevirtual 102, 3) := sdX7_undo_16.1
theorem dX7_undo_19 : decode cX7_undo 19 = .ok (.ireturn, 1) := sdX7_undo_16.2.1
theorem dX7_undo_20 : decode cX7_undo 20 = .ok (.aload_n 0, 1) := sdX7_undo_16.2.2.1
theorem dX7_undo_21 : decode cX7_undo 21 = .ok (.aload_n 0, 1) := sdX7_undo_16.2.2.2.1
theorem dX7_undo_22 : decode cX7_undo 22 = .ok (.getfield 33, 3) := sdX7_undo_16.2.2.2.2.1
theorem dX7_undo_25 : decode cX7_undo 25 = .ok (.getfield 155, 3) := sdX7_undo_16.2.2.2.2.2.1
theorem dX7_undo_28 : decode cX7_undo 28 = .ok (.invokevirtual 122, 3) := sdX7_undo_16.2.2.2.2.2.2.1
theorem dX7_undo_31 : decode cX7_undo 31 = .ok (.ireturn, 1) := sdX7_undo_16.2.2.2.2.2.2.2.1
theorem sdX7_print_0 : dz_Seg cX7_print [(0, .iload_n 1, 1), (1, .invokestatic 237, 3), (4, .ifCond .ne 9, 3), (7, .aload_n 0, 1), (8, .iconst 1, 1), (9, .invokevirtual 102, 3), (12, .ireturn, 1), (13, .aload_n 0, 1)] := dz_sg _ 0 (by decide +kernel)
theorem dX7_print_0 : decode cX7_print 0 = .ok (.iload_n 1, 1) := sdX7_print_0.1
theorem dX7_print_1 : decode cX7_print 1 = .ok (.invokestatic 237, 3) := sdX7_print_0.2.1
theorem dX7_print_4 : decode cX7_print 4 = .ok (.ifCond .ne 9, 3) := sdX7_print_0.2.2.1
theorem dX7_print_7 : decode cX7_print 7 = .ok (.aload_n 0, 1) := sdX7_print_0.2.2.2.1
theorem dX7_print_8 : decode cX7_print 8 = .ok (.iconst 1, 1) := sdX7_print_0.2.2.2.2.1
theorem dX7_print_9 : decode cX7_print 9 = .ok (.invokevirtual 102, 3) := sdX7_print_0.2.2.2.2.2.1
theorem dX7_print_12 : decode cX7_print 12 = .ok (.ireturn, 1) := sdX7_print_0.2.2.2.2.2.2.1
theorem dX7_print_13 : decode cX7_print 13 = .ok (.aload_n 0, 1) := sdX7_print_0.2.2.2.2.2.2.2.1
theorem sdX7_print_14 : dz_Seg cX7_print [(14, .getfield 47, 3), (17, .aload_n 0, 1), (18, .getfield 40, 3), (21, .iload_n 1, 1), (22, .invokevirtual 247, 3), (25, .aload_n 0, 1), (26, .iconst 0, 1), (27, .putfield 84, 3)] := dz_sg _ 14 (by decide +kernel)
theorem dX7_print_14 : decode cX7_print 14 = .ok (.getfield 47, 3) := sdX7_print_14.1
theorem dX7_print_17 : decode cX7_print 17 = .ok (.aload_n 0, 1) := sdX7_print_14.2.1
theorem dX7_print_18 : decode cX7_print 18 = .ok (.getfield 40, 3) := sdX7_print_14.2.2.1
theorem dX7_print_21 : decode cX7_print 21 = .ok (.iload_n 1, 1) := sdX7_print_14.2.2.2.1
theorem dX7_print_22 : decode cX7_print 22 = .ok (.invokevirtual 247, 3) := sdX7_print_14.2.2.2.2.1
theorem dX7_print_25 : decode cX7_print 25 = .ok (.aload_n 0, 1) := sdX7_print_14.2.2.2.2.2.1
theorem dX7_print_26 : decode cX7_print 26 = .ok (.iconst 0, 1) := sdX7_print_14.2.2.2.2.2.2.1
theorem dX7_print_27 : decode cX7_print 27 = .ok (.putfield 84, 3) := sdX7_print_14.2.2.2.2.2.2.2.1
theorem sdX7_print_30 : dz_Seg cX7_print [(30, .iconst 0, 1), (31, .istore_n 2, 1), (32, .iload_n 2, 1), (33, .aload_n 0, 1), (34, .getfield 40, 3), (37, .getfield 140, 3), (40, .if_icmp .ge 95, 3), (43, .aload_n 0, 1)] := dz_sg _ 30 (by decide +kernel)
theorem dX7_print_30 : decode cX7_print 30 = .ok (.iconst 0, 1) := sdX7_print_30.1
theorem dX7_print_31 : decode cX7_print 31 = .ok (.istore_n 2, 1) := sdX7_print_30.2.1
theorem dX7_print_32 : decode cX7_print 32 = .ok (.iload_n 2, 1) := sdX7_print_30.2.2.1
theorem dX7_print_33 : decode cX7_print 33 = .ok (.aload_n 0, 1) := sdX7_print_30.2.2.2.1
theorem dX7_print_34 : decode cX7_print 34 = .ok (.getfield 40, 3) := sdX7_print_30.2.2.2.2.1
theorem dX7_print_37 : decode cX7_print 37 = .ok (.getfield 140, 3) := sdX7_print_30.2.2.2.2.2.1
theorem dX7_print_40 : decode cX7_print 40 = .ok (.if_icmp .ge 95, 3) := sdX7_print_30.2.2.2.2.2.2.1
theorem dX7_print_43 : decode cX7_print 43 = .ok (.aload_n 0, 1) := sdX7_print_30.2.2.2.2.2.2.2.1
theorem sdX7_print_44 : dz_Seg cX7_print [(44, .getfield 47, 3), (47, .getfield 244, 3), (50, .iload_n 2, 1), (51, .invokestatic 175, 3), (54, .istore_n 3, 1), (55, .aload_n 0, 1), (56, .getfield 47, 3), (59, .getfield 250, 3)] := dz_sg _ 44 (by decide +kernel)
theorem dX7_print_44 : decode cX7_print 44 = .ok (.getfield 47, 3) := sdX7_print_44.1
theorem dX7_print_47 : decode cX7_print 47 = .ok (.getfield 244, 3) := sdX7_print_44.2.1
theorem dX7_print_50 : decode cX7_print 50 = .ok (.iload_n 2, 1) := sdX7_print_44.2.2.1
theorem dX7_print_51 : decode cX7_print 51 = .ok (.invokestatic 175, 3) := sdX7_print_44.2.2.2.1
theorem dX7_print_54 : decode cX7_print 54 = .ok (.istore_n 3, 1) := sdX7_print_44.2.2.2.2.1
theorem dX7_print_55 : decode cX7_print 55 = .ok (.aload_n 0, 1) := sdX7_print_44.2.2.2.2.2.1
theorem dX7_print_56 : decode cX7_print 56 = .ok (.getfield 47, 3) := sdX7_print_44.2.2.2.2.2.2.1
theorem dX7_print_59 : decode cX7_print 59 = .ok (.getfield 250, 3) := sdX7_print_44.2.2.2.2.2.2.2.1
theorem sdX7_print_62 : dz_Seg cX7_print [(62, .iload_n 3, 1), (63, .invokestatic 175, 3), (66, .istore 4, 2), (68, .aload_n 0, 1), (69, .bipush 48, 2), (71, .iload_n 3, 1), (72, .iadd, 1), (73, .invokevirtual 413, 3)] := dz_sg _ 62 (by decide +kernel)
theorem dX7_print_62 : decode cX7_print 62 = .ok (.iload_n 3, 1) := sdX7_print_62.1
theorem dX7_print_63 : decode cX7_print 63 = .ok (.invokestatic 175, 3) := sdX7_print_62.2.1
theorem dX7_print_66 : decode cX7_print 66 = .ok (.istore 4, 2) := sdX7_print_62.2.2.1
theorem dX7_print_68 : decode cX7_print 68 = .ok (.aload_n 0, 1) := sdX7_print_62.2.2.2.1
theorem dX7_print_69 : decode cX7_print 69 = .ok (.bipush 48, 2) := sdX7_print_62.2.2.2.2.1
theorem dX7_print_71 : decode cX7_print 71 = .ok (.iload_n 3, 1) := sdX7_print_62.2.2.2.2.2.1
theorem dX7_print_72 : decode cX7_print 72 = .ok (.iadd, 1) := sdX7_print_62.2.2.2.2.2.2.1
theorem dX7_print_73 : decode cX7_print 73 = .ok (.invokevirtual 413, 3) := sdX7_print_62.2.2.2.2.2.2.2.1
theorem sdX7_print_76 : dz_Seg cX7_print [(76, .aload_n 0, 1), (77, .bipush 61, 2), (79, .invokevirtual 413, 3), (82, .aload_n 0, 1), (83, .iload 4, 2), (85, .iconst (-1), 1), (86, .if_icmp .ne 8, 3), (89, .bipush 45, 2)] := dz_sg _ 76 (by decide +kernel)
theorem dX7_print_76 : decode cX7_print 76 = .ok (.aload_n 0, 1) := sdX7_print_76.1
theorem dX7_print_77 : decode cX7_print 77 = .ok (.bipush 61, 2) := sdX7_print_76.2.1
theorem dX7_print_79 : decode cX7_print 79 = .ok (.invokevirtual 413, 3) := sdX7_print_76.2.2.1
theorem dX7_print_82 : decode cX7_print 82 = .ok (.aload_n 0, 1) := sdX7_print_76.2.2.2.1
theorem dX7_print_83 : decode cX7_print 83 = .ok (.iload 4, 2) := sdX7_print_76.2.2.2.2.1
theorem dX7_print_85 : decode cX7_print 85 = .ok (.iconst (-1), 1) := sdX7_print_76.2.2.2.2.2.1
theorem dX7_print_86 : decode cX7_print 86 = .ok (.if_icmp .ne 8, 3) := sdX7_print_76.2.2.2.2.2.2.1
theorem dX7_print_89 : decode cX7_print 89 = .ok (.bipush 45, 2) := sdX7_print_76.2.2.2.2.2.2.2.1
theorem sdX7_print_91 : dz_Seg cX7_print [(91, .goto 8, 3), (94, .bipush 48, 2), (96, .iload 4, 2), (98, .iadd, 1), (99, .invokevirtual 413, 3), (102, .aload_n 0, 1), (103, .getfield 47, 3), (106, .getfield 253, 3)] := dz_sg _ 91 (by decide +kernel)
theorem dX7_print_91 : decode cX7_print 91 = .ok (.goto 8, 3) := sdX7_print_91.1
theorem dX7_print_94 : decode cX7_print 94 = .ok (.bipush 48, 2) := sdX7_print_91.2.1
theorem dX7_print_96 : decode cX7_print 96 = .ok (.iload 4, 2) := sdX7_print_91.2.2.1
theorem dX7_print_98 : decode cX7_print 98 = .ok (.iadd, 1) := sdX7_print_91.2.2.2.1
theorem dX7_print_99 : decode cX7_print 99 = .ok (.invokevirtual 413, 3) := sdX7_print_91.2.2.2.2.1
theorem dX7_print_102 : decode cX7_print 102 = .ok (.aload_n 0, 1) := sdX7_print_91.2.2.2.2.2.1
theorem dX7_print_103 : decode cX7_print 103 = .ok (.getfield 47, 3) := sdX7_print_91.2.2.2.2.2.2.1
theorem dX7_print_106 : decode cX7_print 106 = .ok (.getfield 253, 3) := sdX7_print_91.2.2.2.2.2.2.2.1
theorem sdX7_print_109 : dz_Seg cX7_print [(109, .iload_n 3, 1), (110, .invokestatic 175, 3), (113, .iconst 1, 1), (114, .if_icmp .ne 9, 3), (117, .aload_n 0, 1), (118, .bipush 33, 2), (120, .invokevirtual 413, 3), (123, .aload_n 0, 1)] := dz_sg _ 109 (by decide +kernel)
theorem dX7_print_109 : decode cX7_print 109 = .ok (.iload_n 3, 1) := sdX7_print_109.1
theorem dX7_print_110 : decode cX7_print 110 = .ok (.invokestatic 175, 3) := sdX7_print_109.2.1
theorem dX7_print_113 : decode cX7_print 113 = .ok (.iconst 1, 1) := sdX7_print_109.2.2.1
theorem dX7_print_114 : decode cX7_print 114 = .ok (.if_icmp .ne 9, 3) := sdX7_print_109.2.2.2.1
theorem dX7_print_117 : decode cX7_print 117 = .ok (.aload_n 0, 1) := sdX7_print_109.2.2.2.2.1
theorem dX7_print_118 : decode cX7_print 118 = .ok (.bipush 33, 2) := sdX7_print_109.2.2.2.2.2.1
theorem dX7_print_120 : decode cX7_print 120 = .ok (.invokevirtual 413, 3) := sdX7_print_109.2.2.2.2.2.2.1
theorem dX7_print_123 : decode cX7_print 123 = .ok (.aload_n 0, 1) := sdX7_print_109.2.2.2.2.2.2.2.1
theorem sdX7_print_124 : dz_Seg cX7_print [(124, .bipush 59, 2), (126, .invokevirtual 413, 3), (129, .iinc 2 1, 3), (132, .goto (-100), 3), (135, .aload_n 0, 1), (136, .aload_n 0, 1), (137, .getfield 84, 3), (140, .invokevirtual 134, 3)] := dz_sg _ 124 (by decide +kernel)
theorem dX7_print_124 : decode cX7_print 124 = .ok (.bipush 59, 2) := sdX7_print_124.1
theorem dX7_print_126 : decode cX7_print 126 = .ok (.invokevirtual 413, 3) := sdX7_print_124.2.1
theorem dX7_print_129 : decode cX7_print 129 = .ok (.iinc 2 1, 3) := sdX7_print_124.2.2.1
theorem dX7_print_132 : decode cX7_print 132 = .ok (.goto (-100), 3) := sdX7_print_124.2.2.2.1
theorem dX7_print_135 : decode cX7_print 135 = .ok (.aload_n 0, 1) := sdX7_print_124.2.2.2.2.1
theorem dX7_print_136 : decode cX7_print 136 = .ok (.aload_n 0, 1) := sdX7_print_124.2.2.2.2.2.1
theorem dX7_print_137 : decode cX7_print 137 = .ok (.getfield 84, 3) := sdX7_print_124.2.2.2.2.2.2.1
theorem dX7_print_140 : decode cX7_print 140 = .ok (.invokevirtual 134, 3) := sdX7_print_124.2.2.2.2.2.2.2.1
theorem sdX7_print_143 : dz_Seg cX7_print [(143, .ireturn, 1)] := dz_sg _ 143 (by decide +kernel)
theorem dX7_print_143 : decode cX7_print 143 = .ok (.ireturn, 1) := sdX7_print_143.1
theorem sdX7_write_0 : dz_Seg cX7_write [(0, .aload_n 0, 1), (1, .getfield 13, 3), (4, .aload_n 0, 1), (5, .getfield 84, 3), (8, .iload_n 1, 1), (9, .invokestatic 98, 3), (12, .aload_n 0, 1), (13, .dup, 1)] := dz_sg _ 0 (by decide +kernel)
theorem dX7_write_0 : decode cX7_write 0 = .ok (.aload_n 0, 1) := sdX7_write_0.1
theorem dX7_write_1 : decode cX7_write 1 = .ok (.getfield 13, 3) := sdX7_write_0.2.1
theorem dX7_write_4 : decode cX7_write 4 = .ok (.aload_n 0, 1) := sdX7_write_0.2.2.1
theorem dX7_write_5 : decode cX7_write 5 = .ok (.getfield 84, 3) := sdX7_write_0.2.2.2.1
theorem dX7_write_8 : decode cX7_write 8 = .ok (.iload_n 1, 1) := sdX7_write_0.2.2.2.2.1
theorem dX7_write_9 : decode cX7_write 9 = .ok (.invokestatic 98, 3) := sdX7_write_0.2.2.2.2.2.1
theorem dX7_write_12 : decode cX7_write 12 = .ok (.aload_n 0, 1) := sdX7_write_0.2.2.2.2.2.2.1
theorem dX7_write_13 : decode cX7_write 13 = .ok (.dup, 1) := sdX7_write_0.2.2.2.2.2.2.2.1
theorem sdX7_write_14 : dz_Seg cX7_write [(14, .getfield 84, 3), (17, .iconst 1, 1), (18, .iadd, 1), (19, .putfield 84, 3), (22, .return_, 1)] := dz_sg _ 14 (by decide +kernel)
theorem dX7_write_14 : decode cX7_write 14 = .ok (.getfield 84, 3) := sdX7_write_14.1
theorem dX7_write_17 : decode cX7_write 17 = .ok (.iconst 1, 1) := sdX7_write_14.2.1
theorem dX7_write_18 : decode cX7_write 18 = .ok (.iadd, 1) := sdX7_write_14.2.2.1
theorem dX7_write_19 : decode cX7_write 19 = .ok (.putfield 84, 3) := sdX7_write_14.2.2.2.1
theorem dX7_write_22 : decode cX7_write 22 = .ok (.return_, 1) := sdX7_write_14.2.2.2.2.1
theorem sdX7_out_0 : dz_Seg cX7_out [(0, .iload_n 1, 1), (1, .ifCond .ge 9, 3), (4, .aload_n 0, 1), (5, .iconst 1, 1), (6, .invokevirtual 102, 3), (9, .ireturn, 1), (10, .iload_n 1, 1), (11, .aload_n 0, 1)] := dz_sg _ 0 (by decide +kernel)
theorem dX7_out_0 : decode cX7_out 0 = .ok (.iload_n 1, 1) := sdX7_out_0.1
theorem dX7_out_1 : decode cX7_out 1 = .ok (.ifCond .ge 9, 3) := sdX7_out_0.2.1
theorem dX7_out_4 : decode cX7_out 4 = .ok (.aload_n 0, 1) := sdX7_out_0.2.2.1
theorem dX7_out_5 : decode cX7_out 5 = .ok (.iconst 1, 1) := sdX7_out_0.2.2.2.1
theorem dX7_out_6 : decode cX7_out 6 = .ok (.invokevirtual 102, 3) := sdX7_out_0.2.2.2.2.1
theorem dX7_out_9 : decode cX7_out 9 = .ok (.ireturn, 1) := sdX7_out_0.2.2.2.2.2.1
theorem dX7_out_10 : decode cX7_out 10 = .ok (.iload_n 1, 1) := sdX7_out_0.2.2.2.2.2.2.1
theorem dX7_out_11 : decode cX7_out 11 = .ok (.aload_n 0, 1) := sdX7_out_0.2.2.2.2.2.2.2.1
theorem sdX7_out_12 : dz_Seg cX7_out [(12, .getfield 84, 3), (15, .if_icmp .lt 11, 3), (18, .aload_n 0, 1), (19, .iconst 5, 1), (20, .invokevirtual 102, 3), (23, .goto 15, 3), (26, .aload_n 0, 1), (27, .aload_n 0, 1)] := dz_sg _ 12 (by decide +kernel)
theorem dX7_out_12 : decode cX7_out 12 = .ok (.getfield 84, 3) := sdX7_out_12.1
theorem dX7_out_15 : decode cX7_out 15 = .ok (.if_icmp .lt 11, 3) := sdX7_out_12.2.1
theorem dX7_out_18 : decode cX7_out 18 = .ok (.aload_n 0, 1) := sdX7_out_12.2.2.1
theorem dX7_out_19 : decode cX7_out 19 = .ok (.iconst 5, 1) := sdX7_out_12.2.2.2.1
theorem dX7_out_20 : decode cX7_out 20 = .ok (.invokevirtual 102, 3) := sdX7_out_12.2.2.2.2.1
theorem dX7_out_23 : decode cX7_out 23 = .ok (.goto 15, 3) := sdX7_out_12.2.2.2.2.2.1
theorem dX7_out_26 : decode cX7_out 26 = .ok (.aload_n 0, 1) := sdX7_out_12.2.2.2.2.2.2.1
theorem dX7_out_27 : decode cX7_out 27 = .ok (.aload_n 0, 1) := sdX7_out_12.2.2.2.2.2.2.2.1
theorem sdX7_out_28 : dz_Seg cX7_out [(28, .getfield 13, 3), (31, .iload_n 1, 1), (32, .invokestatic 175, 3), (35, .invokevirtual 134, 3), (38, .ireturn, 1)] := dz_sg _ 28 (by decide +kernel)
theorem dX7_out_28 : decode cX7_out 28 = .ok (.getfield 13, 3) := sdX7_out_28.1
theorem dX7_out_31 : decode cX7_out 31 = .ok (.iload_n 1, 1) := sdX7_out_28.2.1
theorem dX7_out_32 : decode cX7_out 32 = .ok (.invokestatic 175, 3) := sdX7_out_28.2.2.1
theorem dX7_out_35 : decode cX7_out 35 = .ok (.invokevirtual 134, 3) := sdX7_out_28.2.2.2.1
theorem dX7_out_38 : decode cX7_out 38 = .ok (.ireturn, 1) := sdX7_out_28.2.2.2.2.1
theorem sdX7_answer_0 : dz_Seg cX7_answer [(0, .aload_n 0, 1), (1, .iconst 0, 1), (2, .putfield 88, 3), (5, .iload_n 1, 1), (6, .ireturn, 1)] := dz_sg _ 0 (by decide +kernel)
theorem dX7_answer_0 : decode cX7_answer 0 = .ok (.aload_n 0, 1) := sdX7_answer_0.1
theorem dX7_answer_1 : decode cX7_answer 1 = .ok (.iconst 0, 1) := sdX7_answer_0.2.1
theorem dX7_answer_2 : decode cX7_answer 2 = .ok (.putfield 88, 3) := sdX7_answer_0.2.2.1
theorem dX7_answer_5 : decode cX7_answer 5 = .ok (.iload_n 1, 1) := sdX7_answer_0.2.2.2.1
theorem dX7_answer_6 : decode cX7_answer 6 = .ok (.ireturn, 1) := sdX7_answer_0.2.2.2.2.1
theorem sdX7_answerParts_0 : dz_Seg cX7_answerParts [(0, .aload_n 0, 1), (1, .iconst 0, 1), (2, .putfield 88, 3), (5, .lload_n 1, 1), (6, .lreturn, 1)] := dz_sg _ 0 (by decide +kernel)
theorem dX7_answerParts_0 : decode cX7_answerParts 0 = .ok (.aload_n 0, 1) := sdX7_answerParts_0.1
theorem dX7_answerParts_1 : decode cX7_answerParts 1 = .ok (.iconst 0, 1) := sdX7_answerParts_0.2.1
theorem dX7_answerParts_2 : decode cX7_answerParts 2 = .ok (.putfield 88, 3) := sdX7_answerParts_0.2.2.1
theorem dX7_answerParts_5 : decode cX7_answerParts 5 = .ok (.lload_n 1, 1) := sdX7_answerParts_0.2.2.2.1
theorem dX7_answerParts_6 : decode cX7_answerParts 6 = .ok (.lreturn, 1) := sdX7_answerParts_0.2.2.2.2.1
theorem sdX7_refuse_0 : dz_Seg cX7_refuse [(0, .aload_n 0, 1), (1, .iload_n 1, 1), (2, .putfield 88, 3), (5, .iconst (-1), 1), (6, .ireturn, 1)] := dz_sg _ 0 (by decide +kernel)
theorem dX7_refuse_0 : decode cX7_refuse 0 = .ok (.aload_n 0, 1) := sdX7_refuse_0.1
theorem dX7_refuse_1 : decode cX7_refuse 1 = .ok (.iload_n 1, 1) := sdX7_refuse_0.2.1
theorem dX7_refuse_2 : decode cX7_refuse 2 = .ok (.putfield 88, 3) := sdX7_refuse_0.2.2.1
theorem dX7_refuse_5 : decode cX7_refuse 5 = .ok (.iconst (-1), 1) := sdX7_refuse_0.2.2.2.1
theorem dX7_refuse_6 : decode cX7_refuse 6 = .ok (.ireturn, 1) := sdX7_refuse_0.2.2.2.2.1
theorem sdX7_changed_0 : dz_Seg cX7_changed [(0, .aload_n 0, 1), (1, .getfield 40, 3), (4, .aload_n 0, 1), (5, .getfield 26, 3), (8, .invokevirtual 80, 3), (11, .aload_n 0, 1), (12, .iconst 0, 1), (13, .putfield 368, 3)] := dz_sg _ 0 (by decide +kernel)
theorem dX7_changed_0 : decode cX7_changed 0 = .ok (.aload_n 0, 1) := sdX7_changed_0.1
theorem dX7_changed_1 : decode cX7_changed 1 = .ok (.getfield 40, 3) := sdX7_changed_0.2.1
theorem dX7_changed_4 : decode cX7_changed 4 = .ok (.aload_n 0, 1) := sdX7_changed_0.2.2.1
theorem dX7_changed_5 : decode cX7_changed 5 = .ok (.getfield 26, 3) := sdX7_changed_0.2.2.2.1
theorem dX7_changed_8 : decode cX7_changed 8 = .ok (.invokevirtual 80, 3) := sdX7_changed_0.2.2.2.2.1
theorem dX7_changed_11 : decode cX7_changed 11 = .ok (.aload_n 0, 1) := sdX7_changed_0.2.2.2.2.2.1
theorem dX7_changed_12 : decode cX7_changed 12 = .ok (.iconst 0, 1) := sdX7_changed_0.2.2.2.2.2.2.1
theorem dX7_changed_13 : decode cX7_changed 13 = .ok (.putfield 368, 3) := sdX7_changed_0.2.2.2.2.2.2.2.1
theorem sdX7_changed_16 : dz_Seg cX7_changed [(16, .aload_n 0, 1), (17, .iload_n 1, 1), (18, .invokevirtual 134, 3), (21, .ireturn, 1)] := dz_sg _ 16 (by decide +kernel)
theorem dX7_changed_16 : decode cX7_changed 16 = .ok (.aload_n 0, 1) := sdX7_changed_16.1
theorem dX7_changed_17 : decode cX7_changed 17 = .ok (.iload_n 1, 1) := sdX7_changed_16.2.1
theorem dX7_changed_18 : decode cX7_changed 18 = .ok (.invokevirtual 134, 3) := sdX7_changed_16.2.2.1
theorem dX7_changed_21 : decode cX7_changed 21 = .ok (.ireturn, 1) := sdX7_changed_16.2.2.2.1
theorem sdX7_isUnit_0 : dz_Seg cX7_isUnit [(0, .iload_n 1, 1), (1, .ifCond .lt 18, 3), (4, .iload_n 1, 1), (5, .aload_n 0, 1), (6, .getfield 26, 3), (9, .getfield 131, 3), (12, .if_icmp .ge 7, 3), (15, .iconst 1, 1)] := dz_sg _ 0 (by decide +kernel)
theorem dX7_isUnit_0 : decode cX7_isUnit 0 = .ok (.iload_n 1, 1) := sdX7_isUnit_0.1
theorem dX7_isUnit_1 : decode cX7_isUnit 1 = .ok (.ifCond .lt 18, 3) := sdX7_isUnit_0.2.1
theorem dX7_isUnit_4 : decode cX7_isUnit 4 = .ok (.iload_n 1, 1) := sdX7_isUnit_0.2.2.1
theorem dX7_isUnit_5 : decode cX7_isUnit 5 = .ok (.aload_n 0, 1) := sdX7_isUnit_0.2.2.2.1
theorem dX7_isUnit_6 : decode cX7_isUnit 6 = .ok (.getfield 26, 3) := sdX7_isUnit_0.2.2.2.2.1
theorem dX7_isUnit_9 : decode cX7_isUnit 9 = .ok (.getfield 131, 3) := sdX7_isUnit_0.2.2.2.2.2.1
theorem dX7_isUnit_12 : decode cX7_isUnit 12 = .ok (.if_icmp .ge 7, 3) := sdX7_isUnit_0.2.2.2.2.2.2.1
theorem dX7_isUnit_15 : decode cX7_isUnit 15 = .ok (.iconst 1, 1) := sdX7_isUnit_0.2.2.2.2.2.2.2.1
theorem sdX7_isUnit_16 : dz_Seg cX7_isUnit [(16, .goto 4, 3), (19, .iconst 0, 1), (20, .ireturn, 1)] := dz_sg _ 16 (by decide +kernel)
theorem dX7_isUnit_16 : decode cX7_isUnit 16 = .ok (.goto 4, 3) := sdX7_isUnit_16.1
theorem dX7_isUnit_19 : decode cX7_isUnit 19 = .ok (.iconst 0, 1) := sdX7_isUnit_16.2.1
theorem dX7_isUnit_20 : decode cX7_isUnit 20 = .ok (.ireturn, 1) := sdX7_isUnit_16.2.2.1
theorem sdX7_isUnitOrNone_0 : dz_Seg cX7_isUnitOrNone [(0, .iload_n 1, 1), (1, .iconst (-1), 1), (2, .if_icmp .eq 11, 3), (5, .aload_n 0, 1), (6, .iload_n 1, 1), (7, .invokevirtual 188, 3), (10, .ifCond .eq 7, 3), (13, .iconst 1, 1)] := dz_sg _ 0 (by decide +kernel)
theorem dX7_isUnitOrNone_0 : decode cX7_isUnitOrNone 0 = .ok (.iload_n 1, 1) := sdX7_isUnitOrNone_0.1
theorem dX7_isUnitOrNone_1 : decode cX7_isUnitOrNone 1 = .ok (.iconst (-1), 1) := sdX7_isUnitOrNone_0.2.1
theorem dX7_isUnitOrNone_2 : decode cX7_isUnitOrNone 2 = .ok (.if_icmp .eq 11, 3) := sdX7_isUnitOrNone_0.2.2.1
theorem dX7_isUnitOrNone_5 : decode cX7_isUnitOrNone 5 = .ok (.aload_n 0, 1) := sdX7_isUnitOrNone_0.2.2.2.1
theorem dX7_isUnitOrNone_6 : decode cX7_isUnitOrNone 6 = .ok (.iload_n 1, 1) := sdX7_isUnitOrNone_0.2.2.2.2.1
theorem dX7_isUnitOrNone_7 : decode cX7_isUnitOrNone 7 = .ok (.invokevirtual 188, 3) := sdX7_isUnitOrNone_0.2.2.2.2.2.1
theorem dX7_isUnitOrNone_10 : decode cX7_isUnitOrNone 10 = .ok (.ifCond .eq 7, 3) := sdX7_isUnitOrNone_0.2.2.2.2.2.2.1
theorem dX7_isUnitOrNone_13 : decode cX7_isUnitOrNone 13 = .ok (.iconst 1, 1) := sdX7_isUnitOrNone_0.2.2.2.2.2.2.2.1
theorem sdX7_isUnitOrNone_14 : dz_Seg cX7_isUnitOrNone [(14, .goto 4, 3), (17, .iconst 0, 1), (18, .ireturn, 1)] := dz_sg _ 14 (by decide +kernel)
theorem dX7_isUnitOrNone_14 : decode cX7_isUnitOrNone 14 = .ok (.goto 4, 3) := sdX7_isUnitOrNone_14.1
theorem dX7_isUnitOrNone_17 : decode cX7_isUnitOrNone 17 = .ok (.iconst 0, 1) := sdX7_isUnitOrNone_14.2.1
theorem dX7_isUnitOrNone_18 : decode cX7_isUnitOrNone 18 = .ok (.ireturn, 1) := sdX7_isUnitOrNone_14.2.2.1
theorem sdX7_isHunter_0 : dz_Seg cX7_isHunter [(0, .iload_n 1, 1), (1, .ifCond .lt 18, 3), (4, .iload_n 1, 1), (5, .aload_n 0, 1), (6, .getfield 26, 3), (9, .getfield 119, 3), (12, .if_icmp .ge 7, 3), (15, .iconst 1, 1)] := dz_sg _ 0 (by decide +kernel)
theorem dX7_isHunter_0 : decode cX7_isHunter 0 = .ok (.iload_n 1, 1) := sdX7_isHunter_0.1
theorem dX7_isHunter_1 : decode cX7_isHunter 1 = .ok (.ifCond .lt 18, 3) := sdX7_isHunter_0.2.1
theorem dX7_isHunter_4 : decode cX7_isHunter 4 = .ok (.iload_n 1, 1) := sdX7_isHunter_0.2.2.1
theorem dX7_isHunter_5 : decode cX7_isHunter 5 = .ok (.aload_n 0, 1) := sdX7_isHunter_0.2.2.2.1
theorem dX7_isHunter_6 : decode cX7_isHunter 6 = .ok (.getfield 26, 3) := sdX7_isHunter_0.2.2.2.2.1
theorem dX7_isHunter_9 : decode cX7_isHunter 9 = .ok (.getfield 119, 3) := sdX7_isHunter_0.2.2.2.2.2.1
theorem dX7_isHunter_12 : decode cX7_isHunter 12 = .ok (.if_icmp .ge 7, 3) := sdX7_isHunter_0.2.2.2.2.2.2.1
theorem dX7_isHunter_15 : decode cX7_isHunter 15 = .ok (.iconst 1, 1) := sdX7_isHunter_0.2.2.2.2.2.2.2.1
theorem sdX7_isHunter_16 : dz_Seg cX7_isHunter [(16, .goto 4, 3), (19, .iconst 0, 1), (20, .ireturn, 1)] := dz_sg _ 16 (by decide +kernel)
theorem dX7_isHunter_16 : decode cX7_isHunter 16 = .ok (.goto 4, 3) := sdX7_isHunter_16.1
theorem dX7_isHunter_19 : decode cX7_isHunter 19 = .ok (.iconst 0, 1) := sdX7_isHunter_16.2.1
theorem dX7_isHunter_20 : decode cX7_isHunter 20 = .ok (.ireturn, 1) := sdX7_isHunter_16.2.2.1
theorem sdX7_isParty_0 : dz_Seg cX7_isParty [(0, .iload_n 1, 1), (1, .ifCond .lt 18, 3), (4, .iload_n 1, 1), (5, .aload_n 0, 1), (6, .getfield 26, 3), (9, .getfield 137, 3), (12, .if_icmp .ge 7, 3), (15, .iconst 1, 1)] := dz_sg _ 0 (by decide +kernel)
theorem dX7_isParty_0 : decode cX7_isParty 0 = .ok (.iload_n 1, 1) := sdX7_isParty_0.1
theorem dX7_isParty_1 : decode cX7_isParty 1 = .ok (.ifCond .lt 18, 3) := sdX7_isParty_0.2.1
theorem dX7_isParty_4 : decode cX7_isParty 4 = .ok (.iload_n 1, 1) := sdX7_isParty_0.2.2.1
theorem dX7_isParty_5 : decode cX7_isParty 5 = .ok (.aload_n 0, 1) := sdX7_isParty_0.2.2.2.1
theorem dX7_isParty_6 : decode cX7_isParty 6 = .ok (.getfield 26, 3) := sdX7_isParty_0.2.2.2.2.1
theorem dX7_isParty_9 : decode cX7_isParty 9 = .ok (.getfield 137, 3) := sdX7_isParty_0.2.2.2.2.2.1
theorem dX7_isParty_12 : decode cX7_isParty 12 = .ok (.if_icmp .ge 7, 3) := sdX7_isParty_0.2.2.2.2.2.2.1
theorem dX7_isParty_15 : decode cX7_isParty 15 = .ok (.iconst 1, 1) := sdX7_isParty_0.2.2.2.2.2.2.2.1
theorem sdX7_isParty_16 : dz_Seg cX7_isParty [(16, .goto 4, 3), (19, .iconst 0, 1), (20, .ireturn, 1)] := dz_sg _ 16 (by decide +kernel)
theorem dX7_isParty_16 : decode cX7_isParty 16 = .ok (.goto 4, 3) := sdX7_isParty_16.1
theorem dX7_isParty_19 : decode cX7_isParty 19 = .ok (.iconst 0, 1) := sdX7_isParty_16.2.1
theorem dX7_isParty_20 : decode cX7_isParty 20 = .ok (.ireturn, 1) := sdX7_isParty_16.2.2.1
theorem sdX7_isApplicant_0 : dz_Seg cX7_isApplicant [(0, .iload_n 1, 1), (1, .ifCond .lt 18, 3), (4, .iload_n 1, 1), (5, .aload_n 0, 1), (6, .getfield 40, 3), (9, .getfield 140, 3), (12, .if_icmp .ge 7, 3), (15, .iconst 1, 1)] := dz_sg _ 0 (by decide +kernel)
theorem dX7_isApplicant_0 : decode cX7_isApplicant 0 = .ok (.iload_n 1, 1) := sdX7_isApplicant_0.1
theorem dX7_isApplicant_1 : decode cX7_isApplicant 1 = .ok (.ifCond .lt 18, 3) := sdX7_isApplicant_0.2.1
theorem dX7_isApplicant_4 : decode cX7_isApplicant 4 = .ok (.iload_n 1, 1) := sdX7_isApplicant_0.2.2.1
theorem dX7_isApplicant_5 : decode cX7_isApplicant 5 = .ok (.aload_n 0, 1) := sdX7_isApplicant_0.2.2.2.1
theorem dX7_isApplicant_6 : decode cX7_isApplicant 6 = .ok (.getfield 40, 3) := sdX7_isApplicant_0.2.2.2.2.1
theorem dX7_isApplicant_9 : decode cX7_isApplicant 9 = .ok (.getfield 140, 3) := sdX7_isApplicant_0.2.2.2.2.2.1
theorem dX7_isApplicant_12 : decode cX7_isApplicant 12 = .ok (.if_icmp .ge 7, 3) := sdX7_isApplicant_0.2.2.2.2.2.2.1
theorem dX7_isApplicant_15 : decode cX7_isApplicant 15 = .ok (.iconst 1, 1) := sdX7_isApplicant_0.2.2.2.2.2.2.2.1
theorem sdX7_isApplicant_16 : dz_Seg cX7_isApplicant [(16, .goto 4, 3), (19, .iconst 0, 1), (20, .ireturn, 1)] := dz_sg _ 16 (by decide +kernel)
theorem dX7_isApplicant_16 : decode cX7_isApplicant 16 = .ok (.goto 4, 3) := sdX7_isApplicant_16.1
theorem dX7_isApplicant_19 : decode cX7_isApplicant 19 = .ok (.iconst 0, 1) := sdX7_isApplicant_16.2.1
theorem dX7_isApplicant_20 : decode cX7_isApplicant 20 = .ok (.ireturn, 1) := sdX7_isApplicant_16.2.2.1
theorem sdX7_isSeed_0 : dz_Seg cX7_isSeed [(0, .iload_n 0, 1), (1, .ifCond .lt 14, 3), (4, .iload_n 0, 1), (5, .ldc_w 395, 3), (8, .if_icmp .gt 7, 3), (11, .iconst 1, 1), (12, .goto 4, 3), (15, .iconst 0, 1)] := dz_sg _ 0 (by decide +kernel)
theorem dX7_isSeed_0 : decode cX7_isSeed 0 = .ok (.iload_n 0, 1) := sdX7_isSeed_0.1
theorem dX7_isSeed_1 : decode cX7_isSeed 1 = .ok (.ifCond .lt 14, 3) := sdX7_isSeed_0.2.1
theorem dX7_isSeed_4 : decode cX7_isSeed 4 = .ok (.iload_n 0, 1) := sdX7_isSeed_0.2.2.1
theorem dX7_isSeed_5 : decode cX7_isSeed 5 = .ok (.ldc_w 395, 3) := sdX7_isSeed_0.2.2.2.1
theorem dX7_isSeed_8 : decode cX7_isSeed 8 = .ok (.if_icmp .gt 7, 3) := sdX7_isSeed_0.2.2.2.2.1
theorem dX7_isSeed_11 : decode cX7_isSeed 11 = .ok (.iconst 1, 1) := sdX7_isSeed_0.2.2.2.2.2.1
theorem dX7_isSeed_12 : decode cX7_isSeed 12 = .ok (.goto 4, 3) := sdX7_isSeed_0.2.2.2.2.2.2.1
theorem dX7_isSeed_15 : decode cX7_isSeed 15 = .ok (.iconst 0, 1) := sdX7_isSeed_0.2.2.2.2.2.2.2.1
theorem sdX7_isSeed_16 : dz_Seg cX7_isSeed [(16, .ireturn, 1)] := dz_sg _ 16 (by decide +kernel)
theorem dX7_isSeed_16 : decode cX7_isSeed 16 = .ok (.ireturn, 1) := sdX7_isSeed_16.1
theorem sdX7_cell_0 : dz_Seg cX7_cell [(0, .iload_n 1, 1), (1, .ifCond .lt 15, 3), (4, .iload_n 1, 1), (5, .aload_n 0, 1), (6, .arraylength, 1), (7, .if_icmp .ge 9, 3), (10, .aload_n 0, 1), (11, .iload_n 1, 1)] := dz_sg _ 0 (by decide +kernel)
theorem dX7_cell_0 : decode cX7_cell 0 = .ok (.iload_n 1, 1) := sdX7_cell_0.1
theorem dX7_cell_1 : decode cX7_cell 1 = .ok (.ifCond .lt 15, 3) := sdX7_cell_0.2.1
theorem dX7_cell_4 : decode cX7_cell 4 = .ok (.iload_n 1, 1) := sdX7_cell_0.2.2.1
theorem dX7_cell_5 : decode cX7_cell 5 = .ok (.aload_n 0, 1) := sdX7_cell_0.2.2.2.1
theorem dX7_cell_6 : decode cX7_cell 6 = .ok (.arraylength, 1) := sdX7_cell_0.2.2.2.2.1
theorem dX7_cell_7 : decode cX7_cell 7 = .ok (.if_icmp .ge 9, 3) := sdX7_cell_0.2.2.2.2.2.1
theorem dX7_cell_10 : decode cX7_cell 10 = .ok (.aload_n 0, 1) := sdX7_cell_0.2.2.2.2.2.2.1
theorem dX7_cell_11 : decode cX7_cell 11 = .ok (.iload_n 1, 1) := sdX7_cell_0.2.2.2.2.2.2.2.1
theorem sdX7_cell_12 : dz_Seg cX7_cell [(12, .iaload, 1), (13, .goto 4, 3), (16, .iconst 0, 1), (17, .ireturn, 1)] := dz_sg _ 12 (by decide +kernel)
theorem dX7_cell_12 : decode cX7_cell 12 = .ok (.iaload, 1) := sdX7_cell_12.1
theorem dX7_cell_13 : decode cX7_cell 13 = .ok (.goto 4, 3) := sdX7_cell_12.2.1
theorem dX7_cell_16 : decode cX7_cell 16 = .ok (.iconst 0, 1) := sdX7_cell_12.2.2.1
theorem dX7_cell_17 : decode cX7_cell 17 = .ok (.ireturn, 1) := sdX7_cell_12.2.2.2.1
theorem sdX7_bigCell_0 : dz_Seg cX7_bigCell [(0, .iload_n 1, 1), (1, .ifCond .lt 15, 3), (4, .iload_n 1, 1), (5, .aload_n 0, 1), (6, .arraylength, 1), (7, .if_icmp .ge 9, 3), (10, .aload_n 0, 1), (11, .iload_n 1, 1)] := dz_sg _ 0 (by decide +kernel)
theorem dX7_bigCell_0 : decode cX7_bigCell 0 = .ok (.iload_n 1, 1) := sdX7_bigCell_0.1
theorem dX7_bigCell_1 : decode cX7_bigCell 1 = .ok (.ifCond .lt 15, 3) := sdX7_bigCell_0.2.1
theorem dX7_bigCell_4 : decode cX7_bigCell 4 = .ok (.iload_n 1, 1) := sdX7_bigCell_0.2.2.1
theorem dX7_bigCell_5 : decode cX7_bigCell 5 = .ok (.aload_n 0, 1) := sdX7_bigCell_0.2.2.2.1
theorem dX7_bigCell_6 : decode cX7_bigCell 6 = .ok (.arraylength, 1) := sdX7_bigCell_0.2.2.2.2.1
theorem dX7_bigCell_7 : decode cX7_bigCell 7 = .ok (.if_icmp .ge 9, 3) := sdX7_bigCell_0.2.2.2.2.2.1
theorem dX7_bigCell_10 : decode cX7_bigCell 10 = .ok (.aload_n 0, 1) := sdX7_bigCell_0.2.2.2.2.2.2.1
theorem dX7_bigCell_11 : decode cX7_bigCell 11 = .ok (.iload_n 1, 1) := sdX7_bigCell_0.2.2.2.2.2.2.2.1
theorem sdX7_bigCell_12 : dz_Seg cX7_bigCell [(12, .laload, 1), (13, .goto 4, 3), (16, .lconst 0, 1), (17, .lreturn, 1)] := dz_sg _ 12 (by decide +kernel)
theorem dX7_bigCell_12 : decode cX7_bigCell 12 = .ok (.laload, 1) := sdX7_bigCell_12.1
theorem dX7_bigCell_13 : decode cX7_bigCell 13 = .ok (.goto 4, 3) := sdX7_bigCell_12.2.1
theorem dX7_bigCell_16 : decode cX7_bigCell 16 = .ok (.lconst 0, 1) := sdX7_bigCell_12.2.2.1
theorem dX7_bigCell_17 : decode cX7_bigCell 17 = .ok (.lreturn, 1) := sdX7_bigCell_12.2.2.2.1
theorem sdX7_put_0 : dz_Seg cX7_put [(0, .iload_n 1, 1), (1, .ifCond .lt 13, 3), (4, .iload_n 1, 1), (5, .aload_n 0, 1), (6, .arraylength, 1), (7, .if_icmp .ge 7, 3), (10, .aload_n 0, 1), (11, .iload_n 1, 1)] := dz_sg _ 0 (by decide +kernel)
theorem dX7_put_0 : decode cX7_put 0 = .ok (.iload_n 1, 1) := sdX7_put_0.1
theorem dX7_put_1 : decode cX7_put 1 = .ok (.ifCond .lt 13, 3) := sdX7_put_0.2.1
theorem dX7_put_4 : decode cX7_put 4 = .ok (.iload_n 1, 1) := sdX7_put_0.2.2.1
theorem dX7_put_5 : decode cX7_put 5 = .ok (.aload_n 0, 1) := sdX7_put_0.2.2.2.1
theorem dX7_put_6 : decode cX7_put 6 = .ok (.arraylength, 1) := sdX7_put_0.2.2.2.2.1
theorem dX7_put_7 : decode cX7_put 7 = .ok (.if_icmp .ge 7, 3) := sdX7_put_0.2.2.2.2.2.1
theorem dX7_put_10 : decode cX7_put 10 = .ok (.aload_n 0, 1) := sdX7_put_0.2.2.2.2.2.2.1
theorem dX7_put_11 : decode cX7_put 11 = .ok (.iload_n 1, 1) := sdX7_put_0.2.2.2.2.2.2.2.1
theorem sdX7_put_12 : dz_Seg cX7_put [(12, .iload_n 2, 1), (13, .iastore, 1), (14, .return_, 1)] := dz_sg _ 12 (by decide +kernel)
theorem dX7_put_12 : decode cX7_put 12 = .ok (.iload_n 2, 1) := sdX7_put_12.1
theorem dX7_put_13 : decode cX7_put 13 = .ok (.iastore, 1) := sdX7_put_12.2.1
theorem dX7_put_14 : decode cX7_put 14 = .ok (.return_, 1) := sdX7_put_12.2.2.1
theorem sdX7_bigPut_0 : dz_Seg cX7_bigPut [(0, .iload_n 1, 1), (1, .ifCond .lt 13, 3), (4, .iload_n 1, 1), (5, .aload_n 0, 1), (6, .arraylength, 1), (7, .if_icmp .ge 7, 3), (10, .aload_n 0, 1), (11, .iload_n 1, 1)] := dz_sg _ 0 (by decide +kernel)
theorem dX7_bigPut_0 : decode cX7_bigPut 0 = .ok (.iload_n 1, 1) := sdX7_bigPut_0.1
theorem dX7_bigPut_1 : decode cX7_bigPut 1 = .ok (.ifCond .lt 13, 3) := sdX7_bigPut_0.2.1
theorem dX7_bigPut_4 : decode cX7_bigPut 4 = .ok (.iload_n 1, 1) := sdX7_bigPut_0.2.2.1
theorem dX7_bigPut_5 : decode cX7_bigPut 5 = .ok (.aload_n 0, 1) := sdX7_bigPut_0.2.2.2.1
theorem dX7_bigPut_6 : decode cX7_bigPut 6 = .ok (.arraylength, 1) := sdX7_bigPut_0.2.2.2.2.1
theorem dX7_bigPut_7 : decode cX7_bigPut 7 = .ok (.if_icmp .ge 7, 3) := sdX7_bigPut_0.2.2.2.2.2.1
theorem dX7_bigPut_10 : decode cX7_bigPut 10 = .ok (.aload_n 0, 1) := sdX7_bigPut_0.2.2.2.2.2.2.1
theorem dX7_bigPut_11 : decode cX7_bigPut 11 = .ok (.iload_n 1, 1) := sdX7_bigPut_0.2.2.2.2.2.2.2.1
theorem sdX7_bigPut_12 : dz_Seg cX7_bigPut [(12, .lload_n 2, 1), (13, .lastore, 1), (14, .return_, 1)] := dz_sg _ 12 (by decide +kernel)
theorem dX7_bigPut_12 : decode cX7_bigPut 12 = .ok (.lload_n 2, 1) := sdX7_bigPut_12.1
theorem dX7_bigPut_13 : decode cX7_bigPut 13 = .ok (.lastore, 1) := sdX7_bigPut_12.2.1
theorem dX7_bigPut_14 : decode cX7_bigPut 14 = .ok (.return_, 1) := sdX7_bigPut_12.2.2.1
theorem sdX7_add_0 : dz_Seg cX7_add [(0, .iload_n 1, 1), (1, .ifCond .lt 16, 3), (4, .iload_n 1, 1), (5, .aload_n 0, 1), (6, .arraylength, 1), (7, .if_icmp .ge 10, 3), (10, .aload_n 0, 1), (11, .iload_n 1, 1)] := dz_sg _ 0 (by decide +kernel)
theorem dX7_add_0 : decode cX7_add 0 = .ok (.iload_n 1, 1) := sdX7_add_0.1
theorem dX7_add_1 : decode cX7_add 1 = .ok (.ifCond .lt 16, 3) := sdX7_add_0.2.1
theorem dX7_add_4 : decode cX7_add 4 = .ok (.iload_n 1, 1) := sdX7_add_0.2.2.1
theorem dX7_add_5 : decode cX7_add 5 = .ok (.aload_n 0, 1) := sdX7_add_0.2.2.2.1
theorem dX7_add_6 : decode cX7_add 6 = .ok (.arraylength, 1) := sdX7_add_0.2.2.2.2.1
theorem dX7_add_7 : decode cX7_add 7 = .ok (.if_icmp .ge 10, 3) := sdX7_add_0.2.2.2.2.2.1
theorem dX7_add_10 : decode cX7_add 10 = .ok (.aload_n 0, 1) := sdX7_add_0.2.2.2.2.2.2.1
theorem dX7_add_11 : decode cX7_add 11 = .ok (.iload_n 1, 1) := sdX7_add_0.2.2.2.2.2.2.2.1
theorem sdX7_add_12 : dz_Seg cX7_add [(12, .dup2, 1), (13, .iaload, 1), (14, .iload_n 2, 1), (15, .iadd, 1), (16, .iastore, 1), (17, .return_, 1)] := dz_sg _ 12 (by decide +kernel)
theorem dX7_add_12 : decode cX7_add 12 = .ok (.dup2, 1) := sdX7_add_12.1
theorem dX7_add_13 : decode cX7_add 13 = .ok (.iaload, 1) := sdX7_add_12.2.1
theorem dX7_add_14 : decode cX7_add 14 = .ok (.iload_n 2, 1) := sdX7_add_12.2.2.1
theorem dX7_add_15 : decode cX7_add 15 = .ok (.iadd, 1) := sdX7_add_12.2.2.2.1
theorem dX7_add_16 : decode cX7_add 16 = .ok (.iastore, 1) := sdX7_add_12.2.2.2.2.1
theorem dX7_add_17 : decode cX7_add 17 = .ok (.return_, 1) := sdX7_add_12.2.2.2.2.2.1
theorem sdX7_bigAdd_0 : dz_Seg cX7_bigAdd [(0, .iload_n 1, 1), (1, .ifCond .lt 16, 3), (4, .iload_n 1, 1), (5, .aload_n 0, 1), (6, .arraylength, 1), (7, .if_icmp .ge 10, 3), (10, .aload_n 0, 1), (11, .iload_n 1, 1)] := dz_sg _ 0 (by decide +kernel)
theorem dX7_bigAdd_0 : decode cX7_bigAdd 0 = .ok (.iload_n 1, 1) := sdX7_bigAdd_0.1
theorem dX7_bigAdd_1 : decode cX7_bigAdd 1 = .ok (.ifCond .lt 16, 3) := sdX7_bigAdd_0.2.1
theorem dX7_bigAdd_4 : decode cX7_bigAdd 4 = .ok (.iload_n 1, 1) := sdX7_bigAdd_0.2.2.1
theorem dX7_bigAdd_5 : decode cX7_bigAdd 5 = .ok (.aload_n 0, 1) := sdX7_bigAdd_0.2.2.2.1
theorem dX7_bigAdd_6 : decode cX7_bigAdd 6 = .ok (.arraylength, 1) := sdX7_bigAdd_0.2.2.2.2.1
theorem dX7_bigAdd_7 : decode cX7_bigAdd 7 = .ok (.if_icmp .ge 10, 3) := sdX7_bigAdd_0.2.2.2.2.2.1
theorem dX7_bigAdd_10 : decode cX7_bigAdd 10 = .ok (.aload_n 0, 1) := sdX7_bigAdd_0.2.2.2.2.2.2.1
theorem dX7_bigAdd_11 : decode cX7_bigAdd 11 = .ok (.iload_n 1, 1) := sdX7_bigAdd_0.2.2.2.2.2.2.2.1
theorem sdX7_bigAdd_12 : dz_Seg cX7_bigAdd [(12, .dup2, 1), (13, .laload, 1), (14, .lload_n 2, 1), (15, .ladd, 1), (16, .lastore, 1), (17, .return_, 1)] := dz_sg _ 12 (by decide +kernel)
theorem dX7_bigAdd_12 : decode cX7_bigAdd 12 = .ok (.dup2, 1) := sdX7_bigAdd_12.1
theorem dX7_bigAdd_13 : decode cX7_bigAdd 13 = .ok (.laload, 1) := sdX7_bigAdd_12.2.1
theorem dX7_bigAdd_14 : decode cX7_bigAdd 14 = .ok (.lload_n 2, 1) := sdX7_bigAdd_12.2.2.1
theorem dX7_bigAdd_15 : decode cX7_bigAdd 15 = .ok (.ladd, 1) := sdX7_bigAdd_12.2.2.2.1
theorem dX7_bigAdd_16 : decode cX7_bigAdd 16 = .ok (.lastore, 1) := sdX7_bigAdd_12.2.2.2.2.1
theorem dX7_bigAdd_17 : decode cX7_bigAdd 17 = .ok (.return_, 1) := sdX7_bigAdd_12.2.2.2.2.2.1
theorem sdX7_fill_0 : dz_Seg cX7_fill [(0, .iconst 0, 1), (1, .istore_n 2, 1), (2, .iload_n 2, 1), (3, .aload_n 0, 1), (4, .arraylength, 1), (5, .if_icmp .ge 13, 3), (8, .aload_n 0, 1), (9, .iload_n 2, 1)] := dz_sg _ 0 (by decide +kernel)
theorem dX7_fill_0 : decode cX7_fill 0 = .ok (.iconst 0, 1) := sdX7_fill_0.1
theorem dX7_fill_1 : decode cX7_fill 1 = .ok (.istore_n 2, 1) := sdX7_fill_0.2.1
theorem dX7_fill_2 : decode cX7_fill 2 = .ok (.iload_n 2, 1) := sdX7_fill_0.2.2.1
theorem dX7_fill_3 : decode cX7_fill 3 = .ok (.aload_n 0, 1) := sdX7_fill_0.2.2.2.1
theorem dX7_fill_4 : decode cX7_fill 4 = .ok (.arraylength, 1) := sdX7_fill_0.2.2.2.2.1
theorem dX7_fill_5 : decode cX7_fill 5 = .ok (.if_icmp .ge 13, 3) := sdX7_fill_0.2.2.2.2.2.1
theorem dX7_fill_8 : decode cX7_fill 8 = .ok (.aload_n 0, 1) := sdX7_fill_0.2.2.2.2.2.2.1
theorem dX7_fill_9 : decode cX7_fill 9 = .ok (.iload_n 2, 1) := sdX7_fill_0.2.2.2.2.2.2.2.1
theorem sdX7_fill_10 : dz_Seg cX7_fill [(10, .iload_n 1, 1), (11, .iastore, 1), (12, .iinc 2 1, 3), (15, .goto (-13), 3), (18, .return_, 1)] := dz_sg _ 10 (by decide +kernel)
theorem dX7_fill_10 : decode cX7_fill 10 = .ok (.iload_n 1, 1) := sdX7_fill_10.1
theorem dX7_fill_11 : decode cX7_fill 11 = .ok (.iastore, 1) := sdX7_fill_10.2.1
theorem dX7_fill_12 : decode cX7_fill 12 = .ok (.iinc 2 1, 3) := sdX7_fill_10.2.2.1
theorem dX7_fill_15 : decode cX7_fill 15 = .ok (.goto (-13), 3) := sdX7_fill_10.2.2.2.1
theorem dX7_fill_18 : decode cX7_fill 18 = .ok (.return_, 1) := sdX7_fill_10.2.2.2.2.1
theorem sdX7_bigFill_0 : dz_Seg cX7_bigFill [(0, .iconst 0, 1), (1, .istore_n 3, 1), (2, .iload_n 3, 1), (3, .aload_n 0, 1), (4, .arraylength, 1), (5, .if_icmp .ge 13, 3), (8, .aload_n 0, 1), (9, .iload_n 3, 1)] := dz_sg _ 0 (by decide +kernel)
theorem dX7_bigFill_0 : decode cX7_bigFill 0 = .ok (.iconst 0, 1) := sdX7_bigFill_0.1
theorem dX7_bigFill_1 : decode cX7_bigFill 1 = .ok (.istore_n 3, 1) := sdX7_bigFill_0.2.1
theorem dX7_bigFill_2 : decode cX7_bigFill 2 = .ok (.iload_n 3, 1) := sdX7_bigFill_0.2.2.1
theorem dX7_bigFill_3 : decode cX7_bigFill 3 = .ok (.aload_n 0, 1) := sdX7_bigFill_0.2.2.2.1
theorem dX7_bigFill_4 : decode cX7_bigFill 4 = .ok (.arraylength, 1) := sdX7_bigFill_0.2.2.2.2.1
theorem dX7_bigFill_5 : decode cX7_bigFill 5 = .ok (.if_icmp .ge 13, 3) := sdX7_bigFill_0.2.2.2.2.2.1
theorem dX7_bigFill_8 : decode cX7_bigFill 8 = .ok (.aload_n 0, 1) := sdX7_bigFill_0.2.2.2.2.2.2.1
theorem dX7_bigFill_9 : decode cX7_bigFill 9 = .ok (.iload_n 3, 1) := sdX7_bigFill_0.2.2.2.2.2.2.2.1
theorem sdX7_bigFill_10 : dz_Seg cX7_bigFill [(10, .lload_n 1, 1), (11, .lastore, 1), (12, .iinc 3 1, 3), (15, .goto (-13), 3), (18, .return_, 1)] := dz_sg _ 10 (by decide +kernel)
theorem dX7_bigFill_10 : decode cX7_bigFill 10 = .ok (.lload_n 1, 1) := sdX7_bigFill_10.1
theorem dX7_bigFill_11 : decode cX7_bigFill 11 = .ok (.lastore, 1) := sdX7_bigFill_10.2.1
theorem dX7_bigFill_12 : decode cX7_bigFill 12 = .ok (.iinc 3 1, 3) := sdX7_bigFill_10.2.2.1
theorem dX7_bigFill_15 : decode cX7_bigFill 15 = .ok (.goto (-13), 3) := sdX7_bigFill_10.2.2.2.1
theorem dX7_bigFill_18 : decode cX7_bigFill 18 = .ok (.return_, 1) := sdX7_bigFill_10.2.2.2.2.1
theorem sdX7_copy_0 : dz_Seg cX7_copy [(0, .iconst 0, 1), (1, .istore_n 2, 1), (2, .iload_n 2, 1), (3, .aload_n 1, 1), (4, .arraylength, 1), (5, .if_icmp .ge 17, 3), (8, .aload_n 1, 1), (9, .iload_n 2, 1)] := dz_sg _ 0 (by decide +kernel)
theorem dX7_copy_0 : decode cX7_copy 0 = .ok (.iconst 0, 1) := sdX7_copy_0.1
theorem dX7_copy_1 : decode cX7_copy 1 = .ok (.istore_n 2, 1) := sdX7_copy_0.2.1
theorem dX7_copy_2 : decode cX7_copy 2 = .ok (.iload_n 2, 1) := sdX7_copy_0.2.2.1
theorem dX7_copy_3 : decode cX7_copy 3 = .ok (.aload_n 1, 1) := sdX7_copy_0.2.2.2.1
theorem dX7_copy_4 : decode cX7_copy 4 = .ok (.arraylength, 1) := sdX7_copy_0.2.2.2.2.1
theorem dX7_copy_5 : decode cX7_copy 5 = .ok (.if_icmp .ge 17, 3) := sdX7_copy_0.2.2.2.2.2.1
theorem dX7_copy_8 : decode cX7_copy 8 = .ok (.aload_n 1, 1) := sdX7_copy_0.2.2.2.2.2.2.1
theorem dX7_copy_9 : decode cX7_copy 9 = .ok (.iload_n 2, 1) := sdX7_copy_0.2.2.2.2.2.2.2.1
theorem sdX7_copy_10 : dz_Seg cX7_copy [(10, .aload_n 0, 1), (11, .iload_n 2, 1), (12, .invokestatic 175, 3), (15, .iastore, 1), (16, .iinc 2 1, 3), (19, .goto (-17), 3), (22, .return_, 1)] := dz_sg _ 10 (by decide +kernel)
theorem dX7_copy_10 : decode cX7_copy 10 = .ok (.aload_n 0, 1) := sdX7_copy_10.1
theorem dX7_copy_11 : decode cX7_copy 11 = .ok (.iload_n 2, 1) := sdX7_copy_10.2.1
theorem dX7_copy_12 : decode cX7_copy 12 = .ok (.invokestatic 175, 3) := sdX7_copy_10.2.2.1
theorem dX7_copy_15 : decode cX7_copy 15 = .ok (.iastore, 1) := sdX7_copy_10.2.2.2.1
theorem dX7_copy_16 : decode cX7_copy 16 = .ok (.iinc 2 1, 3) := sdX7_copy_10.2.2.2.2.1
theorem dX7_copy_19 : decode cX7_copy 19 = .ok (.goto (-17), 3) := sdX7_copy_10.2.2.2.2.2.1
theorem dX7_copy_22 : decode cX7_copy 22 = .ok (.return_, 1) := sdX7_copy_10.2.2.2.2.2.2.1
theorem sdX7_sum_0 : dz_Seg cX7_sum [(0, .iconst 0, 1), (1, .istore_n 1, 1), (2, .iconst 0, 1), (3, .istore_n 2, 1), (4, .iload_n 2, 1), (5, .aload_n 0, 1), (6, .arraylength, 1), (7, .if_icmp .ge 15, 3)] := dz_sg _ 0 (by decide +kernel)
theorem dX7_sum_0 : decode cX7_sum 0 = .ok (.iconst 0, 1) := sdX7_sum_0.1
theorem dX7_sum_1 : decode cX7_sum 1 = .ok (.istore_n 1, 1) := sdX7_sum_0.2.1
theorem dX7_sum_2 : decode cX7_sum 2 = .ok (.iconst 0, 1) := sdX7_sum_0.2.2.1
theorem dX7_sum_3 : decode cX7_sum 3 = .ok (.istore_n 2, 1) := sdX7_sum_0.2.2.2.1
theorem dX7_sum_4 : decode cX7_sum 4 = .ok (.iload_n 2, 1) := sdX7_sum_0.2.2.2.2.1
theorem dX7_sum_5 : decode cX7_sum 5 = .ok (.aload_n 0, 1) := sdX7_sum_0.2.2.2.2.2.1
theorem dX7_sum_6 : decode cX7_sum 6 = .ok (.arraylength, 1) := sdX7_sum_0.2.2.2.2.2.2.1
theorem dX7_sum_7 : decode cX7_sum 7 = .ok (.if_icmp .ge 15, 3) := sdX7_sum_0.2.2.2.2.2.2.2.1
theorem sdX7_sum_10 : dz_Seg cX7_sum [(10, .iload_n 1, 1), (11, .aload_n 0, 1), (12, .iload_n 2, 1), (13, .iaload, 1), (14, .iadd, 1), (15, .istore_n 1, 1), (16, .iinc 2 1, 3), (19, .goto (-15), 3)] := dz_sg _ 10 (by decide +kernel)
theorem dX7_sum_10 : decode cX7_sum 10 = .ok (.iload_n 1, 1) := sdX7_sum_10.1
theorem dX7_sum_11 : decode cX7_sum 11 = .ok (.aload_n 0, 1) := sdX7_sum_10.2.1
theorem dX7_sum_12 : decode cX7_sum 12 = .ok (.iload_n 2, 1) := sdX7_sum_10.2.2.1
theorem dX7_sum_13 : decode cX7_sum 13 = .ok (.iaload, 1) := sdX7_sum_10.2.2.2.1
theorem dX7_sum_14 : decode cX7_sum 14 = .ok (.iadd, 1) := sdX7_sum_10.2.2.2.2.1
theorem dX7_sum_15 : decode cX7_sum 15 = .ok (.istore_n 1, 1) := sdX7_sum_10.2.2.2.2.2.1
theorem dX7_sum_16 : decode cX7_sum 16 = .ok (.iinc 2 1, 3) := sdX7_sum_10.2.2.2.2.2.2.1
theorem dX7_sum_19 : decode cX7_sum 19 = .ok (.goto (-15), 3) := sdX7_sum_10.2.2.2.2.2.2.2.1
theorem sdX7_sum_22 : dz_Seg cX7_sum [(22, .iload_n 1, 1), (23, .ireturn, 1)] := dz_sg _ 22 (by decide +kernel)
theorem dX7_sum_22 : decode cX7_sum 22 = .ok (.iload_n 1, 1) := sdX7_sum_22.1
theorem dX7_sum_23 : decode cX7_sum 23 = .ok (.ireturn, 1) := sdX7_sum_22.2.1
theorem sdX7_lowest_0 : dz_Seg cX7_lowest [(0, .iload_n 0, 1), (1, .iload_n 1, 1), (2, .invokestatic 416, 3), (5, .istore_n 3, 1), (6, .iload_n 2, 1), (7, .ifCond .ne 7, 3), (10, .iload_n 0, 1), (11, .goto 4, 3)] := dz_sg _ 0 (by decide +kernel)
theorem dX7_lowest_0 : decode cX7_lowest 0 = .ok (.iload_n 0, 1) := sdX7_lowest_0.1
theorem dX7_lowest_1 : decode cX7_lowest 1 = .ok (.iload_n 1, 1) := sdX7_lowest_0.2.1
theorem dX7_lowest_2 : decode cX7_lowest 2 = .ok (.invokestatic 416, 3) := sdX7_lowest_0.2.2.1
theorem dX7_lowest_5 : decode cX7_lowest 5 = .ok (.istore_n 3, 1) := sdX7_lowest_0.2.2.2.1
theorem dX7_lowest_6 : decode cX7_lowest 6 = .ok (.iload_n 2, 1) := sdX7_lowest_0.2.2.2.2.1
theorem dX7_lowest_7 : decode cX7_lowest 7 = .ok (.ifCond .ne 7, 3) := sdX7_lowest_0.2.2.2.2.2.1
theorem dX7_lowest_10 : decode cX7_lowest 10 = .ok (.iload_n 0, 1) := sdX7_lowest_0.2.2.2.2.2.2.1
theorem dX7_lowest_11 : decode cX7_lowest 11 = .ok (.goto 4, 3) := sdX7_lowest_0.2.2.2.2.2.2.2.1
theorem sdX7_lowest_14 : dz_Seg cX7_lowest [(14, .iload_n 1, 1), (15, .istore 4, 2), (17, .iload_n 3, 1), (18, .ifCond .ne 8, 3), (21, .iload 4, 2), (23, .goto 7, 3), (26, .iload 4, 2), (28, .iload_n 3, 1)] := dz_sg _ 14 (by decide +kernel)
theorem dX7_lowest_14 : decode cX7_lowest 14 = .ok (.iload_n 1, 1) := sdX7_lowest_14.1
theorem dX7_lowest_15 : decode cX7_lowest 15 = .ok (.istore 4, 2) := sdX7_lowest_14.2.1
theorem dX7_lowest_17 : decode cX7_lowest 17 = .ok (.iload_n 3, 1) := sdX7_lowest_14.2.2.1
theorem dX7_lowest_18 : decode cX7_lowest 18 = .ok (.ifCond .ne 8, 3) := sdX7_lowest_14.2.2.2.1
theorem dX7_lowest_21 : decode cX7_lowest 21 = .ok (.iload 4, 2) := sdX7_lowest_14.2.2.2.2.1
theorem dX7_lowest_23 : decode cX7_lowest 23 = .ok (.goto 7, 3) := sdX7_lowest_14.2.2.2.2.2.1
theorem dX7_lowest_26 : decode cX7_lowest 26 = .ok (.iload 4, 2) := sdX7_lowest_14.2.2.2.2.2.2.1
theorem dX7_lowest_28 : decode cX7_lowest 28 = .ok (.iload_n 3, 1) := sdX7_lowest_14.2.2.2.2.2.2.2.1
theorem sdX7_lowest_29 : dz_Seg cX7_lowest [(29, .idiv, 1), (30, .ireturn, 1)] := dz_sg _ 29 (by decide +kernel)
theorem dX7_lowest_29 : decode cX7_lowest 29 = .ok (.idiv, 1) := sdX7_lowest_29.1
theorem dX7_lowest_30 : decode cX7_lowest 30 = .ok (.ireturn, 1) := sdX7_lowest_29.2.1
theorem sdX7_commonDivisor_0 : dz_Seg cX7_commonDivisor [(0, .iload_n 0, 1), (1, .istore_n 2, 1), (2, .iload_n 1, 1), (3, .istore_n 3, 1), (4, .iconst 0, 1), (5, .istore 4, 2), (7, .iload 4, 2), (9, .bipush 100, 2)] := dz_sg _ 0 (by decide +kernel)
theorem dX7_commonDivisor_0 : decode cX7_commonDivisor 0 = .ok (.iload_n 0, 1) := sdX7_commonDivisor_0.1
theorem dX7_commonDivisor_1 : decode cX7_commonDivisor 1 = .ok (.istore_n 2, 1) := sdX7_commonDivisor_0.2.1
theorem dX7_commonDivisor_2 : decode cX7_commonDivisor 2 = .ok (.iload_n 1, 1) := sdX7_commonDivisor_0.2.2.1
theorem dX7_commonDivisor_3 : decode cX7_commonDivisor 3 = .ok (.istore_n 3, 1) := sdX7_commonDivisor_0.2.2.2.1
theorem dX7_commonDivisor_4 : decode cX7_commonDivisor 4 = .ok (.iconst 0, 1) := sdX7_commonDivisor_0.2.2.2.2.1
theorem dX7_commonDivisor_5 : decode cX7_commonDivisor 5 = .ok (.istore 4, 2) := sdX7_commonDivisor_0.2.2.2.2.2.1
theorem dX7_commonDivisor_7 : decode cX7_commonDivisor 7 = .ok (.iload 4, 2) := sdX7_commonDivisor_0.2.2.2.2.2.2.1
theorem dX7_commonDivisor_9 : decode cX7_commonDivisor 9 = .ok (.bipush 100, 2) := sdX7_commonDivisor_0.2.2.2.2.2.2.2.1
theorem sdX7_commonDivisor_11 : dz_Seg cX7_commonDivisor [(11, .if_icmp .ge 23, 3), (14, .iload_n 3, 1), (15, .ifCond .eq 19, 3), (18, .iload_n 2, 1), (19, .iload_n 3, 1), (20, .irem, 1), (21, .istore 5, 2), (23, .iload_n 3, 1)] := dz_sg _ 11 (by decide +kernel)
theorem dX7_commonDivisor_11 : decode cX7_commonDivisor 11 = .ok (.if_icmp .ge 23, 3) := sdX7_commonDivisor_11.1
theorem dX7_commonDivisor_14 : decode cX7_commonDivisor 14 = .ok (.iload_n 3, 1) := sdX7_commonDivisor_11.2.1
theorem dX7_commonDivisor_15 : decode cX7_commonDivisor 15 = .ok (.ifCond .eq 19, 3) := sdX7_commonDivisor_11.2.2.1
theorem dX7_commonDivisor_18 : decode cX7_commonDivisor 18 = .ok (.iload_n 2, 1) := sdX7_commonDivisor_11.2.2.2.1
theorem dX7_commonDivisor_19 : decode cX7_commonDivisor 19 = .ok (.iload_n 3, 1) := sdX7_commonDivisor_11.2.2.2.2.1
theorem dX7_commonDivisor_20 : decode cX7_commonDivisor 20 = .ok (.irem, 1) := sdX7_commonDivisor_11.2.2.2.2.2.1
theorem dX7_commonDivisor_21 : decode cX7_commonDivisor 21 = .ok (.istore 5, 2) := sdX7_commonDivisor_11.2.2.2.2.2.2.1
theorem dX7_commonDivisor_23 : decode cX7_commonDivisor 23 = .ok (.iload_n 3, 1) := sdX7_commonDivisor_11.2.2.2.2.2.2.2.1
theorem sdX7_commonDivisor_24 : dz_Seg cX7_commonDivisor [(24, .istore_n 2, 1), (25, .iload 5, 2), (27, .istore_n 3, 1), (28, .iinc 4 1, 3), (31, .goto (-24), 3), (34, .iload_n 2, 1), (35, .ireturn, 1)] := dz_sg _ 24 (by decide +kernel)
theorem dX7_commonDivisor_24 : decode cX7_commonDivisor 24 = .ok (.istore_n 2, 1) := sdX7_commonDivisor_24.1
theorem dX7_commonDivisor_25 : decode cX7_commonDivisor 25 = .ok (.iload 5, 2) := sdX7_commonDivisor_24.2.1
theorem dX7_commonDivisor_27 : decode cX7_commonDivisor 27 = .ok (.istore_n 3, 1) := sdX7_commonDivisor_24.2.2.1
theorem dX7_commonDivisor_28 : decode cX7_commonDivisor 28 = .ok (.iinc 4 1, 3) := sdX7_commonDivisor_24.2.2.2.1
theorem dX7_commonDivisor_31 : decode cX7_commonDivisor 31 = .ok (.goto (-24), 3) := sdX7_commonDivisor_24.2.2.2.2.1
theorem dX7_commonDivisor_34 : decode cX7_commonDivisor 34 = .ok (.iload_n 2, 1) := sdX7_commonDivisor_24.2.2.2.2.2.1
theorem dX7_commonDivisor_35 : decode cX7_commonDivisor 35 = .ok (.ireturn, 1) := sdX7_commonDivisor_24.2.2.2.2.2.2.1
theorem sdX8_init_0 : dz_Seg cX8_init [(0, .aload_n 0, 1), (1, .invokespecial 1, 3), (4, .aload_n 0, 1), (5, .bipush 82, 2), (7, .newarray .int, 2), (9, .putfield 7, 3), (12, .aload_n 0, 1), (13, .bipush 82, 2)] := dz_sg _ 0 (by decide +kernel)
theorem dX8_init_0 : decode cX8_init 0 = .ok (.aload_n 0, 1) := sdX8_init_0.1
theorem dX8_init_1 : decode cX8_init 1 = .ok (.invokespecial 1, 3) := sdX8_init_0.2.1
theorem dX8_init_4 : decode cX8_init 4 = .ok (.aload_n 0, 1) := sdX8_init_0.2.2.1
theorem dX8_init_5 : decode cX8_init 5 = .ok (.bipush 82, 2) := sdX8_init_0.2.2.2.1
theorem dX8_init_7 : decode cX8_init 7 = .ok (.newarray .int, 2) := sdX8_init_0.2.2.2.2.1
theorem dX8_init_9 : decode cX8_init 9 = .ok (.putfield 7, 3) := sdX8_init_0.2.2.2.2.2.1
theorem dX8_init_12 : decode cX8_init 12 = .ok (.aload_n 0, 1) := sdX8_init_0.2.2.2.2.2.2.1
theorem dX8_init_13 : decode cX8_init 13 = .ok (.bipush 82, 2) := sdX8_init_0.2.2.2.2.2.2.2.1
theorem sdX8_init_15 : dz_Seg cX8_init [(15, .newarray .int, 2), (17, .putfield 13, 3), (20, .aload_n 0, 1), (21, .bipush 82, 2), (23, .newarray .int, 2), (25, .putfield 16, 3), (28, .aload_n 0, 1), (29, .sipush 656, 3)] := dz_sg _ 15 (by decide +kernel)
theorem dX8_init_15 : decode cX8_init 15 = .ok (.newarray .int, 2) := sdX8_init_15.1
theorem dX8_init_17 : decode cX8_init 17 = .ok (.putfield 13, 3) := sdX8_init_15.2.1
theorem dX8_init_20 : decode cX8_init 20 = .ok (.aload_n 0, 1) := sdX8_init_15.2.2.1
theorem dX8_init_21 : decode cX8_init 21 = .ok (.bipush 82, 2) := sdX8_init_15.2.2.2.1
theorem dX8_init_23 : decode cX8_init 23 = .ok (.newarray .int, 2) := sdX8_init_15.2.2.2.2.1
theorem dX8_init_25 : decode cX8_init 25 = .ok (.putfield 16, 3) := sdX8_init_15.2.2.2.2.2.1
theorem dX8_init_28 : decode cX8_init 28 = .ok (.aload_n 0, 1) := sdX8_init_15.2.2.2.2.2.2.1
theorem dX8_init_29 : decode cX8_init 29 = .ok (.sipush 656, 3) := sdX8_init_15.2.2.2.2.2.2.2.1
theorem sdX8_init_32 : dz_Seg cX8_init [(32, .newarray .int, 2), (34, .putfield 19, 3), (37, .aload_n 0, 1), (38, .bipush 10, 2), (40, .newarray .boolean, 2), (42, .putfield 22, 3), (45, .aload_n 0, 1), (46, .bipush 10, 2)] := dz_sg _ 32 (by decide +kernel)
theorem dX8_init_32 : decode cX8_init 32 = .ok (.newarray .int, 2) := sdX8_init_32.1
theorem dX8_init_34 : decode cX8_init 34 = .ok (.putfield 19, 3) := sdX8_init_32.2.1
theorem dX8_init_37 : decode cX8_init 37 = .ok (.aload_n 0, 1) := sdX8_init_32.2.2.1
theorem dX8_init_38 : decode cX8_init 38 = .ok (.bipush 10, 2) := sdX8_init_32.2.2.2.1
theorem dX8_init_40 : decode cX8_init 40 = .ok (.newarray .boolean, 2) := sdX8_init_32.2.2.2.2.1
theorem dX8_init_42 : decode cX8_init 42 = .ok (.putfield 22, 3) := sdX8_init_32.2.2.2.2.2.1
theorem dX8_init_45 : decode cX8_init 45 = .ok (.aload_n 0, 1) := sdX8_init_32.2.2.2.2.2.2.1
theorem dX8_init_46 : decode cX8_init 46 = .ok (.bipush 10, 2) := sdX8_init_32.2.2.2.2.2.2.2.1
theorem sdX8_init_48 : dz_Seg cX8_init [(48, .newarray .boolean, 2), (50, .putfield 26, 3), (53, .aload_n 0, 1), (54, .sipush 700, 3), (57, .newarray .int, 2), (59, .putfield 29, 3), (62, .aload_n 0, 1), (63, .iconst (-1), 1)] := dz_sg _ 48 (by decide +kernel)
theorem dX8_init_48 : decode cX8_init 48 = .ok (.newarray .boolean, 2) := sdX8_init_48.1
theorem dX8_init_50 : decode cX8_init 50 = .ok (.putfield 26, 3) := sdX8_init_48.2.1
theorem dX8_init_53 : decode cX8_init 53 = .ok (.aload_n 0, 1) := sdX8_init_48.2.2.1
theorem dX8_init_54 : decode cX8_init 54 = .ok (.sipush 700, 3) := sdX8_init_48.2.2.2.1
theorem dX8_init_57 : decode cX8_init 57 = .ok (.newarray .int, 2) := sdX8_init_48.2.2.2.2.1
theorem dX8_init_59 : decode cX8_init 59 = .ok (.putfield 29, 3) := sdX8_init_48.2.2.2.2.2.1
theorem dX8_init_62 : decode cX8_init 62 = .ok (.aload_n 0, 1) := sdX8_init_48.2.2.2.2.2.2.1
theorem dX8_init_63 : decode cX8_init 63 = .ok (.iconst (-1), 1) := sdX8_init_48.2.2.2.2.2.2.2.1
theorem sdX8_init_64 : dz_Seg cX8_init [(64, .putfield 32, 3), (67, .aload_n 0, 1), (68, .iconst (-1), 1), (69, .putfield 36, 3), (72, .aload_n 0, 1), (73, .iconst 5, 1), (74, .newarray .long, 2), (76, .putfield 39, 3)] := dz_sg _ 64 (by decide +kernel)
theorem dX8_init_64 : decode cX8_init 64 = .ok (.putfield 32, 3) := sdX8_init_64.1
theorem dX8_init_67 : decode cX8_init 67 = .ok (.aload_n 0, 1) := sdX8_init_64.2.1
theorem dX8_init_68 : decode cX8_init 68 = .ok (.iconst (-1), 1) := sdX8_init_64.2.2.1
theorem dX8_init_69 : decode cX8_init 69 = .ok (.putfield 36, 3) := sdX8_init_64.2.2.2.1
theorem dX8_init_72 : decode cX8_init 72 = .ok (.aload_n 0, 1) := sdX8_init_64.2.2.2.2.1
theorem dX8_init_73 : decode cX8_init 73 = .ok (.iconst 5, 1) := sdX8_init_64.2.2.2.2.2.1
theorem dX8_init_74 : decode cX8_init 74 = .ok (.newarray .long, 2) := sdX8_init_64.2.2.2.2.2.2.1
theorem dX8_init_76 : decode cX8_init 76 = .ok (.putfield 39, 3) := sdX8_init_64.2.2.2.2.2.2.2.1
theorem sdX8_init_79 : dz_Seg cX8_init [(79, .aload_n 0, 1), (80, .bipush 10, 2), (82, .newarray .long, 2), (84, .putfield 43, 3), (87, .aload_n 0, 1), (88, .iconst 4, 1), (89, .newarray .long, 2), (91, .putfield 46, 3)] := dz_sg _ 79 (by decide +kernel)
theorem dX8_init_79 : decode cX8_init 79 = .ok (.aload_n 0, 1) := sdX8_init_79.1
theorem dX8_init_80 : decode cX8_init 80 = .ok (.bipush 10, 2) := sdX8_init_79.2.1
theorem dX8_init_82 : decode cX8_init 82 = .ok (.newarray .long, 2) := sdX8_init_79.2.2.1
theorem dX8_init_84 : decode cX8_init 84 = .ok (.putfield 43, 3) := sdX8_init_79.2.2.2.1
theorem dX8_init_87 : decode cX8_init 87 = .ok (.aload_n 0, 1) := sdX8_init_79.2.2.2.2.1
theorem dX8_init_88 : decode cX8_init 88 = .ok (.iconst 4, 1) := sdX8_init_79.2.2.2.2.2.1
theorem dX8_init_89 : decode cX8_init 89 = .ok (.newarray .long, 2) := sdX8_init_79.2.2.2.2.2.2.1
theorem dX8_init_91 : decode cX8_init 91 = .ok (.putfield 46, 3) := sdX8_init_79.2.2.2.2.2.2.2.1
theorem sdX8_init_94 : dz_Seg cX8_init [(94, .aload_n 0, 1), (95, .bipush 10, 2), (97, .newarray .int, 2), (99, .putfield 49, 3), (102, .aload_n 0, 1), (103, .bipush 10, 2), (105, .newarray .int, 2), (107, .putfield 52, 3)] := dz_sg _ 94 (by decide +kernel)
theorem dX8_init_94 : decode cX8_init 94 = .ok (.aload_n 0, 1) := sdX8_init_94.1
theorem dX8_init_95 : decode cX8_init 95 = .ok (.bipush 10, 2) := sdX8_init_94.2.1
theorem dX8_init_97 : decode cX8_init 97 = .ok (.newarray .int, 2) := sdX8_init_94.2.2.1
theorem dX8_init_99 : decode cX8_init 99 = .ok (.putfield 49, 3) := sdX8_init_94.2.2.2.1
theorem dX8_init_102 : decode cX8_init 102 = .ok (.aload_n 0, 1) := sdX8_init_94.2.2.2.2.1
theorem dX8_init_103 : decode cX8_init 103 = .ok (.bipush 10, 2) := sdX8_init_94.2.2.2.2.2.1
theorem dX8_init_105 : decode cX8_init 105 = .ok (.newarray .int, 2) := sdX8_init_94.2.2.2.2.2.2.1
theorem dX8_init_107 : decode cX8_init 107 = .ok (.putfield 52, 3) := sdX8_init_94.2.2.2.2.2.2.2.1
theorem sdX8_init_110 : dz_Seg cX8_init [(110, .aload_n 0, 1), (111, .bipush 10, 2), (113, .newarray .int, 2), (115, .putfield 55, 3), (118, .aload_n 0, 1), (119, .bipush 10, 2), (121, .newarray .int, 2), (123, .putfield 58, 3)] := dz_sg _ 110 (by decide +kernel)
theorem dX8_init_110 : decode cX8_init 110 = .ok (.aload_n 0, 1) := sdX8_init_110.1
theorem dX8_init_111 : decode cX8_init 111 = .ok (.bipush 10, 2) := sdX8_init_110.2.1
theorem dX8_init_113 : decode cX8_init 113 = .ok (.newarray .int, 2) := sdX8_init_110.2.2.1
theorem dX8_init_115 : decode cX8_init 115 = .ok (.putfield 55, 3) := sdX8_init_110.2.2.2.1
theorem dX8_init_118 : decode cX8_init 118 = .ok (.aload_n 0, 1) := sdX8_init_110.2.2.2.2.1
theorem dX8_init_119 : decode cX8_init 119 = .ok (.bipush 10, 2) := sdX8_init_110.2.2.2.2.2.1
theorem dX8_init_121 : decode cX8_init 121 = .ok (.newarray .int, 2) := sdX8_init_110.2.2.2.2.2.2.1
theorem dX8_init_123 : decode cX8_init 123 = .ok (.putfield 58, 3) := sdX8_init_110.2.2.2.2.2.2.2.1
theorem sdX8_init_126 : dz_Seg cX8_init [(126, .aload_n 0, 1), (127, .bipush 10, 2), (129, .newarray .int, 2), (131, .putfield 61, 3), (134, .aload_n 0, 1), (135, .bipush 10, 2), (137, .newarray .int, 2), (139, .putfield 64, 3)] := dz_sg _ 126 (by decide +kernel)
theorem dX8_init_126 : decode cX8_init 126 = .ok (.aload_n 0, 1) := sdX8_init_126.1
theorem dX8_init_127 : decode cX8_init 127 = .ok (.bipush 10, 2) := sdX8_init_126.2.1
theorem dX8_init_129 : decode cX8_init 129 = .ok (.newarray .int, 2) := sdX8_init_126.2.2.1
theorem dX8_init_131 : decode cX8_init 131 = .ok (.putfield 61, 3) := sdX8_init_126.2.2.2.1
theorem dX8_init_134 : decode cX8_init 134 = .ok (.aload_n 0, 1) := sdX8_init_126.2.2.2.2.1
theorem dX8_init_135 : decode cX8_init 135 = .ok (.bipush 10, 2) := sdX8_init_126.2.2.2.2.2.1
theorem dX8_init_137 : decode cX8_init 137 = .ok (.newarray .int, 2) := sdX8_init_126.2.2.2.2.2.2.1
theorem dX8_init_139 : decode cX8_init 139 = .ok (.putfield 64, 3) := sdX8_init_126.2.2.2.2.2.2.2.1
theorem sdX8_init_142 : dz_Seg cX8_init [(142, .aload_n 0, 1), (143, .bipush 10, 2), (145, .newarray .int, 2), (147, .putfield 67, 3), (150, .aload_n 0, 1), (151, .bipush 10, 2), (153, .newarray .int, 2), (155, .putfield 70, 3)] := dz_sg _ 142 (by decide +kernel)
theorem dX8_init_142 : decode cX8_init 142 = .ok (.aload_n 0, 1) := sdX8_init_142.1
theorem dX8_init_143 : decode cX8_init 143 = .ok (.bipush 10, 2) := sdX8_init_142.2.1
theorem dX8_init_145 : decode cX8_init 145 = .ok (.newarray .int, 2) := sdX8_init_142.2.2.1
theorem dX8_init_147 : decode cX8_init 147 = .ok (.putfield 67, 3) := sdX8_init_142.2.2.2.1
theorem dX8_init_150 : decode cX8_init 150 = .ok (.aload_n 0, 1) := sdX8_init_142.2.2.2.2.1
theorem dX8_init_151 : decode cX8_init 151 = .ok (.bipush 10, 2) := sdX8_init_142.2.2.2.2.2.1
theorem dX8_init_153 : decode cX8_init 153 = .ok (.newarray .int, 2) := sdX8_init_142.2.2.2.2.2.2.1
theorem dX8_init_155 : decode cX8_init 155 = .ok (.putfield 70, 3) := sdX8_init_142.2.2.2.2.2.2.2.1
theorem sdX8_init_158 : dz_Seg cX8_init [(158, .aload_n 0, 1), (159, .bipush 10, 2), (161, .newarray .int, 2), (163, .putfield 73, 3), (166, .aload_n 0, 1), (167, .bipush 10, 2), (169, .newarray .int, 2), (171, .putfield 76, 3)] := dz_sg _ 158 (by decide +kernel)
theorem dX8_init_158 : decode cX8_init 158 = .ok (.aload_n 0, 1) := sdX8_init_158.1
theorem dX8_init_159 : decode cX8_init 159 = .ok (.bipush 10, 2) := sdX8_init_158.2.1
theorem dX8_init_161 : decode cX8_init 161 = .ok (.newarray .int, 2) := sdX8_init_158.2.2.1
theorem dX8_init_163 : decode cX8_init 163 = .ok (.putfield 73, 3) := sdX8_init_158.2.2.2.1
theorem dX8_init_166 : decode cX8_init 166 = .ok (.aload_n 0, 1) := sdX8_init_158.2.2.2.2.1
theorem dX8_init_167 : decode cX8_init 167 = .ok (.bipush 10, 2) := sdX8_init_158.2.2.2.2.2.1
theorem dX8_init_169 : decode cX8_init 169 = .ok (.newarray .int, 2) := sdX8_init_158.2.2.2.2.2.2.1
theorem dX8_init_171 : decode cX8_init 171 = .ok (.putfield 76, 3) := sdX8_init_158.2.2.2.2.2.2.2.1
theorem sdX8_init_174 : dz_Seg cX8_init [(174, .aload_n 0, 1), (175, .iconst 5, 1), (176, .newarray .int, 2), (178, .putfield 79, 3), (181, .aload_n 0, 1), (182, .iconst 5, 1), (183, .newarray .int, 2), (185, .putfield 82, 3)] := dz_sg _ 174 (by decide +kernel)
theorem dX8_init_174 : decode cX8_init 174 = .ok (.aload_n 0, 1) := sdX8_init_174.1
theorem dX8_init_175 : decode cX8_init 175 = .ok (.iconst 5, 1) := sdX8_init_174.2.1
theorem dX8_init_176 : decode cX8_init 176 = .ok (.newarray .int, 2) := sdX8_init_174.2.2.1
theorem dX8_init_178 : decode cX8_init 178 = .ok (.putfield 79, 3) := sdX8_init_174.2.2.2.1
theorem dX8_init_181 : decode cX8_init 181 = .ok (.aload_n 0, 1) := sdX8_init_174.2.2.2.2.1
theorem dX8_init_182 : decode cX8_init 182 = .ok (.iconst 5, 1) := sdX8_init_174.2.2.2.2.2.1
theorem dX8_init_183 : decode cX8_init 183 = .ok (.newarray .int, 2) := sdX8_init_174.2.2.2.2.2.2.1
theorem dX8_init_185 : decode cX8_init 185 = .ok (.putfield 82, 3) := sdX8_init_174.2.2.2.2.2.2.2.1
theorem sdX8_init_188 : dz_Seg cX8_init [(188, .aload_n 0, 1), (189, .bipush 10, 2), (191, .newarray .int, 2), (193, .putfield 85, 3), (196, .aload_n 0, 1), (197, .bipush 35, 2), (199, .newarray .long, 2), (201, .putfield 88, 3)] := dz_sg _ 188 (by decide +kernel)
theorem dX8_init_188 : decode cX8_init 188 = .ok (.aload_n 0, 1) := sdX8_init_188.1
theorem dX8_init_189 : decode cX8_init 189 = .ok (.bipush 10, 2) := sdX8_init_188.2.1
theorem dX8_init_191 : decode cX8_init 191 = .ok (.newarray .int, 2) := sdX8_init_188.2.2.1
theorem dX8_init_193 : decode cX8_init 193 = .ok (.putfield 85, 3) := sdX8_init_188.2.2.2.1
theorem dX8_init_196 : decode cX8_init 196 = .ok (.aload_n 0, 1) := sdX8_init_188.2.2.2.2.1
theorem dX8_init_197 : decode cX8_init 197 = .ok (.bipush 35, 2) := sdX8_init_188.2.2.2.2.2.1
theorem dX8_init_199 : decode cX8_init 199 = .ok (.newarray .long, 2) := sdX8_init_188.2.2.2.2.2.2.1
theorem dX8_init_201 : decode cX8_init 201 = .ok (.putfield 88, 3) := sdX8_init_188.2.2.2.2.2.2.2.1
theorem sdX8_init_204 : dz_Seg cX8_init [(204, .aload_n 0, 1), (205, .bipush 7, 2), (207, .newarray .long, 2), (209, .putfield 91, 3), (212, .aload_n 0, 1), (213, .bipush 7, 2), (215, .newarray .long, 2), (217, .putfield 94, 3)] := dz_sg _ 204 (by decide +kernel)
theorem dX8_init_204 : decode cX8_init 204 = .ok (.aload_n 0, 1) := sdX8_init_204.1
theorem dX8_init_205 : decode cX8_init 205 = .ok (.bipush 7, 2) := sdX8_init_204.2.1
theorem dX8_init_207 : decode cX8_init 207 = .ok (.newarray .long, 2) := sdX8_init_204.2.2.1
theorem dX8_init_209 : decode cX8_init 209 = .ok (.putfield 91, 3) := sdX8_init_204.2.2.2.1
theorem dX8_init_212 : decode cX8_init 212 = .ok (.aload_n 0, 1) := sdX8_init_204.2.2.2.2.1
theorem dX8_init_213 : decode cX8_init 213 = .ok (.bipush 7, 2) := sdX8_init_204.2.2.2.2.2.1
theorem dX8_init_215 : decode cX8_init 215 = .ok (.newarray .long, 2) := sdX8_init_204.2.2.2.2.2.2.1
theorem dX8_init_217 : decode cX8_init 217 = .ok (.putfield 94, 3) := sdX8_init_204.2.2.2.2.2.2.2.1
theorem sdX8_init_220 : dz_Seg cX8_init [(220, .aload_n 0, 1), (221, .bipush 49, 2), (223, .newarray .long, 2), (225, .putfield 97, 3), (228, .aload_n 0, 1), (229, .iconst 5, 1), (230, .newarray .long, 2), (232, .putfield 100, 3)] := dz_sg _ 220 (by decide +kernel)
theorem dX8_init_220 : decode cX8_init 220 = .ok (.aload_n 0, 1) := sdX8_init_220.1
theorem dX8_init_221 : decode cX8_init 221 = .ok (.bipush 49, 2) := sdX8_init_220.2.1
theorem dX8_init_223 : decode cX8_init 223 = .ok (.newarray .long, 2) := sdX8_init_220.2.2.1
theorem dX8_init_225 : decode cX8_init 225 = .ok (.putfield 97, 3) := sdX8_init_220.2.2.2.1
theorem dX8_init_228 : decode cX8_init 228 = .ok (.aload_n 0, 1) := sdX8_init_220.2.2.2.2.1
theorem dX8_init_229 : decode cX8_init 229 = .ok (.iconst 5, 1) := sdX8_init_220.2.2.2.2.2.1
theorem dX8_init_230 : decode cX8_init 230 = .ok (.newarray .long, 2) := sdX8_init_220.2.2.2.2.2.2.1
theorem dX8_init_232 : decode cX8_init 232 = .ok (.putfield 100, 3) := sdX8_init_220.2.2.2.2.2.2.2.1
theorem sdX8_init_235 : dz_Seg cX8_init [(235, .aload_n 0, 1), (236, .sipush 128, 3), (239, .newarray .boolean, 2), (241, .putfield 103, 3), (244, .aload_n 0, 1), (245, .bipush 10, 2), (247, .newarray .int, 2), (249, .putfield 106, 3)] := dz_sg _ 235 (by decide +kernel)
theorem dX8_init_235 : decode cX8_init 235 = .ok (.aload_n 0, 1) := sdX8_init_235.1
theorem dX8_init_236 : decode cX8_init 236 = .ok (.sipush 128, 3) := sdX8_init_235.2.1
theorem dX8_init_239 : decode cX8_init 239 = .ok (.newarray .boolean, 2) := sdX8_init_235.2.2.1
theorem dX8_init_241 : decode cX8_init 241 = .ok (.putfield 103, 3) := sdX8_init_235.2.2.2.1
theorem dX8_init_244 : decode cX8_init 244 = .ok (.aload_n 0, 1) := sdX8_init_235.2.2.2.2.1
theorem dX8_init_245 : decode cX8_init 245 = .ok (.bipush 10, 2) := sdX8_init_235.2.2.2.2.2.1
theorem dX8_init_247 : decode cX8_init 247 = .ok (.newarray .int, 2) := sdX8_init_235.2.2.2.2.2.2.1
theorem dX8_init_249 : decode cX8_init 249 = .ok (.putfield 106, 3) := sdX8_init_235.2.2.2.2.2.2.2.1
theorem sdX8_init_252 : dz_Seg cX8_init [(252, .aload_n 0, 1), (253, .bipush 10, 2), (255, .newarray .int, 2), (257, .putfield 109, 3), (260, .aload_n 0, 1), (261, .bipush 64, 2), (263, .newarray .int, 2), (265, .putfield 112, 3)] := dz_sg _ 252 (by decide +kernel)
theorem dX8_init_252 : decode cX8_init 252 = .ok (.aload_n 0, 1) := sdX8_init_252.1
theorem dX8_init_253 : decode cX8_init 253 = .ok (.bipush 10, 2) := sdX8_init_252.2.1
theorem dX8_init_255 : decode cX8_init 255 = .ok (.newarray .int, 2) := sdX8_init_252.2.2.1
theorem dX8_init_257 : decode cX8_init 257 = .ok (.putfield 109, 3) := sdX8_init_252.2.2.2.1
theorem dX8_init_260 : decode cX8_init 260 = .ok (.aload_n 0, 1) := sdX8_init_252.2.2.2.2.1
theorem dX8_init_261 : decode cX8_init 261 = .ok (.bipush 64, 2) := sdX8_init_252.2.2.2.2.2.1
theorem dX8_init_263 : decode cX8_init 263 = .ok (.newarray .int, 2) := sdX8_init_252.2.2.2.2.2.2.1
theorem dX8_init_265 : decode cX8_init 265 = .ok (.putfield 112, 3) := sdX8_init_252.2.2.2.2.2.2.2.1
theorem sdX8_init_268 : dz_Seg cX8_init [(268, .aload_n 0, 1), (269, .getfield 7, 3), (272, .invokestatic 115, 3), (275, .return_, 1)] := dz_sg _ 268 (by decide +kernel)
theorem dX8_init_268 : decode cX8_init 268 = .ok (.aload_n 0, 1) := sdX8_init_268.1
theorem dX8_init_269 : decode cX8_init 269 = .ok (.getfield 7, 3) := sdX8_init_268.2.1
theorem dX8_init_272 : decode cX8_init 272 = .ok (.invokestatic 115, 3) := sdX8_init_268.2.2.1
theorem dX8_init_275 : decode cX8_init 275 = .ok (.return_, 1) := sdX8_init_268.2.2.2.1
theorem sdX8_status_0 : dz_Seg cX8_status [(0, .aload_n 0, 1), (1, .iconst 0, 1), (2, .putfield 119, 3), (5, .aload_n 0, 1), (6, .getfield 122, 3), (9, .ireturn, 1)] := dz_sg _ 0 (by decide +kernel)
theorem dX8_status_0 : decode cX8_status 0 = .ok (.aload_n 0, 1) := sdX8_status_0.1
theorem dX8_status_1 : decode cX8_status 1 = .ok (.iconst 0, 1) := sdX8_status_0.2.1
theorem dX8_status_2 : decode cX8_status 2 = .ok (.putfield 119, 3) := sdX8_status_0.2.2.1
theorem dX8_status_5 : decode cX8_status 5 = .ok (.aload_n 0, 1) := sdX8_status_0.2.2.2.1
theorem dX8_status_6 : decode cX8_status 6 = .ok (.getfield 122, 3) := sdX8_status_0.2.2.2.2.1
theorem dX8_status_9 : decode cX8_status 9 = .ok (.ireturn, 1) := sdX8_status_0.2.2.2.2.2.1
theorem sdX8_refuse_0 : dz_Seg cX8_refuse [(0, .aload_n 0, 1), (1, .iconst 0, 1), (2, .putfield 119, 3), (5, .aload_n 0, 1), (6, .iload_n 1, 1), (7, .putfield 122, 3), (10, .iconst (-1), 1), (11, .ireturn, 1)] := dz_sg _ 0 (by decide +kernel)
theorem dX8_refuse_0 : decode cX8_refuse 0 = .ok (.aload_n 0, 1) := sdX8_refuse_0.1
theorem dX8_refuse_1 : decode cX8_refuse 1 = .ok (.iconst 0, 1) := sdX8_refuse_0.2.1
theorem dX8_refuse_2 : decode cX8_refuse 2 = .ok (.putfield 119, 3) := sdX8_refuse_0.2.2.1
theorem dX8_refuse_5 : decode cX8_refuse 5 = .ok (.aload_n 0, 1) := sdX8_refuse_0.2.2.2.1
theorem dX8_refuse_6 : decode cX8_refuse 6 = .ok (.iload_n 1, 1) := sdX8_refuse_0.2.2.2.2.1
theorem dX8_refuse_7 : decode cX8_refuse 7 = .ok (.putfield 122, 3) := sdX8_refuse_0.2.2.2.2.2.1
theorem dX8_refuse_10 : decode cX8_refuse 10 = .ok (.iconst (-1), 1) := sdX8_refuse_0.2.2.2.2.2.2.1
theorem dX8_refuse_11 : decode cX8_refuse 11 = .ok (.ireturn, 1) := sdX8_refuse_0.2.2.2.2.2.2.2.1
theorem sdX8_gives_0 : dz_Seg cX8_gives [(0, .aload_n 0, 1), (1, .iconst 0, 1), (2, .putfield 119, 3), (5, .aload_n 0, 1), (6, .iconst 0, 1), (7, .putfield 122, 3), (10, .iload_n 1, 1), (11, .ireturn, 1)] := dz_sg _ 0 (by decide +kernel)
theorem dX8_gives_0 : decode cX8_gives 0 = .ok (.aload_n 0, 1) := sdX8_gives_0.1
theorem dX8_gives_1 : decode cX8_gives 1 = .ok (.iconst 0, 1) := sdX8_gives_0.2.1
theorem dX8_gives_2 : decode cX8_gives 2 = .ok (.putfield 119, 3) := sdX8_gives_0.2.2.1
theorem dX8_gives_5 : decode cX8_gives 5 = .ok (.aload_n 0, 1) := sdX8_gives_0.2.2.2.1
theorem dX8_gives_6 : decode cX8_gives 6 = .ok (.iconst 0, 1) := sdX8_gives_0.2.2.2.2.1
theorem dX8_gives_7 : decode cX8_gives 7 = .ok (.putfield 122, 3) := sdX8_gives_0.2.2.2.2.2.1
theorem dX8_gives_10 : decode cX8_gives 10 = .ok (.iload_n 1, 1) := sdX8_gives_0.2.2.2.2.2.2.1
theorem dX8_gives_11 : decode cX8_gives 11 = .ok (.ireturn, 1) := sdX8_gives_0.2.2.2.2.2.2.2.1
theorem sdX8_givesLong_0 : dz_Seg cX8_givesLong [(0, .aload_n 0, 1), (1, .iconst 0, 1), (2, .putfield 119, 3), (5, .aload_n 0, 1), (6, .iconst 0, 1), (7, .putfield 122, 3), (10, .lload_n 1, 1), (11, .lreturn, 1)] := dz_sg _ 0 (by decide +kernel)
theorem dX8_givesLong_0 : decode cX8_givesLong 0 = .ok (.aload_n 0, 1) := sdX8_givesLong_0.1
theorem dX8_givesLong_1 : decode cX8_givesLong 1 = .ok (.iconst 0, 1) := sdX8_givesLong_0.2.1
theorem dX8_givesLong_2 : decode cX8_givesLong 2 = .ok (.putfield 119, 3) := sdX8_givesLong_0.2.2.1
theorem dX8_givesLong_5 : decode cX8_givesLong 5 = .ok (.aload_n 0, 1) := sdX8_givesLong_0.2.2.2.1
theorem dX8_givesLong_6 : decode cX8_givesLong 6 = .ok (.iconst 0, 1) := sdX8_givesLong_0.2.2.2.2.1
theorem dX8_givesLong_7 : decode cX8_givesLong 7 = .ok (.putfield 122, 3) := sdX8_givesLong_0.2.2.2.2.2.1
theorem dX8_givesLong_10 : decode cX8_givesLong 10 = .ok (.lload_n 1, 1) := sdX8_givesLong_0.2.2.2.2.2.2.1
theorem dX8_givesLong_11 : decode cX8_givesLong 11 = .ok (.lreturn, 1) := sdX8_givesLong_0.2.2.2.2.2.2.2.1
theorem sdX8_isFrom_0 : dz_Seg cX8_isFrom [(0, .lload_n 0, 1), (1, .lload_n 2, 1), (2, .lcmp, 1), (3, .ifCond .lt 14, 3), (6, .lload_n 0, 1), (7, .lload 4, 2), (9, .lcmp, 1), (10, .ifCond .gt 7, 3)] := dz_sg _ 0 (by decide +kernel)
theorem dX8_isFrom_0 : decode cX8_isFrom 0 = .ok (.lload_n 0, 1) := sdX8_isFrom_0.1
theorem dX8_isFrom_1 : decode cX8_isFrom 1 = .ok (.lload_n 2, 1) := sdX8_isFrom_0.2.1
theorem dX8_isFrom_2 : decode cX8_isFrom 2 = .ok (.lcmp, 1) := sdX8_isFrom_0.2.2.1
theorem dX8_isFrom_3 : decode cX8_isFrom 3 = .ok (.ifCond .lt 14, 3) := sdX8_isFrom_0.2.2.2.1
theorem dX8_isFrom_6 : decode cX8_isFrom 6 = .ok (.lload_n 0, 1) := sdX8_isFrom_0.2.2.2.2.1
theorem dX8_isFrom_7 : decode cX8_isFrom 7 = .ok (.lload 4, 2) := sdX8_isFrom_0.2.2.2.2.2.1
theorem dX8_isFrom_9 : decode cX8_isFrom 9 = .ok (.lcmp, 1) := sdX8_isFrom_0.2.2.2.2.2.2.1
theorem dX8_isFrom_10 : decode cX8_isFrom 10 = .ok (.ifCond .gt 7, 3) := sdX8_isFrom_0.2.2.2.2.2.2.2.1
theorem sdX8_isFrom_13 : dz_Seg cX8_isFrom [(13, .iconst 1, 1), (14, .goto 4, 3), (17, .iconst 0, 1), (18, .ireturn, 1)] := dz_sg _ 13 (by decide +kernel)
theorem dX8_isFrom_13 : decode cX8_isFrom 13 = .ok (.iconst 1, 1) := sdX8_isFrom_13.1
theorem dX8_isFrom_14 : decode cX8_isFrom 14 = .ok (.goto 4, 3) := sdX8_isFrom_13.2.1
theorem dX8_isFrom_17 : decode cX8_isFrom 17 = .ok (.iconst 0, 1) := sdX8_isFrom_13.2.2.1
theorem dX8_isFrom_18 : decode cX8_isFrom 18 = .ok (.ireturn, 1) := sdX8_isFrom_13.2.2.2.1
theorem sdX8_has_0 : dz_Seg cX8_has [(0, .iload_n 0, 1), (1, .iload_n 1, 1), (2, .ishr, 1), (3, .iconst 1, 1), (4, .iand, 1), (5, .iconst 1, 1), (6, .if_icmp .ne 7, 3), (9, .iconst 1, 1)] := dz_sg _ 0 (by decide +kernel)
theorem dX8_has_0 : decode cX8_has 0 = .ok (.iload_n 0, 1) := sdX8_has_0.1
theorem dX8_has_1 : decode cX8_has 1 = .ok (.iload_n 1, 1) := sdX8_has_0.2.1
theorem dX8_has_2 : decode cX8_has 2 = .ok (.ishr, 1) := sdX8_has_0.2.2.1
theorem dX8_has_3 : decode cX8_has 3 = .ok (.iconst 1, 1) := sdX8_has_0.2.2.2.1
theorem dX8_has_4 : decode cX8_has 4 = .ok (.iand, 1) := sdX8_has_0.2.2.2.2.1
theorem dX8_has_5 : decode cX8_has 5 = .ok (.iconst 1, 1) := sdX8_has_0.2.2.2.2.2.1
theorem dX8_has_6 : decode cX8_has 6 = .ok (.if_icmp .ne 7, 3) := sdX8_has_0.2.2.2.2.2.2.1
theorem dX8_has_9 : decode cX8_has 9 = .ok (.iconst 1, 1) := sdX8_has_0.2.2.2.2.2.2.2.1
theorem sdX8_has_10 : dz_Seg cX8_has [(10, .goto 4, 3), (13, .iconst 0, 1), (14, .ireturn, 1)] := dz_sg _ 10 (by decide +kernel)
theorem dX8_has_10 : decode cX8_has 10 = .ok (.goto 4, 3) := sdX8_has_10.1
theorem dX8_has_13 : decode cX8_has 13 = .ok (.iconst 0, 1) := sdX8_has_10.2.1
theorem dX8_has_14 : decode cX8_has 14 = .ok (.ireturn, 1) := sdX8_has_10.2.2.1
theorem sdX8_common_0 : dz_Seg cX8_common [(0, .iload_n 0, 1), (1, .istore_n 2, 1), (2, .iload_n 1, 1), (3, .istore_n 3, 1), (4, .iload_n 3, 1), (5, .ifCond .eq 16, 3), (8, .iload_n 2, 1), (9, .iload_n 3, 1)] := dz_sg _ 0 (by decide +kernel)
theorem dX8_common_0 : decode cX8_common 0 = .ok (.iload_n 0, 1) := sdX8_common_0.1
theorem dX8_common_1 : decode cX8_common 1 = .ok (.istore_n 2, 1) := sdX8_common_0.2.1
theorem dX8_common_2 : decode cX8_common 2 = .ok (.iload_n 1, 1) := sdX8_common_0.2.2.1
theorem dX8_common_3 : decode cX8_common 3 = .ok (.istore_n 3, 1) := sdX8_common_0.2.2.2.1
theorem dX8_common_4 : decode cX8_common 4 = .ok (.iload_n 3, 1) := sdX8_common_0.2.2.2.2.1
theorem dX8_common_5 : decode cX8_common 5 = .ok (.ifCond .eq 16, 3) := sdX8_common_0.2.2.2.2.2.1
theorem dX8_common_8 : decode cX8_common 8 = .ok (.iload_n 2, 1) := sdX8_common_0.2.2.2.2.2.2.1
theorem dX8_common_9 : decode cX8_common 9 = .ok (.iload_n 3, 1) := sdX8_common_0.2.2.2.2.2.2.2.1
theorem sdX8_common_10 : dz_Seg cX8_common [(10, .irem, 1), (11, .istore 4, 2), (13, .iload_n 3, 1), (14, .istore_n 2, 1), (15, .iload 4, 2), (17, .istore_n 3, 1), (18, .goto (-14), 3), (21, .iload_n 2, 1)] := dz_sg _ 10 (by decide +kernel)
theorem dX8_common_10 : decode cX8_common 10 = .ok (.irem, 1) := sdX8_common_10.1
theorem dX8_common_11 : decode cX8_common 11 = .ok (.istore 4, 2) := sdX8_common_10.2.1
theorem dX8_common_13 : decode cX8_common 13 = .ok (.iload_n 3, 1) := sdX8_common_10.2.2.1
theorem dX8_common_14 : decode cX8_common 14 = .ok (.istore_n 2, 1) := sdX8_common_10.2.2.2.1
theorem dX8_common_15 : decode cX8_common 15 = .ok (.iload 4, 2) := sdX8_common_10.2.2.2.2.1
theorem dX8_common_17 : decode cX8_common 17 = .ok (.istore_n 3, 1) := sdX8_common_10.2.2.2.2.2.1
theorem dX8_common_18 : decode cX8_common 18 = .ok (.goto (-14), 3) := sdX8_common_10.2.2.2.2.2.2.1
theorem dX8_common_21 : decode cX8_common 21 = .ok (.iload_n 2, 1) := sdX8_common_10.2.2.2.2.2.2.2.1
theorem sdX8_common_22 : dz_Seg cX8_common [(22, .ireturn, 1)] := dz_sg _ 22 (by decide +kernel)
theorem dX8_common_22 : decode cX8_common 22 = .ok (.ireturn, 1) := sdX8_common_22.1
theorem sdX8_begins_0 : dz_Seg cX8_begins [(0, .iconst 0, 1), (1, .istore_n 1, 1), (2, .iload_n 1, 1), (3, .bipush 82, 2), (5, .if_icmp .ge 13, 3), (8, .aload_n 0, 1), (9, .iload_n 1, 1), (10, .iconst 0, 1)] := dz_sg _ 0 (by decide +kernel)
theorem dX8_begins_0 : decode cX8_begins 0 = .ok (.iconst 0, 1) := sdX8_begins_0.1
theorem dX8_begins_1 : decode cX8_begins 1 = .ok (.istore_n 1, 1) := sdX8_begins_0.2.1
theorem dX8_begins_2 : decode cX8_begins 2 = .ok (.iload_n 1, 1) := sdX8_begins_0.2.2.1
theorem dX8_begins_3 : decode cX8_begins 3 = .ok (.bipush 82, 2) := sdX8_begins_0.2.2.2.1
theorem dX8_begins_5 : decode cX8_begins 5 = .ok (.if_icmp .ge 13, 3) := sdX8_begins_0.2.2.2.2.1
theorem dX8_begins_8 : decode cX8_begins 8 = .ok (.aload_n 0, 1) := sdX8_begins_0.2.2.2.2.2.1
theorem dX8_begins_9 : decode cX8_begins 9 = .ok (.iload_n 1, 1) := sdX8_begins_0.2.2.2.2.2.2.1
theorem dX8_begins_10 : decode cX8_begins 10 = .ok (.iconst 0, 1) := sdX8_begins_0.2.2.2.2.2.2.2.1
theorem sdX8_begins_11 : dz_Seg cX8_begins [(11, .iastore, 1), (12, .iinc 1 1, 3), (15, .goto (-13), 3), (18, .bipush 10, 2), (20, .istore_n 1, 1), (21, .iload_n 1, 1), (22, .bipush 62, 2), (24, .if_icmp .ge 13, 3)] := dz_sg _ 11 (by decide +kernel)
theorem dX8_begins_11 : decode cX8_begins 11 = .ok (.iastore, 1) := sdX8_begins_11.1
theorem dX8_begins_12 : decode cX8_begins 12 = .ok (.iinc 1 1, 3) := sdX8_begins_11.2.1
theorem dX8_begins_15 : decode cX8_begins 15 = .ok (.goto (-13), 3) := sdX8_begins_11.2.2.1
theorem dX8_begins_18 : decode cX8_begins 18 = .ok (.bipush 10, 2) := sdX8_begins_11.2.2.2.1
theorem dX8_begins_20 : decode cX8_begins 20 = .ok (.istore_n 1, 1) := sdX8_begins_11.2.2.2.2.1
theorem dX8_begins_21 : decode cX8_begins 21 = .ok (.iload_n 1, 1) := sdX8_begins_11.2.2.2.2.2.1
theorem dX8_begins_22 : decode cX8_begins 22 = .ok (.bipush 62, 2) := sdX8_begins_11.2.2.2.2.2.2.1
theorem dX8_begins_24 : decode cX8_begins 24 = .ok (.if_icmp .ge 13, 3) := sdX8_begins_11.2.2.2.2.2.2.2.1
theorem sdX8_begins_27 : dz_Seg cX8_begins [(27, .aload_n 0, 1), (28, .iload_n 1, 1), (29, .iconst (-1), 1), (30, .iastore, 1), (31, .iinc 1 1, 3), (34, .goto (-13), 3), (37, .iconst 0, 1), (38, .istore_n 1, 1)] := dz_sg _ 27 (by decide +kernel)
theorem dX8_begins_27 : decode cX8_begins 27 = .ok (.aload_n 0, 1) := sdX8_begins_27.1
theorem dX8_begins_28 : decode cX8_begins 28 = .ok (.iload_n 1, 1) := sdX8_begins_27.2.1
theorem dX8_begins_29 : decode cX8_begins 29 = .ok (.iconst (-1), 1) := sdX8_begins_27.2.2.1
theorem dX8_begins_30 : decode cX8_begins 30 = .ok (.iastore, 1) := sdX8_begins_27.2.2.2.1
theorem dX8_begins_31 : decode cX8_begins 31 = .ok (.iinc 1 1, 3) := sdX8_begins_27.2.2.2.2.1
theorem dX8_begins_34 : decode cX8_begins 34 = .ok (.goto (-13), 3) := sdX8_begins_27.2.2.2.2.2.1
theorem dX8_begins_37 : decode cX8_begins 37 = .ok (.iconst 0, 1) := sdX8_begins_27.2.2.2.2.2.2.1
theorem dX8_begins_38 : decode cX8_begins 38 = .ok (.istore_n 1, 1) := sdX8_begins_27.2.2.2.2.2.2.2.1
theorem sdX8_begins_39 : dz_Seg cX8_begins [(39, .iload_n 1, 1), (40, .bipush 10, 2), (42, .if_icmp .ge 16, 3), (45, .aload_n 0, 1), (46, .bipush 72, 2), (48, .iload_n 1, 1), (49, .iadd, 1), (50, .iconst (-1), 1)] := dz_sg _ 39 (by decide +kernel)
theorem dX8_begins_39 : decode cX8_begins 39 = .ok (.iload_n 1, 1) := sdX8_begins_39.1
theorem dX8_begins_40 : decode cX8_begins 40 = .ok (.bipush 10, 2) := sdX8_begins_39.2.1
theorem dX8_begins_42 : decode cX8_begins 42 = .ok (.if_icmp .ge 16, 3) := sdX8_begins_39.2.2.1
theorem dX8_begins_45 : decode cX8_begins 45 = .ok (.aload_n 0, 1) := sdX8_begins_39.2.2.2.1
theorem dX8_begins_46 : decode cX8_begins 46 = .ok (.bipush 72, 2) := sdX8_begins_39.2.2.2.2.1
theorem dX8_begins_48 : decode cX8_begins 48 = .ok (.iload_n 1, 1) := sdX8_begins_39.2.2.2.2.2.1
theorem dX8_begins_49 : decode cX8_begins 49 = .ok (.iadd, 1) := sdX8_begins_39.2.2.2.2.2.2.1
theorem dX8_begins_50 : decode cX8_begins 50 = .ok (.iconst (-1), 1) := sdX8_begins_39.2.2.2.2.2.2.2.1
theorem sdX8_begins_51 : dz_Seg cX8_begins [(51, .iastore, 1), (52, .iinc 1 1, 3), (55, .goto (-16), 3), (58, .aload_n 0, 1), (59, .bipush 69, 2), (61, .bipush 100, 2), (63, .iastore, 1), (64, .return_, 1)] := dz_sg _ 51 (by decide +kernel)
theorem dX8_begins_51 : decode cX8_begins 51 = .ok (.iastore, 1) := sdX8_begins_51.1
theorem dX8_begins_52 : decode cX8_begins 52 = .ok (.iinc 1 1, 3) := sdX8_begins_51.2.1
theorem dX8_begins_55 : decode cX8_begins 55 = .ok (.goto (-16), 3) := sdX8_begins_51.2.2.1
theorem dX8_begins_58 : decode cX8_begins 58 = .ok (.aload_n 0, 1) := sdX8_begins_51.2.2.2.1
theorem dX8_begins_59 : decode cX8_begins 59 = .ok (.bipush 69, 2) := sdX8_begins_51.2.2.2.2.1
theorem dX8_begins_61 : decode cX8_begins 61 = .ok (.bipush 100, 2) := sdX8_begins_51.2.2.2.2.2.1
theorem dX8_begins_63 : decode cX8_begins 63 = .ok (.iastore, 1) := sdX8_begins_51.2.2.2.2.2.2.1
theorem dX8_begins_64 : decode cX8_begins 64 = .ok (.return_, 1) := sdX8_begins_51.2.2.2.2.2.2.2.1
theorem sdX8_isUnit_0 : dz_Seg cX8_isUnit [(0, .iload_n 1, 1), (1, .i2l, 1), (2, .lconst 0, 1), (3, .aload_n 0, 1), (4, .getfield 125, 3), (7, .iconst 1, 1), (8, .isub, 1), (9, .i2l, 1)] := dz_sg _ 0 (by decide +kernel)
theorem dX8_isUnit_0 : decode cX8_isUnit 0 = .ok (.iload_n 1, 1) := sdX8_isUnit_0.1
theorem dX8_isUnit_1 : decode cX8_isUnit 1 = .ok (.i2l, 1) := sdX8_isUnit_0.2.1
theorem dX8_isUnit_2 : decode cX8_isUnit 2 = .ok (.lconst 0, 1) := sdX8_isUnit_0.2.2.1
theorem dX8_isUnit_3 : decode cX8_isUnit 3 = .ok (.aload_n 0, 1) := sdX8_isUnit_0.2.2.2.1
theorem dX8_isUnit_4 : decode cX8_isUnit 4 = .ok (.getfield 125, 3) := sdX8_isUnit_0.2.2.2.2.1
theorem dX8_isUnit_7 : decode cX8_isUnit 7 = .ok (.iconst 1, 1) := sdX8_isUnit_0.2.2.2.2.2.1
theorem dX8_isUnit_8 : decode cX8_isUnit 8 = .ok (.isub, 1) := sdX8_isUnit_0.2.2.2.2.2.2.1
theorem dX8_isUnit_9 : decode cX8_isUnit 9 = .ok (.i2l, 1) := sdX8_isUnit_0.2.2.2.2.2.2.2.1
theorem sdX8_isUnit_10 : dz_Seg cX8_isUnit [(10, .invokestatic 128, 3), (13, .ireturn, 1)] := dz_sg _ 10 (by decide +kernel)
theorem dX8_isUnit_10 : decode cX8_isUnit 10 = .ok (.invokestatic 128, 3) := sdX8_isUnit_10.1
theorem dX8_isUnit_13 : decode cX8_isUnit 13 = .ok (.ireturn, 1) := sdX8_isUnit_10.2.1
theorem sdX8_isHunter_0 : dz_Seg cX8_isHunter [(0, .iload_n 1, 1), (1, .i2l, 1), (2, .lconst 0, 1), (3, .aload_n 0, 1), (4, .getfield 132, 3), (7, .iconst 1, 1), (8, .isub, 1), (9, .i2l, 1)] := dz_sg _ 0 (by decide +kernel)
theorem dX8_isHunter_0 : decode cX8_isHunter 0 = .ok (.iload_n 1, 1) := sdX8_isHunter_0.1
theorem dX8_isHunter_1 : decode cX8_isHunter 1 = .ok (.i2l, 1) := sdX8_isHunter_0.2.1
theorem dX8_isHunter_2 : decode cX8_isHunter 2 = .ok (.lconst 0, 1) := sdX8_isHunter_0.2.2.1
theorem dX8_isHunter_3 : decode cX8_isHunter 3 = .ok (.aload_n 0, 1) := sdX8_isHunter_0.2.2.2.1
theorem dX8_isHunter_4 : decode cX8_isHunter 4 = .ok (.getfield 132, 3) := sdX8_isHunter_0.2.2.2.2.1
theorem dX8_isHunter_7 : decode cX8_isHunter 7 = .ok (.iconst 1, 1) := sdX8_isHunter_0.2.2.2.2.2.1
theorem dX8_isHunter_8 : decode cX8_isHunter 8 = .ok (.isub, 1) := sdX8_isHunter_0.2.2.2.2.2.2.1
theorem dX8_isHunter_9 : decode cX8_isHunter 9 = .ok (.i2l, 1) := sdX8_isHunter_0.2.2.2.2.2.2.2.1
theorem sdX8_isHunter_10 : dz_Seg cX8_isHunter [(10, .invokestatic 128, 3), (13, .ireturn, 1)] := dz_sg _ 10 (by decide +kernel)
theorem dX8_isHunter_10 : decode cX8_isHunter 10 = .ok (.invokestatic 128, 3) := sdX8_isHunter_10.1
theorem dX8_isHunter_13 : decode cX8_isHunter 13 = .ok (.ireturn, 1) := sdX8_isHunter_10.2.1
theorem sdX8_isParty_0 : dz_Seg cX8_isParty [(0, .iload_n 1, 1), (1, .i2l, 1), (2, .lconst 0, 1), (3, .aload_n 0, 1), (4, .getfield 7, 3), (7, .bipush 70, 2), (9, .iaload, 1), (10, .iconst 1, 1)] := dz_sg _ 0 (by decide +kernel)
theorem dX8_isParty_0 : decode cX8_isParty 0 = .ok (.iload_n 1, 1) := sdX8_isParty_0.1
theorem dX8_isParty_1 : decode cX8_isParty 1 = .ok (.i2l, 1) := sdX8_isParty_0.2.1
theorem dX8_isParty_2 : decode cX8_isParty 2 = .ok (.lconst 0, 1) := sdX8_isParty_0.2.2.1
theorem dX8_isParty_3 : decode cX8_isParty 3 = .ok (.aload_n 0, 1) := sdX8_isParty_0.2.2.2.1
theorem dX8_isParty_4 : decode cX8_isParty 4 = .ok (.getfield 7, 3) := sdX8_isParty_0.2.2.2.2.1
theorem dX8_isParty_7 : decode cX8_isParty 7 = .ok (.bipush 70, 2) := sdX8_isParty_0.2.2.2.2.2.1
theorem dX8_isParty_9 : decode cX8_isParty 9 = .ok (.iaload, 1) := sdX8_isParty_0.2.2.2.2.2.2.1
theorem dX8_isParty_10 : decode cX8_isParty 10 = .ok (.iconst 1, 1) := sdX8_isParty_0.2.2.2.2.2.2.2.1
theorem sdX8_isParty_11 : dz_Seg cX8_isParty [(11, .isub, 1), (12, .i2l, 1), (13, .invokestatic 128, 3), (16, .ireturn, 1)] := dz_sg _ 11 (by decide +kernel)
theorem dX8_isParty_11 : decode cX8_isParty 11 = .ok (.isub, 1) := sdX8_isParty_11.1
theorem dX8_isParty_12 : decode cX8_isParty 12 = .ok (.i2l, 1) := sdX8_isParty_11.2.1
theorem dX8_isParty_13 : decode cX8_isParty 13 = .ok (.invokestatic 128, 3) := sdX8_isParty_11.2.2.1
theorem dX8_isParty_16 : decode cX8_isParty 16 = .ok (.ireturn, 1) := sdX8_isParty_11.2.2.2.1
theorem sdX8_isSeed_0 : dz_Seg cX8_isSeed [(0, .iload_n 0, 1), (1, .i2l, 1), (2, .lconst 0, 1), (3, .ldc2_w 135, 3), (6, .invokestatic 128, 3), (9, .ireturn, 1)] := dz_sg _ 0 (by decide +kernel)
theorem dX8_isSeed_0 : decode cX8_isSeed 0 = .ok (.iload_n 0, 1) := sdX8_isSeed_0.1
theorem dX8_isSeed_1 : decode cX8_isSeed 1 = .ok (.i2l, 1) := sdX8_isSeed_0.2.1
theorem dX8_isSeed_2 : decode cX8_isSeed 2 = .ok (.lconst 0, 1) := sdX8_isSeed_0.2.2.1
theorem dX8_isSeed_3 : decode cX8_isSeed 3 = .ok (.ldc2_w 135, 3) := sdX8_isSeed_0.2.2.2.1
theorem dX8_isSeed_6 : decode cX8_isSeed 6 = .ok (.invokestatic 128, 3) := sdX8_isSeed_0.2.2.2.2.1
theorem dX8_isSeed_9 : decode cX8_isSeed 9 = .ok (.ireturn, 1) := sdX8_isSeed_0.2.2.2.2.2.1
theorem sdX8_come_0 : dz_Seg cX8_come [(0, .bipush 24, 2), (2, .istore_n 2, 1), (3, .iload_n 2, 1), (4, .ifCond .lt 35, 3), (7, .aload_n 0, 1), (8, .getfield 29, 3), (11, .aload_n 0, 1), (12, .getfield 137, 3)] := dz_sg _ 0 (by decide +kernel)
theorem dX8_come_0 : decode cX8_come 0 = .ok (.bipush 24, 2) := sdX8_come_0.1
theorem dX8_come_2 : decode cX8_come 2 = .ok (.istore_n 2, 1) := sdX8_come_0.2.1
theorem dX8_come_3 : decode cX8_come 3 = .ok (.iload_n 2, 1) := sdX8_come_0.2.2.1
theorem dX8_come_4 : decode cX8_come 4 = .ok (.ifCond .lt 35, 3) := sdX8_come_0.2.2.2.1
theorem dX8_come_7 : decode cX8_come 7 = .ok (.aload_n 0, 1) := sdX8_come_0.2.2.2.2.1
theorem dX8_come_8 : decode cX8_come 8 = .ok (.getfield 29, 3) := sdX8_come_0.2.2.2.2.2.1
theorem dX8_come_11 : decode cX8_come 11 = .ok (.aload_n 0, 1) := sdX8_come_0.2.2.2.2.2.2.1
theorem dX8_come_12 : decode cX8_come 12 = .ok (.getfield 137, 3) := sdX8_come_0.2.2.2.2.2.2.2.1
theorem sdX8_come_15 : dz_Seg cX8_come [(15, .iload_n 1, 1), (16, .iload_n 2, 1), (17, .iushr, 1), (18, .sipush 255, 3), (21, .iand, 1), (22, .iastore, 1), (23, .aload_n 0, 1), (24, .dup, 1)] := dz_sg _ 15 (by decide +kernel)
theorem dX8_come_15 : decode cX8_come 15 = .ok (.iload_n 1, 1) := sdX8_come_15.1
theorem dX8_come_16 : decode cX8_come 16 = .ok (.iload_n 2, 1) := sdX8_come_15.2.1
theorem dX8_come_17 : decode cX8_come 17 = .ok (.iushr, 1) := sdX8_come_15.2.2.1
theorem dX8_come_18 : decode cX8_come 18 = .ok (.sipush 255, 3) := sdX8_come_15.2.2.2.1
theorem dX8_come_21 : decode cX8_come 21 = .ok (.iand, 1) := sdX8_come_15.2.2.2.2.1
theorem dX8_come_22 : decode cX8_come 22 = .ok (.iastore, 1) := sdX8_come_15.2.2.2.2.2.1
theorem dX8_come_23 : decode cX8_come 23 = .ok (.aload_n 0, 1) := sdX8_come_15.2.2.2.2.2.2.1
theorem dX8_come_24 : decode cX8_come 24 = .ok (.dup, 1) := sdX8_come_15.2.2.2.2.2.2.2.1
theorem sdX8_come_25 : dz_Seg cX8_come [(25, .getfield 137, 3), (28, .iconst 1, 1), (29, .iadd, 1), (30, .putfield 137, 3), (33, .iinc 2 (-8), 3), (36, .goto (-33), 3), (39, .return_, 1)] := dz_sg _ 25 (by decide +kernel)
theorem dX8_come_25 : decode cX8_come 25 = .ok (.getfield 137, 3) := sdX8_come_25.1
theorem dX8_come_28 : decode cX8_come 28 = .ok (.iconst 1, 1) := sdX8_come_25.2.1
theorem dX8_come_29 : decode cX8_come 29 = .ok (.iadd, 1) := sdX8_come_25.2.2.1
theorem dX8_come_30 : decode cX8_come 30 = .ok (.putfield 137, 3) := sdX8_come_25.2.2.2.1
theorem dX8_come_33 : decode cX8_come 33 = .ok (.iinc 2 (-8), 3) := sdX8_come_25.2.2.2.2.1
theorem dX8_come_36 : decode cX8_come 36 = .ok (.goto (-33), 3) := sdX8_come_25.2.2.2.2.2.1
theorem dX8_come_39 : decode cX8_come 39 = .ok (.return_, 1) := sdX8_come_25.2.2.2.2.2.2.1
theorem sdX8_feed_0 : dz_Seg cX8_feed [(0, .aload_n 0, 1), (1, .iconst 0, 1), (2, .putfield 119, 3), (5, .aload_n 0, 1), (6, .getfield 137, 3), (9, .bipush 20, 2), (11, .iadd, 1), (12, .sipush 700, 3)] := dz_sg _ 0 (by decide +kernel)
theorem dX8_feed_0 : decode cX8_feed 0 = .ok (.aload_n 0, 1) := sdX8_feed_0.1
theorem dX8_feed_1 : decode cX8_feed 1 = .ok (.iconst 0, 1) := sdX8_feed_0.2.1
theorem dX8_feed_2 : decode cX8_feed 2 = .ok (.putfield 119, 3) := sdX8_feed_0.2.2.1
theorem dX8_feed_5 : decode cX8_feed 5 = .ok (.aload_n 0, 1) := sdX8_feed_0.2.2.2.1
theorem dX8_feed_6 : decode cX8_feed 6 = .ok (.getfield 137, 3) := sdX8_feed_0.2.2.2.2.1
theorem dX8_feed_9 : decode cX8_feed 9 = .ok (.bipush 20, 2) := sdX8_feed_0.2.2.2.2.2.1
theorem dX8_feed_11 : decode cX8_feed 11 = .ok (.iadd, 1) := sdX8_feed_0.2.2.2.2.2.2.1
theorem dX8_feed_12 : decode cX8_feed 12 = .ok (.sipush 700, 3) := sdX8_feed_0.2.2.2.2.2.2.2.1
theorem sdX8_feed_15 : dz_Seg cX8_feed [(15, .if_icmp .le 5, 3), (18, .iconst (-1), 1), (19, .ireturn, 1), (20, .aload_n 0, 1), (21, .iload_n 1, 1), (22, .invokevirtual 140, 3), (25, .aload_n 0, 1), (26, .iload_n 2, 1)] := dz_sg _ 15 (by decide +kernel)
theorem dX8_feed_15 : decode cX8_feed 15 = .ok (.if_icmp .le 5, 3) := sdX8_feed_15.1
theorem dX8_feed_18 : decode cX8_feed 18 = .ok (.iconst (-1), 1) := sdX8_feed_15.2.1
theorem dX8_feed_19 : decode cX8_feed 19 = .ok (.ireturn, 1) := sdX8_feed_15.2.2.1
theorem dX8_feed_20 : decode cX8_feed 20 = .ok (.aload_n 0, 1) := sdX8_feed_15.2.2.2.1
theorem dX8_feed_21 : decode cX8_feed 21 = .ok (.iload_n 1, 1) := sdX8_feed_15.2.2.2.2.1
theorem dX8_feed_22 : decode cX8_feed 22 = .ok (.invokevirtual 140, 3) := sdX8_feed_15.2.2.2.2.2.1
theorem dX8_feed_25 : decode cX8_feed 25 = .ok (.aload_n 0, 1) := sdX8_feed_15.2.2.2.2.2.2.1
theorem dX8_feed_26 : decode cX8_feed 26 = .ok (.iload_n 2, 1) := sdX8_feed_15.2.2.2.2.2.2.2.1
theorem sdX8_feed_27 : dz_Seg cX8_feed [(27, .invokevirtual 140, 3), (30, .aload_n 0, 1), (31, .iload_n 3, 1), (32, .invokevirtual 140, 3), (35, .aload_n 0, 1), (36, .iload 4, 2), (38, .invokevirtual 140, 3), (41, .aload_n 0, 1)] := dz_sg _ 27 (by decide +kernel)
theorem dX8_feed_27 : decode cX8_feed 27 = .ok (.invokevirtual 140, 3) := sdX8_feed_27.1
theorem dX8_feed_30 : decode cX8_feed 30 = .ok (.aload_n 0, 1) := sdX8_feed_27.2.1
theorem dX8_feed_31 : decode cX8_feed 31 = .ok (.iload_n 3, 1) := sdX8_feed_27.2.2.1
theorem dX8_feed_32 : decode cX8_feed 32 = .ok (.invokevirtual 140, 3) := sdX8_feed_27.2.2.2.1
theorem dX8_feed_35 : decode cX8_feed 35 = .ok (.aload_n 0, 1) := sdX8_feed_27.2.2.2.2.1
theorem dX8_feed_36 : decode cX8_feed 36 = .ok (.iload 4, 2) := sdX8_feed_27.2.2.2.2.2.1
theorem dX8_feed_38 : decode cX8_feed 38 = .ok (.invokevirtual 140, 3) := sdX8_feed_27.2.2.2.2.2.2.1
theorem dX8_feed_41 : decode cX8_feed 41 = .ok (.aload_n 0, 1) := sdX8_feed_27.2.2.2.2.2.2.2.1
