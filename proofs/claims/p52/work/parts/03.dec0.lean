theorem sdX0_init_0 : dz_Seg cX0_init [(0, .aload_n 0, 1), (1, .invokespecial 3, 3), (4, .aload_n 0, 1), (5, .sipush 128, 3), (8, .newarray .long, 2), (10, .putfield 9, 3), (13, .aload_n 0, 1), (14, .sipush 128, 3)] := dz_sg _ 0 (by decide +kernel)
theorem dX0_init_0 : decode cX0_init 0 = .ok (.aload_n 0, 1) := sdX0_init_0.1
theorem dX0_init_1 : decode cX0_init 1 = .ok (.invokespecial 3, 3) := sdX0_init_0.2.1
theorem dX0_init_4 : decode cX0_init 4 = .ok (.aload_n 0, 1) := sdX0_init_0.2.2.1
theorem dX0_init_5 : decode cX0_init 5 = .ok (.sipush 128, 3) := sdX0_init_0.2.2.2.1
theorem dX0_init_8 : decode cX0_init 8 = .ok (.newarray .long, 2) := sdX0_init_0.2.2.2.2.1
theorem dX0_init_10 : decode cX0_init 10 = .ok (.putfield 9, 3) := sdX0_init_0.2.2.2.2.2.1
theorem dX0_init_13 : decode cX0_init 13 = .ok (.aload_n 0, 1) := sdX0_init_0.2.2.2.2.2.2.1
theorem dX0_init_14 : decode cX0_init 14 = .ok (.sipush 128, 3) := sdX0_init_0.2.2.2.2.2.2.2.1
theorem sdX0_init_17 : dz_Seg cX0_init [(17, .newarray .int, 2), (19, .putfield 15, 3), (22, .aload_n 0, 1), (23, .bipush 35, 2), (25, .newarray .long, 2), (27, .putfield 19, 3), (30, .aload_n 0, 1), (31, .bipush 7, 2)] := dz_sg _ 17 (by decide +kernel)
theorem dX0_init_17 : decode cX0_init 17 = .ok (.newarray .int, 2) := sdX0_init_17.1
theorem dX0_init_19 : decode cX0_init 19 = .ok (.putfield 15, 3) := sdX0_init_17.2.1
theorem dX0_init_22 : decode cX0_init 22 = .ok (.aload_n 0, 1) := sdX0_init_17.2.2.1
theorem dX0_init_23 : decode cX0_init 23 = .ok (.bipush 35, 2) := sdX0_init_17.2.2.2.1
theorem dX0_init_25 : decode cX0_init 25 = .ok (.newarray .long, 2) := sdX0_init_17.2.2.2.2.1
theorem dX0_init_27 : decode cX0_init 27 = .ok (.putfield 19, 3) := sdX0_init_17.2.2.2.2.2.1
theorem dX0_init_30 : decode cX0_init 30 = .ok (.aload_n 0, 1) := sdX0_init_17.2.2.2.2.2.2.1
theorem dX0_init_31 : decode cX0_init 31 = .ok (.bipush 7, 2) := sdX0_init_17.2.2.2.2.2.2.2.1
theorem sdX0_init_33 : dz_Seg cX0_init [(33, .newarray .long, 2), (35, .putfield 22, 3), (38, .aload_n 0, 1), (39, .new 25, 3), (42, .dup, 1), (43, .invokespecial 27, 3), (46, .putfield 28, 3), (49, .return_, 1)] := dz_sg _ 33 (by decide +kernel)
theorem dX0_init_33 : decode cX0_init 33 = .ok (.newarray .long, 2) := sdX0_init_33.1
theorem dX0_init_35 : decode cX0_init 35 = .ok (.putfield 22, 3) := sdX0_init_33.2.1
theorem dX0_init_38 : decode cX0_init 38 = .ok (.aload_n 0, 1) := sdX0_init_33.2.2.1
theorem dX0_init_39 : decode cX0_init 39 = .ok (.new 25, 3) := sdX0_init_33.2.2.2.1
theorem dX0_init_42 : decode cX0_init 42 = .ok (.dup, 1) := sdX0_init_33.2.2.2.2.1
theorem dX0_init_43 : decode cX0_init 43 = .ok (.invokespecial 27, 3) := sdX0_init_33.2.2.2.2.2.1
theorem dX0_init_46 : decode cX0_init 46 = .ok (.putfield 28, 3) := sdX0_init_33.2.2.2.2.2.2.1
theorem dX0_init_49 : decode cX0_init 49 = .ok (.return_, 1) := sdX0_init_33.2.2.2.2.2.2.2.1
theorem sdX1_init_0 : dz_Seg cX1_init [(0, .aload_n 0, 1), (1, .invokespecial 3, 3), (4, .aload_n 0, 1), (5, .bipush 8, 2), (7, .anewarray 9, 3), (10, .putfield 11, 3), (13, .iconst 0, 1), (14, .istore_n 1, 1)] := dz_sg _ 0 (by decide +kernel)
theorem dX1_init_0 : decode cX1_init 0 = .ok (.aload_n 0, 1) := sdX1_init_0.1
theorem dX1_init_1 : decode cX1_init 1 = .ok (.invokespecial 3, 3) := sdX1_init_0.2.1
theorem dX1_init_4 : decode cX1_init 4 = .ok (.aload_n 0, 1) := sdX1_init_0.2.2.1
theorem dX1_init_5 : decode cX1_init 5 = .ok (.bipush 8, 2) := sdX1_init_0.2.2.2.1
theorem dX1_init_7 : decode cX1_init 7 = .ok (.anewarray 9, 3) := sdX1_init_0.2.2.2.2.1
theorem dX1_init_10 : decode cX1_init 10 = .ok (.putfield 11, 3) := sdX1_init_0.2.2.2.2.2.1
theorem dX1_init_13 : decode cX1_init 13 = .ok (.iconst 0, 1) := sdX1_init_0.2.2.2.2.2.2.1
theorem dX1_init_14 : decode cX1_init 14 = .ok (.istore_n 1, 1) := sdX1_init_0.2.2.2.2.2.2.2.1
theorem sdX1_init_15 : dz_Seg cX1_init [(15, .iload_n 1, 1), (16, .aload_n 0, 1), (17, .getfield 11, 3), (20, .arraylength, 1), (21, .if_icmp .ge 22, 3), (24, .aload_n 0, 1), (25, .getfield 11, 3), (28, .iload_n 1, 1)] := dz_sg _ 15 (by decide +kernel)
theorem dX1_init_15 : decode cX1_init 15 = .ok (.iload_n 1, 1) := sdX1_init_15.1
theorem dX1_init_16 : decode cX1_init 16 = .ok (.aload_n 0, 1) := sdX1_init_15.2.1
theorem dX1_init_17 : decode cX1_init 17 = .ok (.getfield 11, 3) := sdX1_init_15.2.2.1
theorem dX1_init_20 : decode cX1_init 20 = .ok (.arraylength, 1) := sdX1_init_15.2.2.2.1
theorem dX1_init_21 : decode cX1_init 21 = .ok (.if_icmp .ge 22, 3) := sdX1_init_15.2.2.2.2.1
theorem dX1_init_24 : decode cX1_init 24 = .ok (.aload_n 0, 1) := sdX1_init_15.2.2.2.2.2.1
theorem dX1_init_25 : decode cX1_init 25 = .ok (.getfield 11, 3) := sdX1_init_15.2.2.2.2.2.2.1
theorem dX1_init_28 : decode cX1_init 28 = .ok (.iload_n 1, 1) := sdX1_init_15.2.2.2.2.2.2.2.1
theorem sdX1_init_29 : dz_Seg cX1_init [(29, .new 9, 3), (32, .dup, 1), (33, .invokespecial 17, 3), (36, .aastore, 1), (37, .iinc 1 1, 3), (40, .goto (-25), 3), (43, .return_, 1)] := dz_sg _ 29 (by decide +kernel)
theorem dX1_init_29 : decode cX1_init 29 = .ok (.new 9, 3) := sdX1_init_29.1
theorem dX1_init_32 : decode cX1_init 32 = .ok (.dup, 1) := sdX1_init_29.2.1
theorem dX1_init_33 : decode cX1_init 33 = .ok (.invokespecial 17, 3) := sdX1_init_29.2.2.1
theorem dX1_init_36 : decode cX1_init 36 = .ok (.aastore, 1) := sdX1_init_29.2.2.2.1
theorem dX1_init_37 : decode cX1_init 37 = .ok (.iinc 1 1, 3) := sdX1_init_29.2.2.2.2.1
theorem dX1_init_40 : decode cX1_init 40 = .ok (.goto (-25), 3) := sdX1_init_29.2.2.2.2.2.1
theorem dX1_init_43 : decode cX1_init 43 = .ok (.return_, 1) := sdX1_init_29.2.2.2.2.2.2.1
theorem sdX1_forget_0 : dz_Seg cX1_forget [(0, .aload_n 0, 1), (1, .iconst 0, 1), (2, .putfield 18, 3), (5, .return_, 1)] := dz_sg _ 0 (by decide +kernel)
theorem dX1_forget_0 : decode cX1_forget 0 = .ok (.aload_n 0, 1) := sdX1_forget_0.1
theorem dX1_forget_1 : decode cX1_forget 1 = .ok (.iconst 0, 1) := sdX1_forget_0.2.1
theorem dX1_forget_2 : decode cX1_forget 2 = .ok (.putfield 18, 3) := sdX1_forget_0.2.2.1
theorem dX1_forget_5 : decode cX1_forget 5 = .ok (.return_, 1) := sdX1_forget_0.2.2.2.1
theorem sdX2_init_0 : dz_Seg cX2_init [(0, .aload_n 0, 1), (1, .invokespecial 3, 3), (4, .aload_n 0, 1), (5, .iconst 5, 1), (6, .newarray .int, 2), (8, .putfield 9, 3), (11, .aload_n 0, 1), (12, .iconst 5, 1)] := dz_sg _ 0 (by decide +kernel)
theorem dX2_init_0 : decode cX2_init 0 = .ok (.aload_n 0, 1) := sdX2_init_0.1
theorem dX2_init_1 : decode cX2_init 1 = .ok (.invokespecial 3, 3) := sdX2_init_0.2.1
theorem dX2_init_4 : decode cX2_init 4 = .ok (.aload_n 0, 1) := sdX2_init_0.2.2.1
theorem dX2_init_5 : decode cX2_init 5 = .ok (.iconst 5, 1) := sdX2_init_0.2.2.2.1
theorem dX2_init_6 : decode cX2_init 6 = .ok (.newarray .int, 2) := sdX2_init_0.2.2.2.2.1
theorem dX2_init_8 : decode cX2_init 8 = .ok (.putfield 9, 3) := sdX2_init_0.2.2.2.2.2.1
theorem dX2_init_11 : decode cX2_init 11 = .ok (.aload_n 0, 1) := sdX2_init_0.2.2.2.2.2.2.1
theorem dX2_init_12 : decode cX2_init 12 = .ok (.iconst 5, 1) := sdX2_init_0.2.2.2.2.2.2.2.1
theorem sdX2_init_13 : dz_Seg cX2_init [(13, .newarray .int, 2), (15, .putfield 15, 3), (18, .aload_n 0, 1), (19, .iconst 5, 1), (20, .newarray .int, 2), (22, .putfield 18, 3), (25, .aload_n 0, 1), (26, .bipush 10, 2)] := dz_sg _ 13 (by decide +kernel)
theorem dX2_init_13 : decode cX2_init 13 = .ok (.newarray .int, 2) := sdX2_init_13.1
theorem dX2_init_15 : decode cX2_init 15 = .ok (.putfield 15, 3) := sdX2_init_13.2.1
theorem dX2_init_18 : decode cX2_init 18 = .ok (.aload_n 0, 1) := sdX2_init_13.2.2.1
theorem dX2_init_19 : decode cX2_init 19 = .ok (.iconst 5, 1) := sdX2_init_13.2.2.2.1
theorem dX2_init_20 : decode cX2_init 20 = .ok (.newarray .int, 2) := sdX2_init_13.2.2.2.2.1
theorem dX2_init_22 : decode cX2_init 22 = .ok (.putfield 18, 3) := sdX2_init_13.2.2.2.2.2.1
theorem dX2_init_25 : decode cX2_init 25 = .ok (.aload_n 0, 1) := sdX2_init_13.2.2.2.2.2.2.1
theorem dX2_init_26 : decode cX2_init 26 = .ok (.bipush 10, 2) := sdX2_init_13.2.2.2.2.2.2.2.1
theorem sdX2_init_28 : dz_Seg cX2_init [(28, .newarray .int, 2), (30, .putfield 21, 3), (33, .aload_n 0, 1), (34, .bipush 10, 2), (36, .newarray .int, 2), (38, .putfield 24, 3), (41, .aload_n 0, 1), (42, .bipush 10, 2)] := dz_sg _ 28 (by decide +kernel)
theorem dX2_init_28 : decode cX2_init 28 = .ok (.newarray .int, 2) := sdX2_init_28.1
theorem dX2_init_30 : decode cX2_init 30 = .ok (.putfield 21, 3) := sdX2_init_28.2.1
theorem dX2_init_33 : decode cX2_init 33 = .ok (.aload_n 0, 1) := sdX2_init_28.2.2.1
theorem dX2_init_34 : decode cX2_init 34 = .ok (.bipush 10, 2) := sdX2_init_28.2.2.2.1
theorem dX2_init_36 : decode cX2_init 36 = .ok (.newarray .int, 2) := sdX2_init_28.2.2.2.2.1
theorem dX2_init_38 : decode cX2_init 38 = .ok (.putfield 24, 3) := sdX2_init_28.2.2.2.2.2.1
theorem dX2_init_41 : decode cX2_init 41 = .ok (.aload_n 0, 1) := sdX2_init_28.2.2.2.2.2.2.1
theorem dX2_init_42 : decode cX2_init 42 = .ok (.bipush 10, 2) := sdX2_init_28.2.2.2.2.2.2.2.1
theorem sdX2_init_44 : dz_Seg cX2_init [(44, .newarray .int, 2), (46, .putfield 27, 3), (49, .aload_n 0, 1), (50, .bipush 10, 2), (52, .newarray .int, 2), (54, .putfield 30, 3), (57, .aload_n 0, 1), (58, .bipush 10, 2)] := dz_sg _ 44 (by decide +kernel)
theorem dX2_init_44 : decode cX2_init 44 = .ok (.newarray .int, 2) := sdX2_init_44.1
theorem dX2_init_46 : decode cX2_init 46 = .ok (.putfield 27, 3) := sdX2_init_44.2.1
theorem dX2_init_49 : decode cX2_init 49 = .ok (.aload_n 0, 1) := sdX2_init_44.2.2.1
theorem dX2_init_50 : decode cX2_init 50 = .ok (.bipush 10, 2) := sdX2_init_44.2.2.2.1
theorem dX2_init_52 : decode cX2_init 52 = .ok (.newarray .int, 2) := sdX2_init_44.2.2.2.2.1
theorem dX2_init_54 : decode cX2_init 54 = .ok (.putfield 30, 3) := sdX2_init_44.2.2.2.2.2.1
theorem dX2_init_57 : decode cX2_init 57 = .ok (.aload_n 0, 1) := sdX2_init_44.2.2.2.2.2.2.1
theorem dX2_init_58 : decode cX2_init 58 = .ok (.bipush 10, 2) := sdX2_init_44.2.2.2.2.2.2.2.1
theorem sdX2_init_60 : dz_Seg cX2_init [(60, .newarray .int, 2), (62, .putfield 33, 3), (65, .aload_n 0, 1), (66, .bipush 10, 2), (68, .newarray .int, 2), (70, .putfield 36, 3), (73, .aload_n 0, 1), (74, .bipush 10, 2)] := dz_sg _ 60 (by decide +kernel)
theorem dX2_init_60 : decode cX2_init 60 = .ok (.newarray .int, 2) := sdX2_init_60.1
theorem dX2_init_62 : decode cX2_init 62 = .ok (.putfield 33, 3) := sdX2_init_60.2.1
theorem dX2_init_65 : decode cX2_init 65 = .ok (.aload_n 0, 1) := sdX2_init_60.2.2.1
theorem dX2_init_66 : decode cX2_init 66 = .ok (.bipush 10, 2) := sdX2_init_60.2.2.2.1
theorem dX2_init_68 : decode cX2_init 68 = .ok (.newarray .int, 2) := sdX2_init_60.2.2.2.2.1
theorem dX2_init_70 : decode cX2_init 70 = .ok (.putfield 36, 3) := sdX2_init_60.2.2.2.2.2.1
theorem dX2_init_73 : decode cX2_init 73 = .ok (.aload_n 0, 1) := sdX2_init_60.2.2.2.2.2.2.1
theorem dX2_init_74 : decode cX2_init 74 = .ok (.bipush 10, 2) := sdX2_init_60.2.2.2.2.2.2.2.1
theorem sdX2_init_76 : dz_Seg cX2_init [(76, .newarray .int, 2), (78, .putfield 39, 3), (81, .aload_n 0, 1), (82, .bipush 10, 2), (84, .newarray .int, 2), (86, .putfield 42, 3), (89, .aload_n 0, 1), (90, .bipush 30, 2)] := dz_sg _ 76 (by decide +kernel)
theorem dX2_init_76 : decode cX2_init 76 = .ok (.newarray .int, 2) := sdX2_init_76.1
theorem dX2_init_78 : decode cX2_init 78 = .ok (.putfield 39, 3) := sdX2_init_76.2.1
theorem dX2_init_81 : decode cX2_init 81 = .ok (.aload_n 0, 1) := sdX2_init_76.2.2.1
theorem dX2_init_82 : decode cX2_init 82 = .ok (.bipush 10, 2) := sdX2_init_76.2.2.2.1
theorem dX2_init_84 : decode cX2_init 84 = .ok (.newarray .int, 2) := sdX2_init_76.2.2.2.2.1
theorem dX2_init_86 : decode cX2_init 86 = .ok (.putfield 42, 3) := sdX2_init_76.2.2.2.2.2.1
theorem dX2_init_89 : decode cX2_init 89 = .ok (.aload_n 0, 1) := sdX2_init_76.2.2.2.2.2.2.1
theorem dX2_init_90 : decode cX2_init 90 = .ok (.bipush 30, 2) := sdX2_init_76.2.2.2.2.2.2.2.1
theorem sdX2_init_92 : dz_Seg cX2_init [(92, .newarray .int, 2), (94, .putfield 45, 3), (97, .return_, 1)] := dz_sg _ 92 (by decide +kernel)
theorem dX2_init_92 : decode cX2_init 92 = .ok (.newarray .int, 2) := sdX2_init_92.1
theorem dX2_init_94 : decode cX2_init 94 = .ok (.putfield 45, 3) := sdX2_init_92.2.1
theorem dX2_init_97 : decode cX2_init 97 = .ok (.return_, 1) := sdX2_init_92.2.2.1
theorem sdX2_gather_0 : dz_Seg cX2_gather [(0, .aload_n 0, 1), (1, .aload_n 1, 1), (2, .invokevirtual 48, 3), (5, .aload_n 0, 1), (6, .iconst 0, 1), (7, .putfield 52, 3), (10, .iconst 0, 1), (11, .istore_n 2, 1)] := dz_sg _ 0 (by decide +kernel)
theorem dX2_gather_0 : decode cX2_gather 0 = .ok (.aload_n 0, 1) := sdX2_gather_0.1
theorem dX2_gather_1 : decode cX2_gather 1 = .ok (.aload_n 1, 1) := sdX2_gather_0.2.1
theorem dX2_gather_2 : decode cX2_gather 2 = .ok (.invokevirtual 48, 3) := sdX2_gather_0.2.2.1
theorem dX2_gather_5 : decode cX2_gather 5 = .ok (.aload_n 0, 1) := sdX2_gather_0.2.2.2.1
theorem dX2_gather_6 : decode cX2_gather 6 = .ok (.iconst 0, 1) := sdX2_gather_0.2.2.2.2.1
theorem dX2_gather_7 : decode cX2_gather 7 = .ok (.putfield 52, 3) := sdX2_gather_0.2.2.2.2.2.1
theorem dX2_gather_10 : decode cX2_gather 10 = .ok (.iconst 0, 1) := sdX2_gather_0.2.2.2.2.2.2.1
theorem dX2_gather_11 : decode cX2_gather 11 = .ok (.istore_n 2, 1) := sdX2_gather_0.2.2.2.2.2.2.2.1
theorem sdX2_gather_12 : dz_Seg cX2_gather [(12, .iload_n 2, 1), (13, .aload_n 1, 1), (14, .getfield 56, 3), (17, .if_icmp .ge 32, 3), (20, .aload_n 1, 1), (21, .getfield 61, 3), (24, .iload_n 2, 1), (25, .invokestatic 62, 3)] := dz_sg _ 12 (by decide +kernel)
theorem dX2_gather_12 : decode cX2_gather 12 = .ok (.iload_n 2, 1) := sdX2_gather_12.1
theorem dX2_gather_13 : decode cX2_gather 13 = .ok (.aload_n 1, 1) := sdX2_gather_12.2.1
theorem dX2_gather_14 : decode cX2_gather 14 = .ok (.getfield 56, 3) := sdX2_gather_12.2.2.1
theorem dX2_gather_17 : decode cX2_gather 17 = .ok (.if_icmp .ge 32, 3) := sdX2_gather_12.2.2.2.1
theorem dX2_gather_20 : decode cX2_gather 20 = .ok (.aload_n 1, 1) := sdX2_gather_12.2.2.2.2.1
theorem dX2_gather_21 : decode cX2_gather 21 = .ok (.getfield 61, 3) := sdX2_gather_12.2.2.2.2.2.1
theorem dX2_gather_24 : decode cX2_gather 24 = .ok (.iload_n 2, 1) := sdX2_gather_12.2.2.2.2.2.2.1
theorem dX2_gather_25 : decode cX2_gather 25 = .ok (.invokestatic 62, 3) := sdX2_gather_12.2.2.2.2.2.2.2.1
theorem sdX2_gather_28 : dz_Seg cX2_gather [(28, .iconst (-1), 1), (29, .if_icmp .ne 14, 3), (32, .aload_n 0, 1), (33, .iconst (-1), 1), (34, .invokevirtual 66, 3), (37, .aload_n 0, 1), (38, .aload_n 1, 1), (39, .iload_n 2, 1)] := dz_sg _ 28 (by decide +kernel)
theorem dX2_gather_28 : decode cX2_gather 28 = .ok (.iconst (-1), 1) := sdX2_gather_28.1
theorem dX2_gather_29 : decode cX2_gather 29 = .ok (.if_icmp .ne 14, 3) := sdX2_gather_28.2.1
theorem dX2_gather_32 : decode cX2_gather 32 = .ok (.aload_n 0, 1) := sdX2_gather_28.2.2.1
theorem dX2_gather_33 : decode cX2_gather 33 = .ok (.iconst (-1), 1) := sdX2_gather_28.2.2.2.1
theorem dX2_gather_34 : decode cX2_gather 34 = .ok (.invokevirtual 66, 3) := sdX2_gather_28.2.2.2.2.1
theorem dX2_gather_37 : decode cX2_gather 37 = .ok (.aload_n 0, 1) := sdX2_gather_28.2.2.2.2.2.1
theorem dX2_gather_38 : decode cX2_gather 38 = .ok (.aload_n 1, 1) := sdX2_gather_28.2.2.2.2.2.2.1
theorem dX2_gather_39 : decode cX2_gather 39 = .ok (.iload_n 2, 1) := sdX2_gather_28.2.2.2.2.2.2.2.1
theorem sdX2_gather_40 : dz_Seg cX2_gather [(40, .invokevirtual 70, 3), (43, .iinc 2 1, 3), (46, .goto (-34), 3), (49, .iconst 0, 1), (50, .istore_n 2, 1), (51, .iload_n 2, 1), (52, .aload_n 1, 1), (53, .getfield 74, 3)] := dz_sg _ 40 (by decide +kernel)
theorem dX2_gather_40 : decode cX2_gather 40 = .ok (.invokevirtual 70, 3) := sdX2_gather_40.1
theorem dX2_gather_43 : decode cX2_gather 43 = .ok (.iinc 2 1, 3) := sdX2_gather_40.2.1
theorem dX2_gather_46 : decode cX2_gather 46 = .ok (.goto (-34), 3) := sdX2_gather_40.2.2.1
theorem dX2_gather_49 : decode cX2_gather 49 = .ok (.iconst 0, 1) := sdX2_gather_40.2.2.2.1
theorem dX2_gather_50 : decode cX2_gather 50 = .ok (.istore_n 2, 1) := sdX2_gather_40.2.2.2.2.1
theorem dX2_gather_51 : decode cX2_gather 51 = .ok (.iload_n 2, 1) := sdX2_gather_40.2.2.2.2.2.1
theorem dX2_gather_52 : decode cX2_gather 52 = .ok (.aload_n 1, 1) := sdX2_gather_40.2.2.2.2.2.2.1
theorem dX2_gather_53 : decode cX2_gather 53 = .ok (.getfield 74, 3) := sdX2_gather_40.2.2.2.2.2.2.2.1
theorem sdX2_gather_56 : dz_Seg cX2_gather [(56, .if_icmp .ge 48, 3), (59, .aload_n 0, 1), (60, .iload_n 2, 1), (61, .invokevirtual 66, 3), (64, .iconst 0, 1), (65, .istore_n 3, 1), (66, .iload_n 3, 1), (67, .aload_n 1, 1)] := dz_sg _ 56 (by decide +kernel)
theorem dX2_gather_56 : decode cX2_gather 56 = .ok (.if_icmp .ge 48, 3) := sdX2_gather_56.1
theorem dX2_gather_59 : decode cX2_gather 59 = .ok (.aload_n 0, 1) := sdX2_gather_56.2.1
theorem dX2_gather_60 : decode cX2_gather 60 = .ok (.iload_n 2, 1) := sdX2_gather_56.2.2.1
theorem dX2_gather_61 : decode cX2_gather 61 = .ok (.invokevirtual 66, 3) := sdX2_gather_56.2.2.2.1
theorem dX2_gather_64 : decode cX2_gather 64 = .ok (.iconst 0, 1) := sdX2_gather_56.2.2.2.2.1
theorem dX2_gather_65 : decode cX2_gather 65 = .ok (.istore_n 3, 1) := sdX2_gather_56.2.2.2.2.2.1
theorem dX2_gather_66 : decode cX2_gather 66 = .ok (.iload_n 3, 1) := sdX2_gather_56.2.2.2.2.2.2.1
theorem dX2_gather_67 : decode cX2_gather 67 = .ok (.aload_n 1, 1) := sdX2_gather_56.2.2.2.2.2.2.2.1
theorem sdX2_gather_68 : dz_Seg cX2_gather [(68, .getfield 56, 3), (71, .if_icmp .ge 27, 3), (74, .aload_n 1, 1), (75, .getfield 61, 3), (78, .iload_n 3, 1), (79, .invokestatic 62, 3), (82, .iload_n 2, 1), (83, .if_icmp .ne 9, 3)] := dz_sg _ 68 (by decide +kernel)
theorem dX2_gather_68 : decode cX2_gather 68 = .ok (.getfield 56, 3) := sdX2_gather_68.1
theorem dX2_gather_71 : decode cX2_gather 71 = .ok (.if_icmp .ge 27, 3) := sdX2_gather_68.2.1
theorem dX2_gather_74 : decode cX2_gather 74 = .ok (.aload_n 1, 1) := sdX2_gather_68.2.2.1
theorem dX2_gather_75 : decode cX2_gather 75 = .ok (.getfield 61, 3) := sdX2_gather_68.2.2.2.1
theorem dX2_gather_78 : decode cX2_gather 78 = .ok (.iload_n 3, 1) := sdX2_gather_68.2.2.2.2.1
theorem dX2_gather_79 : decode cX2_gather 79 = .ok (.invokestatic 62, 3) := sdX2_gather_68.2.2.2.2.2.1
theorem dX2_gather_82 : decode cX2_gather 82 = .ok (.iload_n 2, 1) := sdX2_gather_68.2.2.2.2.2.2.1
theorem dX2_gather_83 : decode cX2_gather 83 = .ok (.if_icmp .ne 9, 3) := sdX2_gather_68.2.2.2.2.2.2.2.1
theorem sdX2_gather_86 : dz_Seg cX2_gather [(86, .aload_n 0, 1), (87, .aload_n 1, 1), (88, .iload_n 3, 1), (89, .invokevirtual 70, 3), (92, .iinc 3 1, 3), (95, .goto (-29), 3), (98, .iinc 2 1, 3), (101, .goto (-50), 3)] := dz_sg _ 86 (by decide +kernel)
theorem dX2_gather_86 : decode cX2_gather 86 = .ok (.aload_n 0, 1) := sdX2_gather_86.1
theorem dX2_gather_87 : decode cX2_gather 87 = .ok (.aload_n 1, 1) := sdX2_gather_86.2.1
theorem dX2_gather_88 : decode cX2_gather 88 = .ok (.iload_n 3, 1) := sdX2_gather_86.2.2.1
theorem dX2_gather_89 : decode cX2_gather 89 = .ok (.invokevirtual 70, 3) := sdX2_gather_86.2.2.2.1
theorem dX2_gather_92 : decode cX2_gather 92 = .ok (.iinc 3 1, 3) := sdX2_gather_86.2.2.2.2.1
theorem dX2_gather_95 : decode cX2_gather 95 = .ok (.goto (-29), 3) := sdX2_gather_86.2.2.2.2.2.1
theorem dX2_gather_98 : decode cX2_gather 98 = .ok (.iinc 2 1, 3) := sdX2_gather_86.2.2.2.2.2.2.1
theorem dX2_gather_101 : decode cX2_gather 101 = .ok (.goto (-50), 3) := sdX2_gather_86.2.2.2.2.2.2.2.1
theorem sdX2_gather_104 : dz_Seg cX2_gather [(104, .aload_n 0, 1), (105, .iconst 0, 1), (106, .putfield 77, 3), (109, .iconst 0, 1), (110, .istore_n 2, 1), (111, .iload_n 2, 1), (112, .aload_n 0, 1), (113, .getfield 52, 3)] := dz_sg _ 104 (by decide +kernel)
theorem dX2_gather_104 : decode cX2_gather 104 = .ok (.aload_n 0, 1) := sdX2_gather_104.1
theorem dX2_gather_105 : decode cX2_gather 105 = .ok (.iconst 0, 1) := sdX2_gather_104.2.1
theorem dX2_gather_106 : decode cX2_gather 106 = .ok (.putfield 77, 3) := sdX2_gather_104.2.2.1
theorem dX2_gather_109 : decode cX2_gather 109 = .ok (.iconst 0, 1) := sdX2_gather_104.2.2.2.1
theorem dX2_gather_110 : decode cX2_gather 110 = .ok (.istore_n 2, 1) := sdX2_gather_104.2.2.2.2.1
theorem dX2_gather_111 : decode cX2_gather 111 = .ok (.iload_n 2, 1) := sdX2_gather_104.2.2.2.2.2.1
theorem dX2_gather_112 : decode cX2_gather 112 = .ok (.aload_n 0, 1) := sdX2_gather_104.2.2.2.2.2.2.1
theorem dX2_gather_113 : decode cX2_gather 113 = .ok (.getfield 52, 3) := sdX2_gather_104.2.2.2.2.2.2.2.1
theorem sdX2_gather_116 : dz_Seg cX2_gather [(116, .if_icmp .ge 35, 3), (119, .aload_n 0, 1), (120, .iload_n 2, 1), (121, .aload_n 1, 1), (122, .getfield 80, 3), (125, .invokevirtual 83, 3), (128, .aload_n 0, 1), (129, .dup, 1)] := dz_sg _ 116 (by decide +kernel)
theorem dX2_gather_116 : decode cX2_gather 116 = .ok (.if_icmp .ge 35, 3) := sdX2_gather_116.1
theorem dX2_gather_119 : decode cX2_gather 119 = .ok (.aload_n 0, 1) := sdX2_gather_116.2.1
theorem dX2_gather_120 : decode cX2_gather 120 = .ok (.iload_n 2, 1) := sdX2_gather_116.2.2.1
theorem dX2_gather_121 : decode cX2_gather 121 = .ok (.aload_n 1, 1) := sdX2_gather_116.2.2.2.1
theorem dX2_gather_122 : decode cX2_gather 122 = .ok (.getfield 80, 3) := sdX2_gather_116.2.2.2.2.1
theorem dX2_gather_125 : decode cX2_gather 125 = .ok (.invokevirtual 83, 3) := sdX2_gather_116.2.2.2.2.2.1
theorem dX2_gather_128 : decode cX2_gather 128 = .ok (.aload_n 0, 1) := sdX2_gather_116.2.2.2.2.2.2.1
theorem dX2_gather_129 : decode cX2_gather 129 = .ok (.dup, 1) := sdX2_gather_116.2.2.2.2.2.2.2.1
theorem sdX2_gather_130 : dz_Seg cX2_gather [(130, .getfield 77, 3), (133, .aload_n 0, 1), (134, .getfield 33, 3), (137, .iload_n 2, 1), (138, .invokestatic 62, 3), (141, .iadd, 1), (142, .putfield 77, 3), (145, .iinc 2 1, 3)] := dz_sg _ 130 (by decide +kernel)
theorem dX2_gather_130 : decode cX2_gather 130 = .ok (.getfield 77, 3) := sdX2_gather_130.1
theorem dX2_gather_133 : decode cX2_gather 133 = .ok (.aload_n 0, 1) := sdX2_gather_130.2.1
theorem dX2_gather_134 : decode cX2_gather 134 = .ok (.getfield 33, 3) := sdX2_gather_130.2.2.1
theorem dX2_gather_137 : decode cX2_gather 137 = .ok (.iload_n 2, 1) := sdX2_gather_130.2.2.2.1
theorem dX2_gather_138 : decode cX2_gather 138 = .ok (.invokestatic 62, 3) := sdX2_gather_130.2.2.2.2.1
theorem dX2_gather_141 : decode cX2_gather 141 = .ok (.iadd, 1) := sdX2_gather_130.2.2.2.2.2.1
theorem dX2_gather_142 : decode cX2_gather 142 = .ok (.putfield 77, 3) := sdX2_gather_130.2.2.2.2.2.2.1
theorem dX2_gather_145 : decode cX2_gather 145 = .ok (.iinc 2 1, 3) := sdX2_gather_130.2.2.2.2.2.2.2.1
theorem sdX2_gather_148 : dz_Seg cX2_gather [(148, .goto (-37), 3), (151, .return_, 1)] := dz_sg _ 148 (by decide +kernel)
theorem dX2_gather_148 : decode cX2_gather 148 = .ok (.goto (-37), 3) := sdX2_gather_148.1
theorem dX2_gather_151 : decode cX2_gather 151 = .ok (.return_, 1) := sdX2_gather_148.2.1
theorem sdX2_gatherUnits_0 : dz_Seg cX2_gatherUnits [(0, .aload_n 0, 1), (1, .aload_n 1, 1), (2, .getfield 87, 3), (5, .putfield 90, 3), (8, .aload_n 0, 1), (9, .iconst 0, 1), (10, .putfield 91, 3), (13, .iconst 0, 1)] := dz_sg _ 0 (by decide +kernel)
theorem dX2_gatherUnits_0 : decode cX2_gatherUnits 0 = .ok (.aload_n 0, 1) := sdX2_gatherUnits_0.1
theorem dX2_gatherUnits_1 : decode cX2_gatherUnits 1 = .ok (.aload_n 1, 1) := sdX2_gatherUnits_0.2.1
theorem dX2_gatherUnits_2 : decode cX2_gatherUnits 2 = .ok (.getfield 87, 3) := sdX2_gatherUnits_0.2.2.1
theorem dX2_gatherUnits_5 : decode cX2_gatherUnits 5 = .ok (.putfield 90, 3) := sdX2_gatherUnits_0.2.2.2.1
theorem dX2_gatherUnits_8 : decode cX2_gatherUnits 8 = .ok (.aload_n 0, 1) := sdX2_gatherUnits_0.2.2.2.2.1
theorem dX2_gatherUnits_9 : decode cX2_gatherUnits 9 = .ok (.iconst 0, 1) := sdX2_gatherUnits_0.2.2.2.2.2.1
theorem dX2_gatherUnits_10 : decode cX2_gatherUnits 10 = .ok (.putfield 91, 3) := sdX2_gatherUnits_0.2.2.2.2.2.2.1
theorem dX2_gatherUnits_13 : decode cX2_gatherUnits 13 = .ok (.iconst 0, 1) := sdX2_gatherUnits_0.2.2.2.2.2.2.2.1
theorem sdX2_gatherUnits_14 : dz_Seg cX2_gatherUnits [(14, .istore_n 2, 1), (15, .iload_n 2, 1), (16, .aload_n 0, 1), (17, .getfield 90, 3), (20, .if_icmp .ge 86, 3), (23, .aload_n 1, 1), (24, .getfield 95, 3), (27, .iload_n 2, 1)] := dz_sg _ 14 (by decide +kernel)
theorem dX2_gatherUnits_14 : decode cX2_gatherUnits 14 = .ok (.istore_n 2, 1) := sdX2_gatherUnits_14.1
theorem dX2_gatherUnits_15 : decode cX2_gatherUnits 15 = .ok (.iload_n 2, 1) := sdX2_gatherUnits_14.2.1
theorem dX2_gatherUnits_16 : decode cX2_gatherUnits 16 = .ok (.aload_n 0, 1) := sdX2_gatherUnits_14.2.2.1
theorem dX2_gatherUnits_17 : decode cX2_gatherUnits 17 = .ok (.getfield 90, 3) := sdX2_gatherUnits_14.2.2.2.1
theorem dX2_gatherUnits_20 : decode cX2_gatherUnits 20 = .ok (.if_icmp .ge 86, 3) := sdX2_gatherUnits_14.2.2.2.2.1
theorem dX2_gatherUnits_23 : decode cX2_gatherUnits 23 = .ok (.aload_n 1, 1) := sdX2_gatherUnits_14.2.2.2.2.2.1
theorem dX2_gatherUnits_24 : decode cX2_gatherUnits 24 = .ok (.getfield 95, 3) := sdX2_gatherUnits_14.2.2.2.2.2.2.1
theorem dX2_gatherUnits_27 : decode cX2_gatherUnits 27 = .ok (.iload_n 2, 1) := sdX2_gatherUnits_14.2.2.2.2.2.2.2.1
theorem sdX2_gatherUnits_28 : dz_Seg cX2_gatherUnits [(28, .invokestatic 62, 3), (31, .istore_n 3, 1), (32, .aload_n 0, 1), (33, .getfield 9, 3), (36, .iload_n 2, 1), (37, .iload_n 3, 1), (38, .invokestatic 96, 3), (41, .aload_n 0, 1)] := dz_sg _ 28 (by decide +kernel)
theorem dX2_gatherUnits_28 : decode cX2_gatherUnits 28 = .ok (.invokestatic 62, 3) := sdX2_gatherUnits_28.1
theorem dX2_gatherUnits_31 : decode cX2_gatherUnits 31 = .ok (.istore_n 3, 1) := sdX2_gatherUnits_28.2.1
theorem dX2_gatherUnits_32 : decode cX2_gatherUnits 32 = .ok (.aload_n 0, 1) := sdX2_gatherUnits_28.2.2.1
theorem dX2_gatherUnits_33 : decode cX2_gatherUnits 33 = .ok (.getfield 9, 3) := sdX2_gatherUnits_28.2.2.2.1
theorem dX2_gatherUnits_36 : decode cX2_gatherUnits 36 = .ok (.iload_n 2, 1) := sdX2_gatherUnits_28.2.2.2.2.1
theorem dX2_gatherUnits_37 : decode cX2_gatherUnits 37 = .ok (.iload_n 3, 1) := sdX2_gatherUnits_28.2.2.2.2.2.1
theorem dX2_gatherUnits_38 : decode cX2_gatherUnits 38 = .ok (.invokestatic 96, 3) := sdX2_gatherUnits_28.2.2.2.2.2.2.1
theorem dX2_gatherUnits_41 : decode cX2_gatherUnits 41 = .ok (.aload_n 0, 1) := sdX2_gatherUnits_28.2.2.2.2.2.2.2.1
theorem sdX2_gatherUnits_42 : dz_Seg cX2_gatherUnits [(42, .getfield 15, 3), (45, .iload_n 2, 1), (46, .iload_n 3, 1), (47, .aload_n 1, 1), (48, .getfield 100, 3), (51, .imul, 1), (52, .bipush 100, 2), (54, .idiv, 1)] := dz_sg _ 42 (by decide +kernel)
theorem dX2_gatherUnits_42 : decode cX2_gatherUnits 42 = .ok (.getfield 15, 3) := sdX2_gatherUnits_42.1
theorem dX2_gatherUnits_45 : decode cX2_gatherUnits 45 = .ok (.iload_n 2, 1) := sdX2_gatherUnits_42.2.1
theorem dX2_gatherUnits_46 : decode cX2_gatherUnits 46 = .ok (.iload_n 3, 1) := sdX2_gatherUnits_42.2.2.1
theorem dX2_gatherUnits_47 : decode cX2_gatherUnits 47 = .ok (.aload_n 1, 1) := sdX2_gatherUnits_42.2.2.2.1
theorem dX2_gatherUnits_48 : decode cX2_gatherUnits 48 = .ok (.getfield 100, 3) := sdX2_gatherUnits_42.2.2.2.2.1
theorem dX2_gatherUnits_51 : decode cX2_gatherUnits 51 = .ok (.imul, 1) := sdX2_gatherUnits_42.2.2.2.2.2.1
theorem dX2_gatherUnits_52 : decode cX2_gatherUnits 52 = .ok (.bipush 100, 2) := sdX2_gatherUnits_42.2.2.2.2.2.2.1
theorem dX2_gatherUnits_54 : decode cX2_gatherUnits 54 = .ok (.idiv, 1) := sdX2_gatherUnits_42.2.2.2.2.2.2.2.1
theorem sdX2_gatherUnits_55 : dz_Seg cX2_gatherUnits [(55, .invokestatic 96, 3), (58, .aload_n 0, 1), (59, .getfield 18, 3), (62, .iload_n 2, 1), (63, .iload_n 3, 1), (64, .aload_n 1, 1), (65, .getfield 103, 3), (68, .imul, 1)] := dz_sg _ 55 (by decide +kernel)
theorem dX2_gatherUnits_55 : decode cX2_gatherUnits 55 = .ok (.invokestatic 96, 3) := sdX2_gatherUnits_55.1
theorem dX2_gatherUnits_58 : decode cX2_gatherUnits 58 = .ok (.aload_n 0, 1) := sdX2_gatherUnits_55.2.1
theorem dX2_gatherUnits_59 : decode cX2_gatherUnits 59 = .ok (.getfield 18, 3) := sdX2_gatherUnits_55.2.2.1
theorem dX2_gatherUnits_62 : decode cX2_gatherUnits 62 = .ok (.iload_n 2, 1) := sdX2_gatherUnits_55.2.2.2.1
theorem dX2_gatherUnits_63 : decode cX2_gatherUnits 63 = .ok (.iload_n 3, 1) := sdX2_gatherUnits_55.2.2.2.2.1
theorem dX2_gatherUnits_64 : decode cX2_gatherUnits 64 = .ok (.aload_n 1, 1) := sdX2_gatherUnits_55.2.2.2.2.2.1
theorem dX2_gatherUnits_65 : decode cX2_gatherUnits 65 = .ok (.getfield 103, 3) := sdX2_gatherUnits_55.2.2.2.2.2.2.1
theorem dX2_gatherUnits_68 : decode cX2_gatherUnits 68 = .ok (.imul, 1) := sdX2_gatherUnits_55.2.2.2.2.2.2.2.1
theorem sdX2_gatherUnits_69 : dz_Seg cX2_gatherUnits [(69, .bipush 100, 2), (71, .idiv, 1), (72, .invokestatic 96, 3), (75, .aload_n 0, 1), (76, .dup, 1), (77, .getfield 91, 3), (80, .aload_n 0, 1), (81, .getfield 15, 3)] := dz_sg _ 69 (by decide +kernel)
theorem dX2_gatherUnits_69 : decode cX2_gatherUnits 69 = .ok (.bipush 100, 2) := sdX2_gatherUnits_69.1
theorem dX2_gatherUnits_71 : decode cX2_gatherUnits 71 = .ok (.idiv, 1) := sdX2_gatherUnits_69.2.1
theorem dX2_gatherUnits_72 : decode cX2_gatherUnits 72 = .ok (.invokestatic 96, 3) := sdX2_gatherUnits_69.2.2.1
theorem dX2_gatherUnits_75 : decode cX2_gatherUnits 75 = .ok (.aload_n 0, 1) := sdX2_gatherUnits_69.2.2.2.1
theorem dX2_gatherUnits_76 : decode cX2_gatherUnits 76 = .ok (.dup, 1) := sdX2_gatherUnits_69.2.2.2.2.1
theorem dX2_gatherUnits_77 : decode cX2_gatherUnits 77 = .ok (.getfield 91, 3) := sdX2_gatherUnits_69.2.2.2.2.2.1
theorem dX2_gatherUnits_80 : decode cX2_gatherUnits 80 = .ok (.aload_n 0, 1) := sdX2_gatherUnits_69.2.2.2.2.2.2.1
theorem dX2_gatherUnits_81 : decode cX2_gatherUnits 81 = .ok (.getfield 15, 3) := sdX2_gatherUnits_69.2.2.2.2.2.2.2.1
theorem sdX2_gatherUnits_84 : dz_Seg cX2_gatherUnits [(84, .iload_n 2, 1), (85, .invokestatic 62, 3), (88, .ifCond .le 7, 3), (91, .iconst 1, 1), (92, .goto 4, 3), (95, .iconst 0, 1), (96, .ior, 1), (97, .putfield 91, 3)] := dz_sg _ 84 (by decide +kernel)
theorem dX2_gatherUnits_84 : decode cX2_gatherUnits 84 = .ok (.iload_n 2, 1) := sdX2_gatherUnits_84.1
theorem dX2_gatherUnits_85 : decode cX2_gatherUnits 85 = .ok (.invokestatic 62, 3) := sdX2_gatherUnits_84.2.1
theorem dX2_gatherUnits_88 : decode cX2_gatherUnits 88 = .ok (.ifCond .le 7, 3) := sdX2_gatherUnits_84.2.2.1
theorem dX2_gatherUnits_91 : decode cX2_gatherUnits 91 = .ok (.iconst 1, 1) := sdX2_gatherUnits_84.2.2.2.1
theorem dX2_gatherUnits_92 : decode cX2_gatherUnits 92 = .ok (.goto 4, 3) := sdX2_gatherUnits_84.2.2.2.2.1
theorem dX2_gatherUnits_95 : decode cX2_gatherUnits 95 = .ok (.iconst 0, 1) := sdX2_gatherUnits_84.2.2.2.2.2.1
theorem dX2_gatherUnits_96 : decode cX2_gatherUnits 96 = .ok (.ior, 1) := sdX2_gatherUnits_84.2.2.2.2.2.2.1
theorem dX2_gatherUnits_97 : decode cX2_gatherUnits 97 = .ok (.putfield 91, 3) := sdX2_gatherUnits_84.2.2.2.2.2.2.2.1
theorem sdX2_gatherUnits_100 : dz_Seg cX2_gatherUnits [(100, .iinc 2 1, 3), (103, .goto (-88), 3), (106, .return_, 1)] := dz_sg _ 100 (by decide +kernel)
theorem dX2_gatherUnits_100 : decode cX2_gatherUnits 100 = .ok (.iinc 2 1, 3) := sdX2_gatherUnits_100.1
theorem dX2_gatherUnits_103 : decode cX2_gatherUnits 103 = .ok (.goto (-88), 3) := sdX2_gatherUnits_100.2.1
theorem dX2_gatherUnits_106 : decode cX2_gatherUnits 106 = .ok (.return_, 1) := sdX2_gatherUnits_100.2.2.1
theorem sdX2_open_0 : dz_Seg cX2_open [(0, .aload_n 0, 1), (1, .getfield 24, 3), (4, .aload_n 0, 1), (5, .getfield 52, 3), (8, .iconst 0, 1), (9, .invokestatic 96, 3), (12, .aload_n 0, 1), (13, .getfield 27, 3)] := dz_sg _ 0 (by decide +kernel)
theorem dX2_open_0 : decode cX2_open 0 = .ok (.aload_n 0, 1) := sdX2_open_0.1
theorem dX2_open_1 : decode cX2_open 1 = .ok (.getfield 24, 3) := sdX2_open_0.2.1
theorem dX2_open_4 : decode cX2_open 4 = .ok (.aload_n 0, 1) := sdX2_open_0.2.2.1
theorem dX2_open_5 : decode cX2_open 5 = .ok (.getfield 52, 3) := sdX2_open_0.2.2.2.1
theorem dX2_open_8 : decode cX2_open 8 = .ok (.iconst 0, 1) := sdX2_open_0.2.2.2.2.1
theorem dX2_open_9 : decode cX2_open 9 = .ok (.invokestatic 96, 3) := sdX2_open_0.2.2.2.2.2.1
theorem dX2_open_12 : decode cX2_open 12 = .ok (.aload_n 0, 1) := sdX2_open_0.2.2.2.2.2.2.1
theorem dX2_open_13 : decode cX2_open 13 = .ok (.getfield 27, 3) := sdX2_open_0.2.2.2.2.2.2.2.1
theorem sdX2_open_16 : dz_Seg cX2_open [(16, .aload_n 0, 1), (17, .getfield 52, 3), (20, .iconst 0, 1), (21, .invokestatic 96, 3), (24, .aload_n 0, 1), (25, .getfield 30, 3), (28, .aload_n 0, 1), (29, .getfield 52, 3)] := dz_sg _ 16 (by decide +kernel)
theorem dX2_open_16 : decode cX2_open 16 = .ok (.aload_n 0, 1) := sdX2_open_16.1
theorem dX2_open_17 : decode cX2_open 17 = .ok (.getfield 52, 3) := sdX2_open_16.2.1
theorem dX2_open_20 : decode cX2_open 20 = .ok (.iconst 0, 1) := sdX2_open_16.2.2.1
theorem dX2_open_21 : decode cX2_open 21 = .ok (.invokestatic 96, 3) := sdX2_open_16.2.2.2.1
theorem dX2_open_24 : decode cX2_open 24 = .ok (.aload_n 0, 1) := sdX2_open_16.2.2.2.2.1
theorem dX2_open_25 : decode cX2_open 25 = .ok (.getfield 30, 3) := sdX2_open_16.2.2.2.2.2.1
theorem dX2_open_28 : decode cX2_open 28 = .ok (.aload_n 0, 1) := sdX2_open_16.2.2.2.2.2.2.1
theorem dX2_open_29 : decode cX2_open 29 = .ok (.getfield 52, 3) := sdX2_open_16.2.2.2.2.2.2.2.1
theorem sdX2_open_32 : dz_Seg cX2_open [(32, .iconst 0, 1), (33, .invokestatic 96, 3), (36, .aload_n 0, 1), (37, .getfield 36, 3), (40, .aload_n 0, 1), (41, .getfield 52, 3), (44, .iconst 0, 1), (45, .invokestatic 96, 3)] := dz_sg _ 32 (by decide +kernel)
theorem dX2_open_32 : decode cX2_open 32 = .ok (.iconst 0, 1) := sdX2_open_32.1
theorem dX2_open_33 : decode cX2_open 33 = .ok (.invokestatic 96, 3) := sdX2_open_32.2.1
theorem dX2_open_36 : decode cX2_open 36 = .ok (.aload_n 0, 1) := sdX2_open_32.2.2.1
theorem dX2_open_37 : decode cX2_open 37 = .ok (.getfield 36, 3) := sdX2_open_32.2.2.2.1
theorem dX2_open_40 : decode cX2_open 40 = .ok (.aload_n 0, 1) := sdX2_open_32.2.2.2.2.1
theorem dX2_open_41 : decode cX2_open 41 = .ok (.getfield 52, 3) := sdX2_open_32.2.2.2.2.2.1
theorem dX2_open_44 : decode cX2_open 44 = .ok (.iconst 0, 1) := sdX2_open_32.2.2.2.2.2.2.1
theorem dX2_open_45 : decode cX2_open 45 = .ok (.invokestatic 96, 3) := sdX2_open_32.2.2.2.2.2.2.2.1
theorem sdX2_open_48 : dz_Seg cX2_open [(48, .aload_n 0, 1), (49, .getfield 39, 3), (52, .aload_n 0, 1), (53, .getfield 52, 3), (56, .iload_n 1, 1), (57, .invokestatic 96, 3), (60, .aload_n 0, 1), (61, .dup, 1)] := dz_sg _ 48 (by decide +kernel)
theorem dX2_open_48 : decode cX2_open 48 = .ok (.aload_n 0, 1) := sdX2_open_48.1
theorem dX2_open_49 : decode cX2_open 49 = .ok (.getfield 39, 3) := sdX2_open_48.2.1
theorem dX2_open_52 : decode cX2_open 52 = .ok (.aload_n 0, 1) := sdX2_open_48.2.2.1
theorem dX2_open_53 : decode cX2_open 53 = .ok (.getfield 52, 3) := sdX2_open_48.2.2.2.1
theorem dX2_open_56 : decode cX2_open 56 = .ok (.iload_n 1, 1) := sdX2_open_48.2.2.2.2.1
theorem dX2_open_57 : decode cX2_open 57 = .ok (.invokestatic 96, 3) := sdX2_open_48.2.2.2.2.2.1
theorem dX2_open_60 : decode cX2_open 60 = .ok (.aload_n 0, 1) := sdX2_open_48.2.2.2.2.2.2.1
theorem dX2_open_61 : decode cX2_open 61 = .ok (.dup, 1) := sdX2_open_48.2.2.2.2.2.2.2.1
theorem sdX2_open_62 : dz_Seg cX2_open [(62, .getfield 52, 3), (65, .iconst 1, 1), (66, .iadd, 1), (67, .putfield 52, 3), (70, .return_, 1)] := dz_sg _ 62 (by decide +kernel)
theorem dX2_open_62 : decode cX2_open 62 = .ok (.getfield 52, 3) := sdX2_open_62.1
theorem dX2_open_65 : decode cX2_open 65 = .ok (.iconst 1, 1) := sdX2_open_62.2.1
theorem dX2_open_66 : decode cX2_open 66 = .ok (.iadd, 1) := sdX2_open_62.2.2.1
theorem dX2_open_67 : decode cX2_open 67 = .ok (.putfield 52, 3) := sdX2_open_62.2.2.2.1
theorem dX2_open_70 : decode cX2_open 70 = .ok (.return_, 1) := sdX2_open_62.2.2.2.2.1
theorem sdX2_join_0 : dz_Seg cX2_join [(0, .aload_n 0, 1), (1, .getfield 52, 3), (4, .iconst 1, 1), (5, .isub, 1), (6, .istore_n 3, 1), (7, .aload_n 0, 1), (8, .getfield 21, 3), (11, .iload_n 2, 1)] := dz_sg _ 0 (by decide +kernel)
theorem dX2_join_0 : decode cX2_join 0 = .ok (.aload_n 0, 1) := sdX2_join_0.1
theorem dX2_join_1 : decode cX2_join 1 = .ok (.getfield 52, 3) := sdX2_join_0.2.1
theorem dX2_join_4 : decode cX2_join 4 = .ok (.iconst 1, 1) := sdX2_join_0.2.2.1
theorem dX2_join_5 : decode cX2_join 5 = .ok (.isub, 1) := sdX2_join_0.2.2.2.1
theorem dX2_join_6 : decode cX2_join 6 = .ok (.istore_n 3, 1) := sdX2_join_0.2.2.2.2.1
theorem dX2_join_7 : decode cX2_join 7 = .ok (.aload_n 0, 1) := sdX2_join_0.2.2.2.2.2.1
theorem dX2_join_8 : decode cX2_join 8 = .ok (.getfield 21, 3) := sdX2_join_0.2.2.2.2.2.2.1
theorem dX2_join_11 : decode cX2_join 11 = .ok (.iload_n 2, 1) := sdX2_join_0.2.2.2.2.2.2.2.1
theorem sdX2_join_12 : dz_Seg cX2_join [(12, .iload_n 3, 1), (13, .invokestatic 96, 3), (16, .aload_n 0, 1), (17, .getfield 24, 3), (20, .iload_n 3, 1), (21, .iconst 1, 1), (22, .invokestatic 106, 3), (25, .aload_n 0, 1)] := dz_sg _ 12 (by decide +kernel)
theorem dX2_join_12 : decode cX2_join 12 = .ok (.iload_n 3, 1) := sdX2_join_12.1
theorem dX2_join_13 : decode cX2_join 13 = .ok (.invokestatic 96, 3) := sdX2_join_12.2.1
theorem dX2_join_16 : decode cX2_join 16 = .ok (.aload_n 0, 1) := sdX2_join_12.2.2.1
theorem dX2_join_17 : decode cX2_join 17 = .ok (.getfield 24, 3) := sdX2_join_12.2.2.2.1
theorem dX2_join_20 : decode cX2_join 20 = .ok (.iload_n 3, 1) := sdX2_join_12.2.2.2.2.1
theorem dX2_join_21 : decode cX2_join 21 = .ok (.iconst 1, 1) := sdX2_join_12.2.2.2.2.2.1
theorem dX2_join_22 : decode cX2_join 22 = .ok (.invokestatic 106, 3) := sdX2_join_12.2.2.2.2.2.2.1
theorem dX2_join_25 : decode cX2_join 25 = .ok (.aload_n 0, 1) := sdX2_join_12.2.2.2.2.2.2.2.1
theorem sdX2_join_26 : dz_Seg cX2_join [(26, .getfield 27, 3), (29, .iload_n 3, 1), (30, .aload_n 1, 1), (31, .getfield 109, 3), (34, .iload_n 2, 1), (35, .invokestatic 62, 3), (38, .invokestatic 106, 3), (41, .aload_n 0, 1)] := dz_sg _ 26 (by decide +kernel)
theorem dX2_join_26 : decode cX2_join 26 = .ok (.getfield 27, 3) := sdX2_join_26.1
theorem dX2_join_29 : decode cX2_join 29 = .ok (.iload_n 3, 1) := sdX2_join_26.2.1
theorem dX2_join_30 : decode cX2_join 30 = .ok (.aload_n 1, 1) := sdX2_join_26.2.2.1
theorem dX2_join_31 : decode cX2_join 31 = .ok (.getfield 109, 3) := sdX2_join_26.2.2.2.1
theorem dX2_join_34 : decode cX2_join 34 = .ok (.iload_n 2, 1) := sdX2_join_26.2.2.2.2.1
theorem dX2_join_35 : decode cX2_join 35 = .ok (.invokestatic 62, 3) := sdX2_join_26.2.2.2.2.2.1
theorem dX2_join_38 : decode cX2_join 38 = .ok (.invokestatic 106, 3) := sdX2_join_26.2.2.2.2.2.2.1
theorem dX2_join_41 : decode cX2_join 41 = .ok (.aload_n 0, 1) := sdX2_join_26.2.2.2.2.2.2.2.1
theorem sdX2_join_42 : dz_Seg cX2_join [(42, .getfield 30, 3), (45, .iload_n 3, 1), (46, .aload_n 1, 1), (47, .getfield 112, 3), (50, .iload_n 2, 1), (51, .invokestatic 62, 3), (54, .invokestatic 106, 3), (57, .aload_n 0, 1)] := dz_sg _ 42 (by decide +kernel)
theorem dX2_join_42 : decode cX2_join 42 = .ok (.getfield 30, 3) := sdX2_join_42.1
theorem dX2_join_45 : decode cX2_join 45 = .ok (.iload_n 3, 1) := sdX2_join_42.2.1
theorem dX2_join_46 : decode cX2_join 46 = .ok (.aload_n 1, 1) := sdX2_join_42.2.2.1
theorem dX2_join_47 : decode cX2_join 47 = .ok (.getfield 112, 3) := sdX2_join_42.2.2.2.1
theorem dX2_join_50 : decode cX2_join 50 = .ok (.iload_n 2, 1) := sdX2_join_42.2.2.2.2.1
theorem dX2_join_51 : decode cX2_join 51 = .ok (.invokestatic 62, 3) := sdX2_join_42.2.2.2.2.2.1
theorem dX2_join_54 : decode cX2_join 54 = .ok (.invokestatic 106, 3) := sdX2_join_42.2.2.2.2.2.2.1
theorem dX2_join_57 : decode cX2_join 57 = .ok (.aload_n 0, 1) := sdX2_join_42.2.2.2.2.2.2.2.1
theorem sdX2_join_58 : dz_Seg cX2_join [(58, .getfield 36, 3), (61, .iload_n 3, 1), (62, .iconst 1, 1), (63, .iload_n 2, 1), (64, .ishl, 1), (65, .invokestatic 106, 3), (68, .aload_n 0, 1), (69, .getfield 42, 3)] := dz_sg _ 58 (by decide +kernel)
theorem dX2_join_58 : decode cX2_join 58 = .ok (.getfield 36, 3) := sdX2_join_58.1
theorem dX2_join_61 : decode cX2_join 61 = .ok (.iload_n 3, 1) := sdX2_join_58.2.1
theorem dX2_join_62 : decode cX2_join 62 = .ok (.iconst 1, 1) := sdX2_join_58.2.2.1
theorem dX2_join_63 : decode cX2_join 63 = .ok (.iload_n 2, 1) := sdX2_join_58.2.2.2.1
theorem dX2_join_64 : decode cX2_join 64 = .ok (.ishl, 1) := sdX2_join_58.2.2.2.2.1
theorem dX2_join_65 : decode cX2_join 65 = .ok (.invokestatic 106, 3) := sdX2_join_58.2.2.2.2.2.1
theorem dX2_join_68 : decode cX2_join 68 = .ok (.aload_n 0, 1) := sdX2_join_58.2.2.2.2.2.2.1
theorem dX2_join_69 : decode cX2_join 69 = .ok (.getfield 42, 3) := sdX2_join_58.2.2.2.2.2.2.2.1
theorem sdX2_join_72 : dz_Seg cX2_join [(72, .iload_n 3, 1), (73, .aload_n 1, 1), (74, .getfield 113, 3), (77, .iload_n 2, 1), (78, .invokestatic 62, 3), (81, .invokestatic 96, 3), (84, .iconst 0, 1), (85, .istore 4, 2)] := dz_sg _ 72 (by decide +kernel)
theorem dX2_join_72 : decode cX2_join 72 = .ok (.iload_n 3, 1) := sdX2_join_72.1
theorem dX2_join_73 : decode cX2_join 73 = .ok (.aload_n 1, 1) := sdX2_join_72.2.1
theorem dX2_join_74 : decode cX2_join 74 = .ok (.getfield 113, 3) := sdX2_join_72.2.2.1
theorem dX2_join_77 : decode cX2_join 77 = .ok (.iload_n 2, 1) := sdX2_join_72.2.2.2.1
theorem dX2_join_78 : decode cX2_join 78 = .ok (.invokestatic 62, 3) := sdX2_join_72.2.2.2.2.1
theorem dX2_join_81 : decode cX2_join 81 = .ok (.invokestatic 96, 3) := sdX2_join_72.2.2.2.2.2.1
theorem dX2_join_84 : decode cX2_join 84 = .ok (.iconst 0, 1) := sdX2_join_72.2.2.2.2.2.2.1
theorem dX2_join_85 : decode cX2_join 85 = .ok (.istore 4, 2) := sdX2_join_72.2.2.2.2.2.2.2.1
theorem sdX2_join_87 : dz_Seg cX2_join [(87, .iload 4, 2), (89, .iconst 3, 1), (90, .if_icmp .ge 35, 3), (93, .aload_n 0, 1), (94, .getfield 45, 3), (97, .iload_n 3, 1), (98, .iconst 3, 1), (99, .imul, 1)] := dz_sg _ 87 (by decide +kernel)
theorem dX2_join_87 : decode cX2_join 87 = .ok (.iload 4, 2) := sdX2_join_87.1
theorem dX2_join_89 : decode cX2_join 89 = .ok (.iconst 3, 1) := sdX2_join_87.2.1
theorem dX2_join_90 : decode cX2_join 90 = .ok (.if_icmp .ge 35, 3) := sdX2_join_87.2.2.1
theorem dX2_join_93 : decode cX2_join 93 = .ok (.aload_n 0, 1) := sdX2_join_87.2.2.2.1
theorem dX2_join_94 : decode cX2_join 94 = .ok (.getfield 45, 3) := sdX2_join_87.2.2.2.2.1
theorem dX2_join_97 : decode cX2_join 97 = .ok (.iload_n 3, 1) := sdX2_join_87.2.2.2.2.2.1
theorem dX2_join_98 : decode cX2_join 98 = .ok (.iconst 3, 1) := sdX2_join_87.2.2.2.2.2.2.1
theorem dX2_join_99 : decode cX2_join 99 = .ok (.imul, 1) := sdX2_join_87.2.2.2.2.2.2.2.1
theorem sdX2_join_100 : dz_Seg cX2_join [(100, .iload 4, 2), (102, .iadd, 1), (103, .aload_n 1, 1), (104, .getfield 114, 3), (107, .iload_n 2, 1), (108, .iconst 3, 1), (109, .imul, 1), (110, .iload 4, 2)] := dz_sg _ 100 (by decide +kernel)
theorem dX2_join_100 : decode cX2_join 100 = .ok (.iload 4, 2) := sdX2_join_100.1
theorem dX2_join_102 : decode cX2_join 102 = .ok (.iadd, 1) := sdX2_join_100.2.1
theorem dX2_join_103 : decode cX2_join 103 = .ok (.aload_n 1, 1) := sdX2_join_100.2.2.1
theorem dX2_join_104 : decode cX2_join 104 = .ok (.getfield 114, 3) := sdX2_join_100.2.2.2.1
theorem dX2_join_107 : decode cX2_join 107 = .ok (.iload_n 2, 1) := sdX2_join_100.2.2.2.2.1
theorem dX2_join_108 : decode cX2_join 108 = .ok (.iconst 3, 1) := sdX2_join_100.2.2.2.2.2.1
theorem dX2_join_109 : decode cX2_join 109 = .ok (.imul, 1) := sdX2_join_100.2.2.2.2.2.2.1
theorem dX2_join_110 : decode cX2_join 110 = .ok (.iload 4, 2) := sdX2_join_100.2.2.2.2.2.2.2.1
theorem sdX2_join_112 : dz_Seg cX2_join [(112, .iadd, 1), (113, .invokestatic 62, 3), (116, .invokestatic 96, 3), (119, .iinc 4 1, 3), (122, .goto (-35), 3), (125, .return_, 1)] := dz_sg _ 112 (by decide +kernel)
theorem dX2_join_112 : decode cX2_join 112 = .ok (.iadd, 1) := sdX2_join_112.1
theorem dX2_join_113 : decode cX2_join 113 = .ok (.invokestatic 62, 3) := sdX2_join_112.2.1
theorem dX2_join_116 : decode cX2_join 116 = .ok (.invokestatic 96, 3) := sdX2_join_112.2.2.1
theorem dX2_join_119 : decode cX2_join 119 = .ok (.iinc 4 1, 3) := sdX2_join_112.2.2.2.1
theorem dX2_join_122 : decode cX2_join 122 = .ok (.goto (-35), 3) := sdX2_join_112.2.2.2.2.1
theorem dX2_join_125 : decode cX2_join 125 = .ok (.return_, 1) := sdX2_join_112.2.2.2.2.2.1
theorem sdX2_close_0 : dz_Seg cX2_close [(0, .aload_n 0, 1), (1, .getfield 24, 3), (4, .iload_n 1, 1), (5, .invokestatic 62, 3), (8, .istore_n 3, 1), (9, .iload_n 3, 1), (10, .ifCond .ne 7, 3), (13, .iconst 0, 1)] := dz_sg _ 0 (by decide +kernel)
theorem dX2_close_0 : decode cX2_close 0 = .ok (.aload_n 0, 1) := sdX2_close_0.1
theorem dX2_close_1 : decode cX2_close 1 = .ok (.getfield 24, 3) := sdX2_close_0.2.1
theorem dX2_close_4 : decode cX2_close 4 = .ok (.iload_n 1, 1) := sdX2_close_0.2.2.1
theorem dX2_close_5 : decode cX2_close 5 = .ok (.invokestatic 62, 3) := sdX2_close_0.2.2.2.1
theorem dX2_close_8 : decode cX2_close 8 = .ok (.istore_n 3, 1) := sdX2_close_0.2.2.2.2.1
theorem dX2_close_9 : decode cX2_close 9 = .ok (.iload_n 3, 1) := sdX2_close_0.2.2.2.2.2.1
theorem dX2_close_10 : decode cX2_close 10 = .ok (.ifCond .ne 7, 3) := sdX2_close_0.2.2.2.2.2.2.1
theorem dX2_close_13 : decode cX2_close 13 = .ok (.iconst 0, 1) := sdX2_close_0.2.2.2.2.2.2.2.1
theorem sdX2_close_14 : dz_Seg cX2_close [(14, .goto 13, 3), (17, .aload_n 0, 1), (18, .getfield 30, 3), (21, .iload_n 1, 1), (22, .invokestatic 62, 3), (25, .iload_n 3, 1), (26, .idiv, 1), (27, .istore 4, 2)] := dz_sg _ 14 (by decide +kernel)
theorem dX2_close_14 : decode cX2_close 14 = .ok (.goto 13, 3) := sdX2_close_14.1
theorem dX2_close_17 : decode cX2_close 17 = .ok (.aload_n 0, 1) := sdX2_close_14.2.1
theorem dX2_close_18 : decode cX2_close 18 = .ok (.getfield 30, 3) := sdX2_close_14.2.2.1
theorem dX2_close_21 : decode cX2_close 21 = .ok (.iload_n 1, 1) := sdX2_close_14.2.2.2.1
theorem dX2_close_22 : decode cX2_close 22 = .ok (.invokestatic 62, 3) := sdX2_close_14.2.2.2.2.1
theorem dX2_close_25 : decode cX2_close 25 = .ok (.iload_n 3, 1) := sdX2_close_14.2.2.2.2.2.1
theorem dX2_close_26 : decode cX2_close 26 = .ok (.idiv, 1) := sdX2_close_14.2.2.2.2.2.2.1
theorem dX2_close_27 : decode cX2_close 27 = .ok (.istore 4, 2) := sdX2_close_14.2.2.2.2.2.2.2.1
theorem sdX2_close_29 : dz_Seg cX2_close [(29, .aload_n 0, 1), (30, .getfield 30, 3), (33, .iload_n 1, 1), (34, .iload 4, 2), (36, .invokestatic 96, 3), (39, .aload_n 0, 1), (40, .getfield 33, 3), (43, .iload_n 1, 1)] := dz_sg _ 29 (by decide +kernel)
theorem dX2_close_29 : decode cX2_close 29 = .ok (.aload_n 0, 1) := sdX2_close_29.1
theorem dX2_close_30 : decode cX2_close 30 = .ok (.getfield 30, 3) := sdX2_close_29.2.1
theorem dX2_close_33 : decode cX2_close 33 = .ok (.iload_n 1, 1) := sdX2_close_29.2.2.1
theorem dX2_close_34 : decode cX2_close 34 = .ok (.iload 4, 2) := sdX2_close_29.2.2.2.1
theorem dX2_close_36 : decode cX2_close 36 = .ok (.invokestatic 96, 3) := sdX2_close_29.2.2.2.2.1
theorem dX2_close_39 : decode cX2_close 39 = .ok (.aload_n 0, 1) := sdX2_close_29.2.2.2.2.2.1
theorem dX2_close_40 : decode cX2_close 40 = .ok (.getfield 33, 3) := sdX2_close_29.2.2.2.2.2.2.1
theorem dX2_close_43 : decode cX2_close 43 = .ok (.iload_n 1, 1) := sdX2_close_29.2.2.2.2.2.2.2.1
theorem sdX2_close_44 : dz_Seg cX2_close [(44, .iload_n 2, 1), (45, .iconst 2, 1), (46, .if_icmp .ne 13, 3), (49, .iconst 1, 1), (50, .iload 4, 2), (52, .iload 4, 2), (54, .imul, 1), (55, .iadd, 1)] := dz_sg _ 44 (by decide +kernel)
theorem dX2_close_44 : decode cX2_close 44 = .ok (.iload_n 2, 1) := sdX2_close_44.1
theorem dX2_close_45 : decode cX2_close 45 = .ok (.iconst 2, 1) := sdX2_close_44.2.1
theorem dX2_close_46 : decode cX2_close 46 = .ok (.if_icmp .ne 13, 3) := sdX2_close_44.2.2.1
theorem dX2_close_49 : decode cX2_close 49 = .ok (.iconst 1, 1) := sdX2_close_44.2.2.2.1
theorem dX2_close_50 : decode cX2_close 50 = .ok (.iload 4, 2) := sdX2_close_44.2.2.2.2.1
theorem dX2_close_52 : decode cX2_close 52 = .ok (.iload 4, 2) := sdX2_close_44.2.2.2.2.2.1
theorem dX2_close_54 : decode cX2_close 54 = .ok (.imul, 1) := sdX2_close_44.2.2.2.2.2.2.1
theorem dX2_close_55 : decode cX2_close 55 = .ok (.iadd, 1) := sdX2_close_44.2.2.2.2.2.2.2.1
theorem sdX2_close_56 : dz_Seg cX2_close [(56, .goto 16, 3), (59, .iload_n 2, 1), (60, .iconst 1, 1), (61, .if_icmp .ne 10, 3), (64, .iconst 1, 1), (65, .iload 4, 2), (67, .iadd, 1), (68, .goto 4, 3)] := dz_sg _ 56 (by decide +kernel)
theorem dX2_close_56 : decode cX2_close 56 = .ok (.goto 16, 3) := sdX2_close_56.1
theorem dX2_close_59 : decode cX2_close 59 = .ok (.iload_n 2, 1) := sdX2_close_56.2.1
theorem dX2_close_60 : decode cX2_close 60 = .ok (.iconst 1, 1) := sdX2_close_56.2.2.1
theorem dX2_close_61 : decode cX2_close 61 = .ok (.if_icmp .ne 10, 3) := sdX2_close_56.2.2.2.1
theorem dX2_close_64 : decode cX2_close 64 = .ok (.iconst 1, 1) := sdX2_close_56.2.2.2.2.1
theorem dX2_close_65 : decode cX2_close 65 = .ok (.iload 4, 2) := sdX2_close_56.2.2.2.2.2.1
theorem dX2_close_67 : decode cX2_close 67 = .ok (.iadd, 1) := sdX2_close_56.2.2.2.2.2.2.1
theorem dX2_close_68 : decode cX2_close 68 = .ok (.goto 4, 3) := sdX2_close_56.2.2.2.2.2.2.2.1
theorem sdX2_close_71 : dz_Seg cX2_close [(71, .iconst 1, 1), (72, .invokestatic 96, 3), (75, .return_, 1)] := dz_sg _ 71 (by decide +kernel)
theorem dX2_close_71 : decode cX2_close 71 = .ok (.iconst 1, 1) := sdX2_close_71.1
theorem dX2_close_72 : decode cX2_close 72 = .ok (.invokestatic 96, 3) := sdX2_close_71.2.1
theorem dX2_close_75 : decode cX2_close 75 = .ok (.return_, 1) := sdX2_close_71.2.2.1
theorem sdX2_wish_0 : dz_Seg cX2_wish [(0, .aload_n 0, 1), (1, .getfield 45, 3), (4, .iload_n 1, 1), (5, .iconst 3, 1), (6, .imul, 1), (7, .iload_n 2, 1), (8, .iadd, 1), (9, .invokestatic 62, 3)] := dz_sg _ 0 (by decide +kernel)
theorem dX2_wish_0 : decode cX2_wish 0 = .ok (.aload_n 0, 1) := sdX2_wish_0.1
theorem dX2_wish_1 : decode cX2_wish 1 = .ok (.getfield 45, 3) := sdX2_wish_0.2.1
theorem dX2_wish_4 : decode cX2_wish 4 = .ok (.iload_n 1, 1) := sdX2_wish_0.2.2.1
theorem dX2_wish_5 : decode cX2_wish 5 = .ok (.iconst 3, 1) := sdX2_wish_0.2.2.2.1
theorem dX2_wish_6 : decode cX2_wish 6 = .ok (.imul, 1) := sdX2_wish_0.2.2.2.2.1
theorem dX2_wish_7 : decode cX2_wish 7 = .ok (.iload_n 2, 1) := sdX2_wish_0.2.2.2.2.2.1
theorem dX2_wish_8 : decode cX2_wish 8 = .ok (.iadd, 1) := sdX2_wish_0.2.2.2.2.2.2.1
theorem dX2_wish_9 : decode cX2_wish 9 = .ok (.invokestatic 62, 3) := sdX2_wish_0.2.2.2.2.2.2.2.1
theorem sdX2_wish_12 : dz_Seg cX2_wish [(12, .ireturn, 1)] := dz_sg _ 12 (by decide +kernel)
theorem dX2_wish_12 : decode cX2_wish 12 = .ok (.ireturn, 1) := sdX2_wish_12.1
theorem sdX2_rankOf_0 : dz_Seg cX2_rankOf [(0, .iconst 0, 1), (1, .istore_n 3, 1), (2, .iload_n 3, 1), (3, .aload_n 0, 1), (4, .getfield 42, 3), (7, .iload_n 1, 1), (8, .invokestatic 62, 3), (11, .if_icmp .ge 21, 3)] := dz_sg _ 0 (by decide +kernel)
theorem dX2_rankOf_0 : decode cX2_rankOf 0 = .ok (.iconst 0, 1) := sdX2_rankOf_0.1
theorem dX2_rankOf_1 : decode cX2_rankOf 1 = .ok (.istore_n 3, 1) := sdX2_rankOf_0.2.1
theorem dX2_rankOf_2 : decode cX2_rankOf 2 = .ok (.iload_n 3, 1) := sdX2_rankOf_0.2.2.1
theorem dX2_rankOf_3 : decode cX2_rankOf 3 = .ok (.aload_n 0, 1) := sdX2_rankOf_0.2.2.2.1
theorem dX2_rankOf_4 : decode cX2_rankOf 4 = .ok (.getfield 42, 3) := sdX2_rankOf_0.2.2.2.2.1
theorem dX2_rankOf_7 : decode cX2_rankOf 7 = .ok (.iload_n 1, 1) := sdX2_rankOf_0.2.2.2.2.2.1
theorem dX2_rankOf_8 : decode cX2_rankOf 8 = .ok (.invokestatic 62, 3) := sdX2_rankOf_0.2.2.2.2.2.2.1
theorem dX2_rankOf_11 : decode cX2_rankOf 11 = .ok (.if_icmp .ge 21, 3) := sdX2_rankOf_0.2.2.2.2.2.2.2.1
theorem sdX2_rankOf_14 : dz_Seg cX2_rankOf [(14, .aload_n 0, 1), (15, .iload_n 1, 1), (16, .iload_n 3, 1), (17, .invokevirtual 115, 3), (20, .iload_n 2, 1), (21, .if_icmp .ne 5, 3), (24, .iload_n 3, 1), (25, .ireturn, 1)] := dz_sg _ 14 (by decide +kernel)
theorem dX2_rankOf_14 : decode cX2_rankOf 14 = .ok (.aload_n 0, 1) := sdX2_rankOf_14.1
theorem dX2_rankOf_15 : decode cX2_rankOf 15 = .ok (.iload_n 1, 1) := sdX2_rankOf_14.2.1
theorem dX2_rankOf_16 : decode cX2_rankOf 16 = .ok (.iload_n 3, 1) := sdX2_rankOf_14.2.2.1
theorem dX2_rankOf_17 : decode cX2_rankOf 17 = .ok (.invokevirtual 115, 3) := sdX2_rankOf_14.2.2.2.1
theorem dX2_rankOf_20 : decode cX2_rankOf 20 = .ok (.iload_n 2, 1) := sdX2_rankOf_14.2.2.2.2.1
theorem dX2_rankOf_21 : decode cX2_rankOf 21 = .ok (.if_icmp .ne 5, 3) := sdX2_rankOf_14.2.2.2.2.2.1
theorem dX2_rankOf_24 : decode cX2_rankOf 24 = .ok (.iload_n 3, 1) := sdX2_rankOf_14.2.2.2.2.2.2.1
theorem dX2_rankOf_25 : decode cX2_rankOf 25 = .ok (.ireturn, 1) := sdX2_rankOf_14.2.2.2.2.2.2.2.1
theorem sdX2_rankOf_26 : dz_Seg cX2_rankOf [(26, .iinc 3 1, 3), (29, .goto (-27), 3), (32, .iconst (-1), 1), (33, .ireturn, 1)] := dz_sg _ 26 (by decide +kernel)
theorem dX2_rankOf_26 : decode cX2_rankOf 26 = .ok (.iinc 3 1, 3) := sdX2_rankOf_26.1
theorem dX2_rankOf_29 : decode cX2_rankOf 29 = .ok (.goto (-27), 3) := sdX2_rankOf_26.2.1
theorem dX2_rankOf_32 : decode cX2_rankOf 32 = .ok (.iconst (-1), 1) := sdX2_rankOf_26.2.2.1
theorem dX2_rankOf_33 : decode cX2_rankOf 33 = .ok (.ireturn, 1) := sdX2_rankOf_26.2.2.2.1
theorem sdX2_fits_0 : dz_Seg cX2_fits [(0, .aload_n 0, 1), (1, .getfield 24, 3), (4, .iload_n 1, 1), (5, .invokestatic 62, 3), (8, .iload_n 2, 1), (9, .if_icmp .gt 19, 3), (12, .aload_n 0, 1), (13, .getfield 27, 3)] := dz_sg _ 0 (by decide +kernel)
theorem dX2_fits_0 : decode cX2_fits 0 = .ok (.aload_n 0, 1) := sdX2_fits_0.1
theorem dX2_fits_1 : decode cX2_fits 1 = .ok (.getfield 24, 3) := sdX2_fits_0.2.1
theorem dX2_fits_4 : decode cX2_fits 4 = .ok (.iload_n 1, 1) := sdX2_fits_0.2.2.1
theorem dX2_fits_5 : decode cX2_fits 5 = .ok (.invokestatic 62, 3) := sdX2_fits_0.2.2.2.1
theorem dX2_fits_8 : decode cX2_fits 8 = .ok (.iload_n 2, 1) := sdX2_fits_0.2.2.2.2.1
theorem dX2_fits_9 : decode cX2_fits 9 = .ok (.if_icmp .gt 19, 3) := sdX2_fits_0.2.2.2.2.2.1
theorem dX2_fits_12 : decode cX2_fits 12 = .ok (.aload_n 0, 1) := sdX2_fits_0.2.2.2.2.2.2.1
theorem dX2_fits_13 : decode cX2_fits 13 = .ok (.getfield 27, 3) := sdX2_fits_0.2.2.2.2.2.2.2.1
theorem sdX2_fits_16 : dz_Seg cX2_fits [(16, .iload_n 1, 1), (17, .invokestatic 62, 3), (20, .iload_n 3, 1), (21, .if_icmp .gt 7, 3), (24, .iconst 1, 1), (25, .goto 4, 3), (28, .iconst 0, 1), (29, .ireturn, 1)] := dz_sg _ 16 (by decide +kernel)
theorem dX2_fits_16 : decode cX2_fits 16 = .ok (.iload_n 1, 1) := sdX2_fits_16.1
theorem dX2_fits_17 : decode cX2_fits 17 = .ok (.invokestatic 62, 3) := sdX2_fits_16.2.1
theorem dX2_fits_20 : decode cX2_fits 20 = .ok (.iload_n 3, 1) := sdX2_fits_16.2.2.1
theorem dX2_fits_21 : decode cX2_fits 21 = .ok (.if_icmp .gt 7, 3) := sdX2_fits_16.2.2.2.1
theorem dX2_fits_24 : decode cX2_fits 24 = .ok (.iconst 1, 1) := sdX2_fits_16.2.2.2.2.1
theorem dX2_fits_25 : decode cX2_fits 25 = .ok (.goto 4, 3) := sdX2_fits_16.2.2.2.2.2.1
theorem dX2_fits_28 : decode cX2_fits 28 = .ok (.iconst 0, 1) := sdX2_fits_16.2.2.2.2.2.2.1
theorem dX2_fits_29 : decode cX2_fits 29 = .ok (.ireturn, 1) := sdX2_fits_16.2.2.2.2.2.2.2.1
theorem sdX2_firstApplicants_0 : dz_Seg cX2_firstApplicants [(0, .iconst 0, 1), (1, .istore_n 2, 1), (2, .iconst 0, 1), (3, .istore_n 3, 1), (4, .iload_n 3, 1), (5, .aload_n 0, 1), (6, .getfield 52, 3), (9, .if_icmp .ge 26, 3)] := dz_sg _ 0 (by decide +kernel)
theorem dX2_firstApplicants_0 : decode cX2_firstApplicants 0 = .ok (.iconst 0, 1) := sdX2_firstApplicants_0.1
theorem dX2_firstApplicants_1 : decode cX2_firstApplicants 1 = .ok (.istore_n 2, 1) := sdX2_firstApplicants_0.2.1
theorem dX2_firstApplicants_2 : decode cX2_firstApplicants 2 = .ok (.iconst 0, 1) := sdX2_firstApplicants_0.2.2.1
theorem dX2_firstApplicants_3 : decode cX2_firstApplicants 3 = .ok (.istore_n 3, 1) := sdX2_firstApplicants_0.2.2.2.1
theorem dX2_firstApplicants_4 : decode cX2_firstApplicants 4 = .ok (.iload_n 3, 1) := sdX2_firstApplicants_0.2.2.2.2.1
theorem dX2_firstApplicants_5 : decode cX2_firstApplicants 5 = .ok (.aload_n 0, 1) := sdX2_firstApplicants_0.2.2.2.2.2.1
theorem dX2_firstApplicants_6 : decode cX2_firstApplicants 6 = .ok (.getfield 52, 3) := sdX2_firstApplicants_0.2.2.2.2.2.2.1
theorem dX2_firstApplicants_9 : decode cX2_firstApplicants 9 = .ok (.if_icmp .ge 26, 3) := sdX2_firstApplicants_0.2.2.2.2.2.2.2.1
theorem sdX2_firstApplicants_12 : dz_Seg cX2_firstApplicants [(12, .iload_n 2, 1), (13, .aload_n 0, 1), (14, .iload_n 3, 1), (15, .iload_n 1, 1), (16, .invokevirtual 119, 3), (19, .ifCond .ne 7, 3), (22, .iconst 1, 1), (23, .goto 4, 3)] := dz_sg _ 12 (by decide +kernel)
theorem dX2_firstApplicants_12 : decode cX2_firstApplicants 12 = .ok (.iload_n 2, 1) := sdX2_firstApplicants_12.1
theorem dX2_firstApplicants_13 : decode cX2_firstApplicants 13 = .ok (.aload_n 0, 1) := sdX2_firstApplicants_12.2.1
theorem dX2_firstApplicants_14 : decode cX2_firstApplicants 14 = .ok (.iload_n 3, 1) := sdX2_firstApplicants_12.2.2.1
theorem dX2_firstApplicants_15 : decode cX2_firstApplicants 15 = .ok (.iload_n 1, 1) := sdX2_firstApplicants_12.2.2.2.1
theorem dX2_firstApplicants_16 : decode cX2_firstApplicants 16 = .ok (.invokevirtual 119, 3) := sdX2_firstApplicants_12.2.2.2.2.1
theorem dX2_firstApplicants_19 : decode cX2_firstApplicants 19 = .ok (.ifCond .ne 7, 3) := sdX2_firstApplicants_12.2.2.2.2.2.1
theorem dX2_firstApplicants_22 : decode cX2_firstApplicants 22 = .ok (.iconst 1, 1) := sdX2_firstApplicants_12.2.2.2.2.2.2.1
theorem dX2_firstApplicants_23 : decode cX2_firstApplicants 23 = .ok (.goto 4, 3) := sdX2_firstApplicants_12.2.2.2.2.2.2.2.1
theorem sdX2_firstApplicants_26 : dz_Seg cX2_firstApplicants [(26, .iconst 0, 1), (27, .iadd, 1), (28, .istore_n 2, 1), (29, .iinc 3 1, 3), (32, .goto (-28), 3), (35, .iload_n 2, 1), (36, .ireturn, 1)] := dz_sg _ 26 (by decide +kernel)
theorem dX2_firstApplicants_26 : decode cX2_firstApplicants 26 = .ok (.iconst 0, 1) := sdX2_firstApplicants_26.1
theorem dX2_firstApplicants_27 : decode cX2_firstApplicants 27 = .ok (.iadd, 1) := sdX2_firstApplicants_26.2.1
theorem dX2_firstApplicants_28 : decode cX2_firstApplicants 28 = .ok (.istore_n 2, 1) := sdX2_firstApplicants_26.2.2.1
theorem dX2_firstApplicants_29 : decode cX2_firstApplicants 29 = .ok (.iinc 3 1, 3) := sdX2_firstApplicants_26.2.2.2.1
theorem dX2_firstApplicants_32 : decode cX2_firstApplicants 32 = .ok (.goto (-28), 3) := sdX2_firstApplicants_26.2.2.2.2.1
theorem dX2_firstApplicants_35 : decode cX2_firstApplicants 35 = .ok (.iload_n 2, 1) := sdX2_firstApplicants_26.2.2.2.2.2.1
theorem dX2_firstApplicants_36 : decode cX2_firstApplicants 36 = .ok (.ireturn, 1) := sdX2_firstApplicants_26.2.2.2.2.2.2.1
theorem sdX2_firstHunters_0 : dz_Seg cX2_firstHunters [(0, .iconst 0, 1), (1, .istore_n 2, 1), (2, .iconst 0, 1), (3, .istore_n 3, 1), (4, .iload_n 3, 1), (5, .aload_n 0, 1), (6, .getfield 52, 3), (9, .if_icmp .ge 33, 3)] := dz_sg _ 0 (by decide +kernel)
theorem dX2_firstHunters_0 : decode cX2_firstHunters 0 = .ok (.iconst 0, 1) := sdX2_firstHunters_0.1
theorem dX2_firstHunters_1 : decode cX2_firstHunters 1 = .ok (.istore_n 2, 1) := sdX2_firstHunters_0.2.1
theorem dX2_firstHunters_2 : decode cX2_firstHunters 2 = .ok (.iconst 0, 1) := sdX2_firstHunters_0.2.2.1
theorem dX2_firstHunters_3 : decode cX2_firstHunters 3 = .ok (.istore_n 3, 1) := sdX2_firstHunters_0.2.2.2.1
theorem dX2_firstHunters_4 : decode cX2_firstHunters 4 = .ok (.iload_n 3, 1) := sdX2_firstHunters_0.2.2.2.2.1
theorem dX2_firstHunters_5 : decode cX2_firstHunters 5 = .ok (.aload_n 0, 1) := sdX2_firstHunters_0.2.2.2.2.2.1
theorem dX2_firstHunters_6 : decode cX2_firstHunters 6 = .ok (.getfield 52, 3) := sdX2_firstHunters_0.2.2.2.2.2.2.1
theorem dX2_firstHunters_9 : decode cX2_firstHunters 9 = .ok (.if_icmp .ge 33, 3) := sdX2_firstHunters_0.2.2.2.2.2.2.2.1
theorem sdX2_firstHunters_12 : dz_Seg cX2_firstHunters [(12, .iload_n 2, 1), (13, .aload_n 0, 1), (14, .iload_n 3, 1), (15, .iload_n 1, 1), (16, .invokevirtual 119, 3), (19, .ifCond .ne 14, 3), (22, .aload_n 0, 1), (23, .getfield 24, 3)] := dz_sg _ 12 (by decide +kernel)
theorem dX2_firstHunters_12 : decode cX2_firstHunters 12 = .ok (.iload_n 2, 1) := sdX2_firstHunters_12.1
theorem dX2_firstHunters_13 : decode cX2_firstHunters 13 = .ok (.aload_n 0, 1) := sdX2_firstHunters_12.2.1
theorem dX2_firstHunters_14 : decode cX2_firstHunters 14 = .ok (.iload_n 3, 1) := sdX2_firstHunters_12.2.2.1
theorem dX2_firstHunters_15 : decode cX2_firstHunters 15 = .ok (.iload_n 1, 1) := sdX2_firstHunters_12.2.2.2.1
theorem dX2_firstHunters_16 : decode cX2_firstHunters 16 = .ok (.invokevirtual 119, 3) := sdX2_firstHunters_12.2.2.2.2.1
theorem dX2_firstHunters_19 : decode cX2_firstHunters 19 = .ok (.ifCond .ne 14, 3) := sdX2_firstHunters_12.2.2.2.2.2.1
theorem dX2_firstHunters_22 : decode cX2_firstHunters 22 = .ok (.aload_n 0, 1) := sdX2_firstHunters_12.2.2.2.2.2.2.1
theorem dX2_firstHunters_23 : decode cX2_firstHunters 23 = .ok (.getfield 24, 3) := sdX2_firstHunters_12.2.2.2.2.2.2.2.1
theorem sdX2_firstHunters_26 : dz_Seg cX2_firstHunters [(26, .iload_n 3, 1), (27, .invokestatic 62, 3), (30, .goto 4, 3), (33, .iconst 0, 1), (34, .iadd, 1), (35, .istore_n 2, 1), (36, .iinc 3 1, 3), (39, .goto (-35), 3)] := dz_sg _ 26 (by decide +kernel)
theorem dX2_firstHunters_26 : decode cX2_firstHunters 26 = .ok (.iload_n 3, 1) := sdX2_firstHunters_26.1
theorem dX2_firstHunters_27 : decode cX2_firstHunters 27 = .ok (.invokestatic 62, 3) := sdX2_firstHunters_26.2.1
theorem dX2_firstHunters_30 : decode cX2_firstHunters 30 = .ok (.goto 4, 3) := sdX2_firstHunters_26.2.2.1
theorem dX2_firstHunters_33 : decode cX2_firstHunters 33 = .ok (.iconst 0, 1) := sdX2_firstHunters_26.2.2.2.1
theorem dX2_firstHunters_34 : decode cX2_firstHunters 34 = .ok (.iadd, 1) := sdX2_firstHunters_26.2.2.2.2.1
theorem dX2_firstHunters_35 : decode cX2_firstHunters 35 = .ok (.istore_n 2, 1) := sdX2_firstHunters_26.2.2.2.2.2.1
theorem dX2_firstHunters_36 : decode cX2_firstHunters 36 = .ok (.iinc 3 1, 3) := sdX2_firstHunters_26.2.2.2.2.2.2.1
theorem dX2_firstHunters_39 : decode cX2_firstHunters 39 = .ok (.goto (-35), 3) := sdX2_firstHunters_26.2.2.2.2.2.2.2.1
theorem sdX2_firstHunters_42 : dz_Seg cX2_firstHunters [(42, .iload_n 2, 1), (43, .ireturn, 1)] := dz_sg _ 42 (by decide +kernel)
theorem dX2_firstHunters_42 : decode cX2_firstHunters 42 = .ok (.iload_n 2, 1) := sdX2_firstHunters_42.1
theorem dX2_firstHunters_43 : decode cX2_firstHunters 43 = .ok (.ireturn, 1) := sdX2_firstHunters_42.2.1
theorem sdX2_askers_0 : dz_Seg cX2_askers [(0, .iconst 0, 1), (1, .istore_n 2, 1), (2, .iconst 0, 1), (3, .istore_n 3, 1), (4, .iload_n 3, 1), (5, .aload_n 0, 1), (6, .getfield 52, 3), (9, .if_icmp .ge 27, 3)] := dz_sg _ 0 (by decide +kernel)
theorem dX2_askers_0 : decode cX2_askers 0 = .ok (.iconst 0, 1) := sdX2_askers_0.1
theorem dX2_askers_1 : decode cX2_askers 1 = .ok (.istore_n 2, 1) := sdX2_askers_0.2.1
theorem dX2_askers_2 : decode cX2_askers 2 = .ok (.iconst 0, 1) := sdX2_askers_0.2.2.1
theorem dX2_askers_3 : decode cX2_askers 3 = .ok (.istore_n 3, 1) := sdX2_askers_0.2.2.2.1
theorem dX2_askers_4 : decode cX2_askers 4 = .ok (.iload_n 3, 1) := sdX2_askers_0.2.2.2.2.1
theorem dX2_askers_5 : decode cX2_askers 5 = .ok (.aload_n 0, 1) := sdX2_askers_0.2.2.2.2.2.1
theorem dX2_askers_6 : decode cX2_askers 6 = .ok (.getfield 52, 3) := sdX2_askers_0.2.2.2.2.2.2.1
theorem dX2_askers_9 : decode cX2_askers 9 = .ok (.if_icmp .ge 27, 3) := sdX2_askers_0.2.2.2.2.2.2.2.1
theorem sdX2_askers_12 : dz_Seg cX2_askers [(12, .iload_n 2, 1), (13, .aload_n 0, 1), (14, .iload_n 3, 1), (15, .iload_n 1, 1), (16, .invokevirtual 119, 3), (19, .iconst (-1), 1), (20, .if_icmp .ne 7, 3), (23, .iconst 0, 1)] := dz_sg _ 12 (by decide +kernel)
theorem dX2_askers_12 : decode cX2_askers 12 = .ok (.iload_n 2, 1) := sdX2_askers_12.1
theorem dX2_askers_13 : decode cX2_askers 13 = .ok (.aload_n 0, 1) := sdX2_askers_12.2.1
theorem dX2_askers_14 : decode cX2_askers 14 = .ok (.iload_n 3, 1) := sdX2_askers_12.2.2.1
theorem dX2_askers_15 : decode cX2_askers 15 = .ok (.iload_n 1, 1) := sdX2_askers_12.2.2.2.1
theorem dX2_askers_16 : decode cX2_askers 16 = .ok (.invokevirtual 119, 3) := sdX2_askers_12.2.2.2.2.1
theorem dX2_askers_19 : decode cX2_askers 19 = .ok (.iconst (-1), 1) := sdX2_askers_12.2.2.2.2.2.1
theorem dX2_askers_20 : decode cX2_askers 20 = .ok (.if_icmp .ne 7, 3) := sdX2_askers_12.2.2.2.2.2.2.1
theorem dX2_askers_23 : decode cX2_askers 23 = .ok (.iconst 0, 1) := sdX2_askers_12.2.2.2.2.2.2.2.1
theorem sdX2_askers_24 : dz_Seg cX2_askers [(24, .goto 4, 3), (27, .iconst 1, 1), (28, .iadd, 1), (29, .istore_n 2, 1), (30, .iinc 3 1, 3), (33, .goto (-29), 3), (36, .iload_n 2, 1), (37, .ireturn, 1)] := dz_sg _ 24 (by decide +kernel)
theorem dX2_askers_24 : decode cX2_askers 24 = .ok (.goto 4, 3) := sdX2_askers_24.1
theorem dX2_askers_27 : decode cX2_askers 27 = .ok (.iconst 1, 1) := sdX2_askers_24.2.1
theorem dX2_askers_28 : decode cX2_askers 28 = .ok (.iadd, 1) := sdX2_askers_24.2.2.1
theorem dX2_askers_29 : decode cX2_askers 29 = .ok (.istore_n 2, 1) := sdX2_askers_24.2.2.2.1
theorem dX2_askers_30 : decode cX2_askers 30 = .ok (.iinc 3 1, 3) := sdX2_askers_24.2.2.2.2.1
theorem dX2_askers_33 : decode cX2_askers 33 = .ok (.goto (-29), 3) := sdX2_askers_24.2.2.2.2.2.1
theorem dX2_askers_36 : decode cX2_askers 36 = .ok (.iload_n 2, 1) := sdX2_askers_24.2.2.2.2.2.2.1
theorem dX2_askers_37 : decode cX2_askers 37 = .ok (.ireturn, 1) := sdX2_askers_24.2.2.2.2.2.2.2.1
theorem sdX3_init_0 : dz_Seg cX3_init [(0, .aload_n 0, 1), (1, .invokespecial 3, 3), (4, .aload_n 0, 1), (5, .new 9, 3), (8, .dup, 1), (9, .invokespecial 11, 3), (12, .putfield 12, 3), (15, .aload_n 0, 1)] := dz_sg _ 0 (by decide +kernel)
theorem dX3_init_0 : decode cX3_init 0 = .ok (.aload_n 0, 1) := sdX3_init_0.1
theorem dX3_init_1 : decode cX3_init 1 = .ok (.invokespecial 3, 3) := sdX3_init_0.2.1
theorem dX3_init_4 : decode cX3_init 4 = .ok (.aload_n 0, 1) := sdX3_init_0.2.2.1
theorem dX3_init_5 : decode cX3_init 5 = .ok (.new 9, 3) := sdX3_init_0.2.2.2.1
theorem dX3_init_8 : decode cX3_init 8 = .ok (.dup, 1) := sdX3_init_0.2.2.2.2.1
theorem dX3_init_9 : decode cX3_init 9 = .ok (.invokespecial 11, 3) := sdX3_init_0.2.2.2.2.2.1
theorem dX3_init_12 : decode cX3_init 12 = .ok (.putfield 12, 3) := sdX3_init_0.2.2.2.2.2.2.1
theorem dX3_init_15 : decode cX3_init 15 = .ok (.aload_n 0, 1) := sdX3_init_0.2.2.2.2.2.2.2.1
theorem sdX3_init_16 : dz_Seg cX3_init [(16, .iconst (-1), 1), (17, .putfield 18, 3), (20, .aload_n 0, 1), (21, .iconst (-1), 1), (22, .putfield 22, 3), (25, .aload_n 0, 1), (26, .sipush 700, 3), (29, .newarray .int, 2)] := dz_sg _ 16 (by decide +kernel)
theorem dX3_init_16 : decode cX3_init 16 = .ok (.iconst (-1), 1) := sdX3_init_16.1
theorem dX3_init_17 : decode cX3_init 17 = .ok (.putfield 18, 3) := sdX3_init_16.2.1
theorem dX3_init_20 : decode cX3_init 20 = .ok (.aload_n 0, 1) := sdX3_init_16.2.2.1
theorem dX3_init_21 : decode cX3_init 21 = .ok (.iconst (-1), 1) := sdX3_init_16.2.2.2.1
theorem dX3_init_22 : decode cX3_init 22 = .ok (.putfield 22, 3) := sdX3_init_16.2.2.2.2.1
theorem dX3_init_25 : decode cX3_init 25 = .ok (.aload_n 0, 1) := sdX3_init_16.2.2.2.2.2.1
theorem dX3_init_26 : decode cX3_init 26 = .ok (.sipush 700, 3) := sdX3_init_16.2.2.2.2.2.2.1
theorem dX3_init_29 : decode cX3_init 29 = .ok (.newarray .int, 2) := sdX3_init_16.2.2.2.2.2.2.2.1
theorem sdX3_init_31 : dz_Seg cX3_init [(31, .putfield 25, 3), (34, .aload_n 0, 1), (35, .iconst 5, 1), (36, .newarray .long, 2), (38, .putfield 29, 3), (41, .aload_n 0, 1), (42, .bipush 10, 2), (44, .newarray .long, 2)] := dz_sg _ 31 (by decide +kernel)
theorem dX3_init_31 : decode cX3_init 31 = .ok (.putfield 25, 3) := sdX3_init_31.1
theorem dX3_init_34 : decode cX3_init 34 = .ok (.aload_n 0, 1) := sdX3_init_31.2.1
theorem dX3_init_35 : decode cX3_init 35 = .ok (.iconst 5, 1) := sdX3_init_31.2.2.1
theorem dX3_init_36 : decode cX3_init 36 = .ok (.newarray .long, 2) := sdX3_init_31.2.2.2.1
theorem dX3_init_38 : decode cX3_init 38 = .ok (.putfield 29, 3) := sdX3_init_31.2.2.2.2.1
theorem dX3_init_41 : decode cX3_init 41 = .ok (.aload_n 0, 1) := sdX3_init_31.2.2.2.2.2.1
theorem dX3_init_42 : decode cX3_init 42 = .ok (.bipush 10, 2) := sdX3_init_31.2.2.2.2.2.2.1
theorem dX3_init_44 : decode cX3_init 44 = .ok (.newarray .long, 2) := sdX3_init_31.2.2.2.2.2.2.2.1
theorem sdX3_init_46 : dz_Seg cX3_init [(46, .putfield 33, 3), (49, .aload_n 0, 1), (50, .iconst 4, 1), (51, .newarray .long, 2), (53, .putfield 36, 3), (56, .aload_n 0, 1), (57, .iconst 3, 1), (58, .newarray .int, 2)] := dz_sg _ 46 (by decide +kernel)
theorem dX3_init_46 : decode cX3_init 46 = .ok (.putfield 33, 3) := sdX3_init_46.1
theorem dX3_init_49 : decode cX3_init 49 = .ok (.aload_n 0, 1) := sdX3_init_46.2.1
theorem dX3_init_50 : decode cX3_init 50 = .ok (.iconst 4, 1) := sdX3_init_46.2.2.1
theorem dX3_init_51 : decode cX3_init 51 = .ok (.newarray .long, 2) := sdX3_init_46.2.2.2.1
theorem dX3_init_53 : decode cX3_init 53 = .ok (.putfield 36, 3) := sdX3_init_46.2.2.2.2.1
theorem dX3_init_56 : decode cX3_init 56 = .ok (.aload_n 0, 1) := sdX3_init_46.2.2.2.2.2.1
theorem dX3_init_57 : decode cX3_init 57 = .ok (.iconst 3, 1) := sdX3_init_46.2.2.2.2.2.2.1
theorem dX3_init_58 : decode cX3_init 58 = .ok (.newarray .int, 2) := sdX3_init_46.2.2.2.2.2.2.2.1
theorem sdX3_init_60 : dz_Seg cX3_init [(60, .putfield 39, 3), (63, .return_, 1)] := dz_sg _ 60 (by decide +kernel)
theorem dX3_init_60 : decode cX3_init 60 = .ok (.putfield 39, 3) := sdX3_init_60.1
theorem dX3_init_63 : decode cX3_init 63 = .ok (.return_, 1) := sdX3_init_60.2.1
theorem sdX3_read_0 : dz_Seg cX3_read [(0, .aload_n 1, 1), (1, .aload_n 0, 1), (2, .getfield 25, 3), (5, .invokestatic 42, 3), (8, .aload_n 0, 1), (9, .iload_n 2, 1), (10, .sipush 700, 3), (13, .invokestatic 46, 3)] := dz_sg _ 0 (by decide +kernel)
theorem dX3_read_0 : decode cX3_read 0 = .ok (.aload_n 1, 1) := sdX3_read_0.1
theorem dX3_read_1 : decode cX3_read 1 = .ok (.aload_n 0, 1) := sdX3_read_0.2.1
theorem dX3_read_2 : decode cX3_read 2 = .ok (.getfield 25, 3) := sdX3_read_0.2.2.1
theorem dX3_read_5 : decode cX3_read 5 = .ok (.invokestatic 42, 3) := sdX3_read_0.2.2.2.1
theorem dX3_read_8 : decode cX3_read 8 = .ok (.aload_n 0, 1) := sdX3_read_0.2.2.2.2.1
theorem dX3_read_9 : decode cX3_read 9 = .ok (.iload_n 2, 1) := sdX3_read_0.2.2.2.2.2.1
theorem dX3_read_10 : decode cX3_read 10 = .ok (.sipush 700, 3) := sdX3_read_0.2.2.2.2.2.2.1
theorem dX3_read_13 : decode cX3_read 13 = .ok (.invokestatic 46, 3) := sdX3_read_0.2.2.2.2.2.2.2.1
theorem sdX3_read_16 : dz_Seg cX3_read [(16, .putfield 52, 3), (19, .aload_n 0, 1), (20, .iconst 0, 1), (21, .putfield 55, 3), (24, .aload_n 0, 1), (25, .iconst 0, 1), (26, .putfield 58, 3), (29, .aload_n 0, 1)] := dz_sg _ 16 (by decide +kernel)
theorem dX3_read_16 : decode cX3_read 16 = .ok (.putfield 52, 3) := sdX3_read_16.1
theorem dX3_read_19 : decode cX3_read 19 = .ok (.aload_n 0, 1) := sdX3_read_16.2.1
theorem dX3_read_20 : decode cX3_read 20 = .ok (.iconst 0, 1) := sdX3_read_16.2.2.1
theorem dX3_read_21 : decode cX3_read 21 = .ok (.putfield 55, 3) := sdX3_read_16.2.2.2.1
theorem dX3_read_24 : decode cX3_read 24 = .ok (.aload_n 0, 1) := sdX3_read_16.2.2.2.2.1
theorem dX3_read_25 : decode cX3_read 25 = .ok (.iconst 0, 1) := sdX3_read_16.2.2.2.2.2.1
theorem dX3_read_26 : decode cX3_read 26 = .ok (.putfield 58, 3) := sdX3_read_16.2.2.2.2.2.2.1
theorem dX3_read_29 : decode cX3_read 29 = .ok (.aload_n 0, 1) := sdX3_read_16.2.2.2.2.2.2.2.1
theorem sdX3_read_30 : dz_Seg cX3_read [(30, .iconst 0, 1), (31, .putfield 62, 3), (34, .aload_n 0, 1), (35, .iconst 0, 1), (36, .putfield 65, 3), (39, .aload_n 0, 1), (40, .getfield 12, 3), (43, .invokevirtual 68, 3)] := dz_sg _ 30 (by decide +kernel)
theorem dX3_read_30 : decode cX3_read 30 = .ok (.iconst 0, 1) := sdX3_read_30.1
theorem dX3_read_31 : decode cX3_read 31 = .ok (.putfield 62, 3) := sdX3_read_30.2.1
theorem dX3_read_34 : decode cX3_read 34 = .ok (.aload_n 0, 1) := sdX3_read_30.2.2.1
theorem dX3_read_35 : decode cX3_read 35 = .ok (.iconst 0, 1) := sdX3_read_30.2.2.2.1
theorem dX3_read_36 : decode cX3_read 36 = .ok (.putfield 65, 3) := sdX3_read_30.2.2.2.2.1
theorem dX3_read_39 : decode cX3_read 39 = .ok (.aload_n 0, 1) := sdX3_read_30.2.2.2.2.2.1
theorem dX3_read_40 : decode cX3_read 40 = .ok (.getfield 12, 3) := sdX3_read_30.2.2.2.2.2.2.1
theorem dX3_read_43 : decode cX3_read 43 = .ok (.invokevirtual 68, 3) := sdX3_read_30.2.2.2.2.2.2.2.1
theorem sdX3_read_46 : dz_Seg cX3_read [(46, .aload_n 0, 1), (47, .iconst 0, 1), (48, .putfield 18, 3), (51, .aload_n 0, 1), (52, .iconst (-1), 1), (53, .putfield 22, 3), (56, .aload_n 0, 1), (57, .invokevirtual 71, 3)] := dz_sg _ 46 (by decide +kernel)
theorem dX3_read_46 : decode cX3_read 46 = .ok (.aload_n 0, 1) := sdX3_read_46.1
theorem dX3_read_47 : decode cX3_read 47 = .ok (.iconst 0, 1) := sdX3_read_46.2.1
theorem dX3_read_48 : decode cX3_read 48 = .ok (.putfield 18, 3) := sdX3_read_46.2.2.1
theorem dX3_read_51 : decode cX3_read 51 = .ok (.aload_n 0, 1) := sdX3_read_46.2.2.2.1
theorem dX3_read_52 : decode cX3_read 52 = .ok (.iconst (-1), 1) := sdX3_read_46.2.2.2.2.1
theorem dX3_read_53 : decode cX3_read 53 = .ok (.putfield 22, 3) := sdX3_read_46.2.2.2.2.2.1
theorem dX3_read_56 : decode cX3_read 56 = .ok (.aload_n 0, 1) := sdX3_read_46.2.2.2.2.2.2.1
theorem dX3_read_57 : decode cX3_read 57 = .ok (.invokevirtual 71, 3) := sdX3_read_46.2.2.2.2.2.2.2.1
theorem sdX3_read_60 : dz_Seg cX3_read [(60, .iconst 0, 1), (61, .istore_n 3, 1), (62, .iload_n 3, 1), (63, .sipush 700, 3), (66, .if_icmp .ge 25, 3), (69, .aload_n 0, 1), (70, .getfield 74, 3), (73, .ifCond .eq 18, 3)] := dz_sg _ 60 (by decide +kernel)
theorem dX3_read_60 : decode cX3_read 60 = .ok (.iconst 0, 1) := sdX3_read_60.1
theorem dX3_read_61 : decode cX3_read 61 = .ok (.istore_n 3, 1) := sdX3_read_60.2.1
theorem dX3_read_62 : decode cX3_read 62 = .ok (.iload_n 3, 1) := sdX3_read_60.2.2.1
theorem dX3_read_63 : decode cX3_read 63 = .ok (.sipush 700, 3) := sdX3_read_60.2.2.2.1
theorem dX3_read_66 : decode cX3_read 66 = .ok (.if_icmp .ge 25, 3) := sdX3_read_60.2.2.2.2.1
theorem dX3_read_69 : decode cX3_read 69 = .ok (.aload_n 0, 1) := sdX3_read_60.2.2.2.2.2.1
theorem dX3_read_70 : decode cX3_read 70 = .ok (.getfield 74, 3) := sdX3_read_60.2.2.2.2.2.2.1
theorem dX3_read_73 : decode cX3_read 73 = .ok (.ifCond .eq 18, 3) := sdX3_read_60.2.2.2.2.2.2.2.1
theorem sdX3_read_76 : dz_Seg cX3_read [(76, .aload_n 0, 1), (77, .invokevirtual 77, 3), (80, .ifCond .ne 5, 3), (83, .iconst 0, 1), (84, .ireturn, 1), (85, .iinc 3 1, 3), (88, .goto (-26), 3), (91, .iconst 1, 1)] := dz_sg _ 76 (by decide +kernel)
theorem dX3_read_76 : decode cX3_read 76 = .ok (.aload_n 0, 1) := sdX3_read_76.1
theorem dX3_read_77 : decode cX3_read 77 = .ok (.invokevirtual 77, 3) := sdX3_read_76.2.1
theorem dX3_read_80 : decode cX3_read 80 = .ok (.ifCond .ne 5, 3) := sdX3_read_76.2.2.1
theorem dX3_read_83 : decode cX3_read 83 = .ok (.iconst 0, 1) := sdX3_read_76.2.2.2.1
theorem dX3_read_84 : decode cX3_read 84 = .ok (.ireturn, 1) := sdX3_read_76.2.2.2.2.1
theorem dX3_read_85 : decode cX3_read 85 = .ok (.iinc 3 1, 3) := sdX3_read_76.2.2.2.2.2.1
theorem dX3_read_88 : decode cX3_read 88 = .ok (.goto (-26), 3) := sdX3_read_76.2.2.2.2.2.2.1
theorem dX3_read_91 : decode cX3_read 91 = .ok (.iconst 1, 1) := sdX3_read_76.2.2.2.2.2.2.2.1
theorem sdX3_read_92 : dz_Seg cX3_read [(92, .ireturn, 1)] := dz_sg _ 92 (by decide +kernel)
theorem dX3_read_92 : decode cX3_read 92 = .ok (.ireturn, 1) := sdX3_read_92.1
theorem sdX3_step_0 : dz_Seg cX3_step [(0, .aload_n 0, 1), (1, .getfield 55, 3), (4, .aload_n 0, 1), (5, .getfield 52, 3), (8, .if_icmp .ge 33, 3), (11, .aload_n 0, 1), (12, .getfield 25, 3), (15, .aload_n 0, 1)] := dz_sg _ 0 (by decide +kernel)
theorem dX3_step_0 : decode cX3_step 0 = .ok (.aload_n 0, 1) := sdX3_step_0.1
theorem dX3_step_1 : decode cX3_step 1 = .ok (.getfield 55, 3) := sdX3_step_0.2.1
theorem dX3_step_4 : decode cX3_step 4 = .ok (.aload_n 0, 1) := sdX3_step_0.2.2.1
theorem dX3_step_5 : decode cX3_step 5 = .ok (.getfield 52, 3) := sdX3_step_0.2.2.2.1
theorem dX3_step_8 : decode cX3_step 8 = .ok (.if_icmp .ge 33, 3) := sdX3_step_0.2.2.2.2.1
theorem dX3_step_11 : decode cX3_step 11 = .ok (.aload_n 0, 1) := sdX3_step_0.2.2.2.2.2.1
theorem dX3_step_12 : decode cX3_step 12 = .ok (.getfield 25, 3) := sdX3_step_0.2.2.2.2.2.2.1
theorem dX3_step_15 : decode cX3_step 15 = .ok (.aload_n 0, 1) := sdX3_step_0.2.2.2.2.2.2.2.1
theorem sdX3_step_16 : dz_Seg cX3_step [(16, .getfield 55, 3), (19, .invokestatic 81, 3), (22, .invokestatic 85, 3), (25, .ifCond .eq 16, 3), (28, .aload_n 0, 1), (29, .dup, 1), (30, .getfield 55, 3), (33, .iconst 1, 1)] := dz_sg _ 16 (by decide +kernel)
theorem dX3_step_16 : decode cX3_step 16 = .ok (.getfield 55, 3) := sdX3_step_16.1
theorem dX3_step_19 : decode cX3_step 19 = .ok (.invokestatic 81, 3) := sdX3_step_16.2.1
theorem dX3_step_22 : decode cX3_step 22 = .ok (.invokestatic 85, 3) := sdX3_step_16.2.2.1
theorem dX3_step_25 : decode cX3_step 25 = .ok (.ifCond .eq 16, 3) := sdX3_step_16.2.2.2.1
theorem dX3_step_28 : decode cX3_step 28 = .ok (.aload_n 0, 1) := sdX3_step_16.2.2.2.2.1
theorem dX3_step_29 : decode cX3_step 29 = .ok (.dup, 1) := sdX3_step_16.2.2.2.2.2.1
theorem dX3_step_30 : decode cX3_step 30 = .ok (.getfield 55, 3) := sdX3_step_16.2.2.2.2.2.2.1
theorem dX3_step_33 : decode cX3_step 33 = .ok (.iconst 1, 1) := sdX3_step_16.2.2.2.2.2.2.2.1
theorem sdX3_step_34 : dz_Seg cX3_step [(34, .iadd, 1), (35, .putfield 55, 3), (38, .goto (-38), 3), (41, .aload_n 0, 1), (42, .aload_n 0, 1), (43, .getfield 55, 3), (46, .putfield 89, 3), (49, .aload_n 0, 1)] := dz_sg _ 34 (by decide +kernel)
theorem dX3_step_34 : decode cX3_step 34 = .ok (.iadd, 1) := sdX3_step_34.1
theorem dX3_step_35 : decode cX3_step 35 = .ok (.putfield 55, 3) := sdX3_step_34.2.1
theorem dX3_step_38 : decode cX3_step 38 = .ok (.goto (-38), 3) := sdX3_step_34.2.2.1
theorem dX3_step_41 : decode cX3_step 41 = .ok (.aload_n 0, 1) := sdX3_step_34.2.2.2.1
theorem dX3_step_42 : decode cX3_step 42 = .ok (.aload_n 0, 1) := sdX3_step_34.2.2.2.2.1
theorem dX3_step_43 : decode cX3_step 43 = .ok (.getfield 55, 3) := sdX3_step_34.2.2.2.2.2.1
theorem dX3_step_46 : decode cX3_step 46 = .ok (.putfield 89, 3) := sdX3_step_34.2.2.2.2.2.2.1
theorem dX3_step_49 : decode cX3_step 49 = .ok (.aload_n 0, 1) := sdX3_step_34.2.2.2.2.2.2.2.1
theorem sdX3_step_50 : dz_Seg cX3_step [(50, .getfield 25, 3), (53, .aload_n 0, 1), (54, .getfield 55, 3), (57, .invokestatic 81, 3), (60, .istore_n 1, 1), (61, .aload_n 0, 1), (62, .getfield 55, 3), (65, .aload_n 0, 1)] := dz_sg _ 50 (by decide +kernel)
theorem dX3_step_50 : decode cX3_step 50 = .ok (.getfield 25, 3) := sdX3_step_50.1
theorem dX3_step_53 : decode cX3_step 53 = .ok (.aload_n 0, 1) := sdX3_step_50.2.1
theorem dX3_step_54 : decode cX3_step 54 = .ok (.getfield 55, 3) := sdX3_step_50.2.2.1
theorem dX3_step_57 : decode cX3_step 57 = .ok (.invokestatic 81, 3) := sdX3_step_50.2.2.2.1
theorem dX3_step_60 : decode cX3_step 60 = .ok (.istore_n 1, 1) := sdX3_step_50.2.2.2.2.1
theorem dX3_step_61 : decode cX3_step 61 = .ok (.aload_n 0, 1) := sdX3_step_50.2.2.2.2.2.1
theorem dX3_step_62 : decode cX3_step 62 = .ok (.getfield 55, 3) := sdX3_step_50.2.2.2.2.2.2.1
theorem dX3_step_65 : decode cX3_step 65 = .ok (.aload_n 0, 1) := sdX3_step_50.2.2.2.2.2.2.2.1
theorem sdX3_step_66 : dz_Seg cX3_step [(66, .getfield 52, 3), (69, .if_icmp .lt 11, 3), (72, .aload_n 0, 1), (73, .iconst 0, 1), (74, .putfield 74, 3), (77, .goto 60, 3), (80, .iload_n 1, 1), (81, .invokestatic 92, 3)] := dz_sg _ 66 (by decide +kernel)
theorem dX3_step_66 : decode cX3_step 66 = .ok (.getfield 52, 3) := sdX3_step_66.1
theorem dX3_step_69 : decode cX3_step 69 = .ok (.if_icmp .lt 11, 3) := sdX3_step_66.2.1
theorem dX3_step_72 : decode cX3_step 72 = .ok (.aload_n 0, 1) := sdX3_step_66.2.2.1
theorem dX3_step_73 : decode cX3_step 73 = .ok (.iconst 0, 1) := sdX3_step_66.2.2.2.1
theorem dX3_step_74 : decode cX3_step 74 = .ok (.putfield 74, 3) := sdX3_step_66.2.2.2.2.1
theorem dX3_step_77 : decode cX3_step 77 = .ok (.goto 60, 3) := sdX3_step_66.2.2.2.2.2.1
theorem dX3_step_80 : decode cX3_step 80 = .ok (.iload_n 1, 1) := sdX3_step_66.2.2.2.2.2.2.1
theorem dX3_step_81 : decode cX3_step 81 = .ok (.invokestatic 92, 3) := sdX3_step_66.2.2.2.2.2.2.2.1
theorem sdX3_step_84 : dz_Seg cX3_step [(84, .ifCond .eq 10, 3), (87, .aload_n 0, 1), (88, .invokevirtual 95, 3), (91, .goto 46, 3), (94, .iload_n 1, 1), (95, .invokestatic 98, 3), (98, .ifCond .eq 10, 3), (101, .aload_n 0, 1)] := dz_sg _ 84 (by decide +kernel)
theorem dX3_step_84 : decode cX3_step 84 = .ok (.ifCond .eq 10, 3) := sdX3_step_84.1
theorem dX3_step_87 : decode cX3_step 87 = .ok (.aload_n 0, 1) := sdX3_step_84.2.1
theorem dX3_step_88 : decode cX3_step 88 = .ok (.invokevirtual 95, 3) := sdX3_step_84.2.2.1
theorem dX3_step_91 : decode cX3_step 91 = .ok (.goto 46, 3) := sdX3_step_84.2.2.2.1
theorem dX3_step_94 : decode cX3_step 94 = .ok (.iload_n 1, 1) := sdX3_step_84.2.2.2.2.1
theorem dX3_step_95 : decode cX3_step 95 = .ok (.invokestatic 98, 3) := sdX3_step_84.2.2.2.2.2.1
theorem dX3_step_98 : decode cX3_step 98 = .ok (.ifCond .eq 10, 3) := sdX3_step_84.2.2.2.2.2.2.1
theorem dX3_step_101 : decode cX3_step 101 = .ok (.aload_n 0, 1) := sdX3_step_84.2.2.2.2.2.2.2.1
theorem sdX3_step_102 : dz_Seg cX3_step [(102, .invokevirtual 101, 3), (105, .goto 32, 3), (108, .iload_n 1, 1), (109, .bipush 59, 2), (111, .if_icmp .ne 21, 3), (114, .aload_n 0, 1), (115, .iconst 3, 1), (116, .putfield 74, 3)] := dz_sg _ 102 (by decide +kernel)
theorem dX3_step_102 : decode cX3_step 102 = .ok (.invokevirtual 101, 3) := sdX3_step_102.1
theorem dX3_step_105 : decode cX3_step 105 = .ok (.goto 32, 3) := sdX3_step_102.2.1
theorem dX3_step_108 : decode cX3_step 108 = .ok (.iload_n 1, 1) := sdX3_step_102.2.2.1
theorem dX3_step_109 : decode cX3_step 109 = .ok (.bipush 59, 2) := sdX3_step_102.2.2.2.1
theorem dX3_step_111 : decode cX3_step 111 = .ok (.if_icmp .ne 21, 3) := sdX3_step_102.2.2.2.2.1
theorem dX3_step_114 : decode cX3_step 114 = .ok (.aload_n 0, 1) := sdX3_step_102.2.2.2.2.2.1
theorem dX3_step_115 : decode cX3_step 115 = .ok (.iconst 3, 1) := sdX3_step_102.2.2.2.2.2.2.1
theorem dX3_step_116 : decode cX3_step 116 = .ok (.putfield 74, 3) := sdX3_step_102.2.2.2.2.2.2.2.1
theorem sdX3_step_119 : dz_Seg cX3_step [(119, .aload_n 0, 1), (120, .dup, 1), (121, .getfield 55, 3), (124, .iconst 1, 1), (125, .iadd, 1), (126, .putfield 55, 3), (129, .goto 8, 3), (132, .aload_n 0, 1)] := dz_sg _ 119 (by decide +kernel)
theorem dX3_step_119 : decode cX3_step 119 = .ok (.aload_n 0, 1) := sdX3_step_119.1
theorem dX3_step_120 : decode cX3_step 120 = .ok (.dup, 1) := sdX3_step_119.2.1
theorem dX3_step_121 : decode cX3_step 121 = .ok (.getfield 55, 3) := sdX3_step_119.2.2.1
theorem dX3_step_124 : decode cX3_step 124 = .ok (.iconst 1, 1) := sdX3_step_119.2.2.2.1
theorem dX3_step_125 : decode cX3_step 125 = .ok (.iadd, 1) := sdX3_step_119.2.2.2.2.1
theorem dX3_step_126 : decode cX3_step 126 = .ok (.putfield 55, 3) := sdX3_step_119.2.2.2.2.2.1
theorem dX3_step_129 : decode cX3_step 129 = .ok (.goto 8, 3) := sdX3_step_119.2.2.2.2.2.2.1
theorem dX3_step_132 : decode cX3_step 132 = .ok (.aload_n 0, 1) := sdX3_step_119.2.2.2.2.2.2.2.1
theorem sdX3_step_133 : dz_Seg cX3_step [(133, .iconst 4, 1), (134, .putfield 74, 3), (137, .return_, 1)] := dz_sg _ 133 (by decide +kernel)
theorem dX3_step_133 : decode cX3_step 133 = .ok (.iconst 4, 1) := sdX3_step_133.1
theorem dX3_step_134 : decode cX3_step 134 = .ok (.putfield 74, 3) := sdX3_step_133.2.1
theorem dX3_step_137 : decode cX3_step 137 = .ok (.return_, 1) := sdX3_step_133.2.2.1
theorem sdX3_stepWord_0 : dz_Seg cX3_stepWord [(0, .aload_n 0, 1), (1, .lconst 0, 1), (2, .putfield 104, 3), (5, .aload_n 0, 1), (6, .getfield 55, 3), (9, .aload_n 0, 1), (10, .getfield 52, 3), (13, .if_icmp .ge 63, 3)] := dz_sg _ 0 (by decide +kernel)
theorem dX3_stepWord_0 : decode cX3_stepWord 0 = .ok (.aload_n 0, 1) := sdX3_stepWord_0.1
theorem dX3_stepWord_1 : decode cX3_stepWord 1 = .ok (.lconst 0, 1) := sdX3_stepWord_0.2.1
theorem dX3_stepWord_2 : decode cX3_stepWord 2 = .ok (.putfield 104, 3) := sdX3_stepWord_0.2.2.1
theorem dX3_stepWord_5 : decode cX3_stepWord 5 = .ok (.aload_n 0, 1) := sdX3_stepWord_0.2.2.2.1
theorem dX3_stepWord_6 : decode cX3_stepWord 6 = .ok (.getfield 55, 3) := sdX3_stepWord_0.2.2.2.2.1
theorem dX3_stepWord_9 : decode cX3_stepWord 9 = .ok (.aload_n 0, 1) := sdX3_stepWord_0.2.2.2.2.2.1
theorem dX3_stepWord_10 : decode cX3_stepWord 10 = .ok (.getfield 52, 3) := sdX3_stepWord_0.2.2.2.2.2.2.1
theorem dX3_stepWord_13 : decode cX3_stepWord 13 = .ok (.if_icmp .ge 63, 3) := sdX3_stepWord_0.2.2.2.2.2.2.2.1
theorem sdX3_stepWord_16 : dz_Seg cX3_stepWord [(16, .aload_n 0, 1), (17, .getfield 25, 3), (20, .aload_n 0, 1), (21, .getfield 55, 3), (24, .invokestatic 81, 3), (27, .invokestatic 92, 3), (30, .ifCond .eq 46, 3), (33, .aload_n 0, 1)] := dz_sg _ 16 (by decide +kernel)
theorem dX3_stepWord_16 : decode cX3_stepWord 16 = .ok (.aload_n 0, 1) := sdX3_stepWord_16.1
theorem dX3_stepWord_17 : decode cX3_stepWord 17 = .ok (.getfield 25, 3) := sdX3_stepWord_16.2.1
theorem dX3_stepWord_20 : decode cX3_stepWord 20 = .ok (.aload_n 0, 1) := sdX3_stepWord_16.2.2.1
theorem dX3_stepWord_21 : decode cX3_stepWord 21 = .ok (.getfield 55, 3) := sdX3_stepWord_16.2.2.2.1
theorem dX3_stepWord_24 : decode cX3_stepWord 24 = .ok (.invokestatic 81, 3) := sdX3_stepWord_16.2.2.2.2.1
theorem dX3_stepWord_27 : decode cX3_stepWord 27 = .ok (.invokestatic 92, 3) := sdX3_stepWord_16.2.2.2.2.2.1
theorem dX3_stepWord_30 : decode cX3_stepWord 30 = .ok (.ifCond .eq 46, 3) := sdX3_stepWord_16.2.2.2.2.2.2.1
theorem dX3_stepWord_33 : decode cX3_stepWord 33 = .ok (.aload_n 0, 1) := sdX3_stepWord_16.2.2.2.2.2.2.2.1
theorem sdX3_stepWord_34 : dz_Seg cX3_stepWord [(34, .aload_n 0, 1), (35, .getfield 104, 3), (38, .ldc2_w 108, 3), (41, .lmul, 1), (42, .aload_n 0, 1), (43, .getfield 25, 3), (46, .aload_n 0, 1), (47, .getfield 55, 3)] := dz_sg _ 34 (by decide +kernel)
theorem dX3_stepWord_34 : decode cX3_stepWord 34 = .ok (.aload_n 0, 1) := sdX3_stepWord_34.1
theorem dX3_stepWord_35 : decode cX3_stepWord 35 = .ok (.getfield 104, 3) := sdX3_stepWord_34.2.1
theorem dX3_stepWord_38 : decode cX3_stepWord 38 = .ok (.ldc2_w 108, 3) := sdX3_stepWord_34.2.2.1
theorem dX3_stepWord_41 : decode cX3_stepWord 41 = .ok (.lmul, 1) := sdX3_stepWord_34.2.2.2.1
theorem dX3_stepWord_42 : decode cX3_stepWord 42 = .ok (.aload_n 0, 1) := sdX3_stepWord_34.2.2.2.2.1
theorem dX3_stepWord_43 : decode cX3_stepWord 43 = .ok (.getfield 25, 3) := sdX3_stepWord_34.2.2.2.2.2.1
theorem dX3_stepWord_46 : decode cX3_stepWord 46 = .ok (.aload_n 0, 1) := sdX3_stepWord_34.2.2.2.2.2.2.1
theorem dX3_stepWord_47 : decode cX3_stepWord 47 = .ok (.getfield 55, 3) := sdX3_stepWord_34.2.2.2.2.2.2.2.1
theorem sdX3_stepWord_50 : dz_Seg cX3_stepWord [(50, .invokestatic 81, 3), (53, .bipush 97, 2), (55, .isub, 1), (56, .iconst 1, 1), (57, .iadd, 1), (58, .i2l, 1), (59, .ladd, 1), (60, .putfield 104, 3)] := dz_sg _ 50 (by decide +kernel)
theorem dX3_stepWord_50 : decode cX3_stepWord 50 = .ok (.invokestatic 81, 3) := sdX3_stepWord_50.1
theorem dX3_stepWord_53 : decode cX3_stepWord 53 = .ok (.bipush 97, 2) := sdX3_stepWord_50.2.1
theorem dX3_stepWord_55 : decode cX3_stepWord 55 = .ok (.isub, 1) := sdX3_stepWord_50.2.2.1
theorem dX3_stepWord_56 : decode cX3_stepWord 56 = .ok (.iconst 1, 1) := sdX3_stepWord_50.2.2.2.1
theorem dX3_stepWord_57 : decode cX3_stepWord 57 = .ok (.iadd, 1) := sdX3_stepWord_50.2.2.2.2.1
theorem dX3_stepWord_58 : decode cX3_stepWord 58 = .ok (.i2l, 1) := sdX3_stepWord_50.2.2.2.2.2.1
theorem dX3_stepWord_59 : decode cX3_stepWord 59 = .ok (.ladd, 1) := sdX3_stepWord_50.2.2.2.2.2.2.1
theorem dX3_stepWord_60 : decode cX3_stepWord 60 = .ok (.putfield 104, 3) := sdX3_stepWord_50.2.2.2.2.2.2.2.1
theorem sdX3_stepWord_63 : dz_Seg cX3_stepWord [(63, .aload_n 0, 1), (64, .dup, 1), (65, .getfield 55, 3), (68, .iconst 1, 1), (69, .iadd, 1), (70, .putfield 55, 3), (73, .goto (-68), 3), (76, .aload_n 0, 1)] := dz_sg _ 63 (by decide +kernel)
theorem dX3_stepWord_63 : decode cX3_stepWord 63 = .ok (.aload_n 0, 1) := sdX3_stepWord_63.1
theorem dX3_stepWord_64 : decode cX3_stepWord 64 = .ok (.dup, 1) := sdX3_stepWord_63.2.1
theorem dX3_stepWord_65 : decode cX3_stepWord 65 = .ok (.getfield 55, 3) := sdX3_stepWord_63.2.2.1
theorem dX3_stepWord_68 : decode cX3_stepWord 68 = .ok (.iconst 1, 1) := sdX3_stepWord_63.2.2.2.1
theorem dX3_stepWord_69 : decode cX3_stepWord 69 = .ok (.iadd, 1) := sdX3_stepWord_63.2.2.2.2.1
theorem dX3_stepWord_70 : decode cX3_stepWord 70 = .ok (.putfield 55, 3) := sdX3_stepWord_63.2.2.2.2.2.1
theorem dX3_stepWord_73 : decode cX3_stepWord 73 = .ok (.goto (-68), 3) := sdX3_stepWord_63.2.2.2.2.2.2.1
theorem dX3_stepWord_76 : decode cX3_stepWord 76 = .ok (.aload_n 0, 1) := sdX3_stepWord_63.2.2.2.2.2.2.2.1
theorem sdX3_stepWord_77 : dz_Seg cX3_stepWord [(77, .aload_n 0, 1), (78, .getfield 55, 3), (81, .aload_n 0, 1), (82, .getfield 89, 3), (85, .isub, 1), (86, .bipush 8, 2), (88, .if_icmp .gt 7, 3), (91, .iconst 1, 1)] := dz_sg _ 77 (by decide +kernel)
theorem dX3_stepWord_77 : decode cX3_stepWord 77 = .ok (.aload_n 0, 1) := sdX3_stepWord_77.1
theorem dX3_stepWord_78 : decode cX3_stepWord 78 = .ok (.getfield 55, 3) := sdX3_stepWord_77.2.1
theorem dX3_stepWord_81 : decode cX3_stepWord 81 = .ok (.aload_n 0, 1) := sdX3_stepWord_77.2.2.1
theorem dX3_stepWord_82 : decode cX3_stepWord 82 = .ok (.getfield 89, 3) := sdX3_stepWord_77.2.2.2.1
theorem dX3_stepWord_85 : decode cX3_stepWord 85 = .ok (.isub, 1) := sdX3_stepWord_77.2.2.2.2.1
theorem dX3_stepWord_86 : decode cX3_stepWord 86 = .ok (.bipush 8, 2) := sdX3_stepWord_77.2.2.2.2.2.1
theorem dX3_stepWord_88 : decode cX3_stepWord 88 = .ok (.if_icmp .gt 7, 3) := sdX3_stepWord_77.2.2.2.2.2.2.1
theorem dX3_stepWord_91 : decode cX3_stepWord 91 = .ok (.iconst 1, 1) := sdX3_stepWord_77.2.2.2.2.2.2.2.1
theorem sdX3_stepWord_92 : dz_Seg cX3_stepWord [(92, .goto 4, 3), (95, .iconst 4, 1), (96, .putfield 74, 3), (99, .return_, 1)] := dz_sg _ 92 (by decide +kernel)
theorem dX3_stepWord_92 : decode cX3_stepWord 92 = .ok (.goto 4, 3) := sdX3_stepWord_92.1
theorem dX3_stepWord_95 : decode cX3_stepWord 95 = .ok (.iconst 4, 1) := sdX3_stepWord_92.2.1
theorem dX3_stepWord_96 : decode cX3_stepWord 96 = .ok (.putfield 74, 3) := sdX3_stepWord_92.2.2.1
theorem dX3_stepWord_99 : decode cX3_stepWord 99 = .ok (.return_, 1) := sdX3_stepWord_92.2.2.2.1
theorem sdX3_stepNumber_0 : dz_Seg cX3_stepNumber [(0, .aload_n 0, 1), (1, .iconst 0, 1), (2, .putfield 110, 3), (5, .aload_n 0, 1), (6, .getfield 55, 3), (9, .aload_n 0, 1), (10, .getfield 52, 3), (13, .if_icmp .ge 59, 3)] := dz_sg _ 0 (by decide +kernel)
theorem dX3_stepNumber_0 : decode cX3_stepNumber 0 = .ok (.aload_n 0, 1) := sdX3_stepNumber_0.1
theorem dX3_stepNumber_1 : decode cX3_stepNumber 1 = .ok (.iconst 0, 1) := sdX3_stepNumber_0.2.1
theorem dX3_stepNumber_2 : decode cX3_stepNumber 2 = .ok (.putfield 110, 3) := sdX3_stepNumber_0.2.2.1
theorem dX3_stepNumber_5 : decode cX3_stepNumber 5 = .ok (.aload_n 0, 1) := sdX3_stepNumber_0.2.2.2.1
theorem dX3_stepNumber_6 : decode cX3_stepNumber 6 = .ok (.getfield 55, 3) := sdX3_stepNumber_0.2.2.2.2.1
theorem dX3_stepNumber_9 : decode cX3_stepNumber 9 = .ok (.aload_n 0, 1) := sdX3_stepNumber_0.2.2.2.2.2.1
theorem dX3_stepNumber_10 : decode cX3_stepNumber 10 = .ok (.getfield 52, 3) := sdX3_stepNumber_0.2.2.2.2.2.2.1
theorem dX3_stepNumber_13 : decode cX3_stepNumber 13 = .ok (.if_icmp .ge 59, 3) := sdX3_stepNumber_0.2.2.2.2.2.2.2.1
theorem sdX3_stepNumber_16 : dz_Seg cX3_stepNumber [(16, .aload_n 0, 1), (17, .getfield 25, 3), (20, .aload_n 0, 1), (21, .getfield 55, 3), (24, .invokestatic 81, 3), (27, .invokestatic 98, 3), (30, .ifCond .eq 42, 3), (33, .aload_n 0, 1)] := dz_sg _ 16 (by decide +kernel)
theorem dX3_stepNumber_16 : decode cX3_stepNumber 16 = .ok (.aload_n 0, 1) := sdX3_stepNumber_16.1
theorem dX3_stepNumber_17 : decode cX3_stepNumber 17 = .ok (.getfield 25, 3) := sdX3_stepNumber_16.2.1
theorem dX3_stepNumber_20 : decode cX3_stepNumber 20 = .ok (.aload_n 0, 1) := sdX3_stepNumber_16.2.2.1
theorem dX3_stepNumber_21 : decode cX3_stepNumber 21 = .ok (.getfield 55, 3) := sdX3_stepNumber_16.2.2.2.1
theorem dX3_stepNumber_24 : decode cX3_stepNumber 24 = .ok (.invokestatic 81, 3) := sdX3_stepNumber_16.2.2.2.2.1
theorem dX3_stepNumber_27 : decode cX3_stepNumber 27 = .ok (.invokestatic 98, 3) := sdX3_stepNumber_16.2.2.2.2.2.1
theorem dX3_stepNumber_30 : decode cX3_stepNumber 30 = .ok (.ifCond .eq 42, 3) := sdX3_stepNumber_16.2.2.2.2.2.2.1
theorem dX3_stepNumber_33 : decode cX3_stepNumber 33 = .ok (.aload_n 0, 1) := sdX3_stepNumber_16.2.2.2.2.2.2.2.1
theorem sdX3_stepNumber_34 : dz_Seg cX3_stepNumber [(34, .aload_n 0, 1), (35, .getfield 110, 3), (38, .bipush 10, 2), (40, .imul, 1), (41, .aload_n 0, 1), (42, .getfield 25, 3), (45, .aload_n 0, 1), (46, .getfield 55, 3)] := dz_sg _ 34 (by decide +kernel)
theorem dX3_stepNumber_34 : decode cX3_stepNumber 34 = .ok (.aload_n 0, 1) := sdX3_stepNumber_34.1
theorem dX3_stepNumber_35 : decode cX3_stepNumber 35 = .ok (.getfield 110, 3) := sdX3_stepNumber_34.2.1
theorem dX3_stepNumber_38 : decode cX3_stepNumber 38 = .ok (.bipush 10, 2) := sdX3_stepNumber_34.2.2.1
theorem dX3_stepNumber_40 : decode cX3_stepNumber 40 = .ok (.imul, 1) := sdX3_stepNumber_34.2.2.2.1
theorem dX3_stepNumber_41 : decode cX3_stepNumber 41 = .ok (.aload_n 0, 1) := sdX3_stepNumber_34.2.2.2.2.1
theorem dX3_stepNumber_42 : decode cX3_stepNumber 42 = .ok (.getfield 25, 3) := sdX3_stepNumber_34.2.2.2.2.2.1
theorem dX3_stepNumber_45 : decode cX3_stepNumber 45 = .ok (.aload_n 0, 1) := sdX3_stepNumber_34.2.2.2.2.2.2.1
theorem dX3_stepNumber_46 : decode cX3_stepNumber 46 = .ok (.getfield 55, 3) := sdX3_stepNumber_34.2.2.2.2.2.2.2.1
theorem sdX3_stepNumber_49 : dz_Seg cX3_stepNumber [(49, .invokestatic 81, 3), (52, .bipush 48, 2), (54, .isub, 1), (55, .iadd, 1), (56, .putfield 110, 3), (59, .aload_n 0, 1), (60, .dup, 1), (61, .getfield 55, 3)] := dz_sg _ 49 (by decide +kernel)
theorem dX3_stepNumber_49 : decode cX3_stepNumber 49 = .ok (.invokestatic 81, 3) := sdX3_stepNumber_49.1
theorem dX3_stepNumber_52 : decode cX3_stepNumber 52 = .ok (.bipush 48, 2) := sdX3_stepNumber_49.2.1
theorem dX3_stepNumber_54 : decode cX3_stepNumber 54 = .ok (.isub, 1) := sdX3_stepNumber_49.2.2.1
theorem dX3_stepNumber_55 : decode cX3_stepNumber 55 = .ok (.iadd, 1) := sdX3_stepNumber_49.2.2.2.1
theorem dX3_stepNumber_56 : decode cX3_stepNumber 56 = .ok (.putfield 110, 3) := sdX3_stepNumber_49.2.2.2.2.1
theorem dX3_stepNumber_59 : decode cX3_stepNumber 59 = .ok (.aload_n 0, 1) := sdX3_stepNumber_49.2.2.2.2.2.1
theorem dX3_stepNumber_60 : decode cX3_stepNumber 60 = .ok (.dup, 1) := sdX3_stepNumber_49.2.2.2.2.2.2.1
theorem dX3_stepNumber_61 : decode cX3_stepNumber 61 = .ok (.getfield 55, 3) := sdX3_stepNumber_49.2.2.2.2.2.2.2.1
theorem sdX3_stepNumber_64 : dz_Seg cX3_stepNumber [(64, .iconst 1, 1), (65, .iadd, 1), (66, .putfield 55, 3), (69, .goto (-64), 3), (72, .aload_n 0, 1), (73, .aload_n 0, 1), (74, .getfield 55, 3), (77, .aload_n 0, 1)] := dz_sg _ 64 (by decide +kernel)
theorem dX3_stepNumber_64 : decode cX3_stepNumber 64 = .ok (.iconst 1, 1) := sdX3_stepNumber_64.1
theorem dX3_stepNumber_65 : decode cX3_stepNumber 65 = .ok (.iadd, 1) := sdX3_stepNumber_64.2.1
theorem dX3_stepNumber_66 : decode cX3_stepNumber 66 = .ok (.putfield 55, 3) := sdX3_stepNumber_64.2.2.1
theorem dX3_stepNumber_69 : decode cX3_stepNumber 69 = .ok (.goto (-64), 3) := sdX3_stepNumber_64.2.2.2.1
theorem dX3_stepNumber_72 : decode cX3_stepNumber 72 = .ok (.aload_n 0, 1) := sdX3_stepNumber_64.2.2.2.2.1
theorem dX3_stepNumber_73 : decode cX3_stepNumber 73 = .ok (.aload_n 0, 1) := sdX3_stepNumber_64.2.2.2.2.2.1
theorem dX3_stepNumber_74 : decode cX3_stepNumber 74 = .ok (.getfield 55, 3) := sdX3_stepNumber_64.2.2.2.2.2.2.1
theorem dX3_stepNumber_77 : decode cX3_stepNumber 77 = .ok (.aload_n 0, 1) := sdX3_stepNumber_64.2.2.2.2.2.2.2.1
theorem sdX3_stepNumber_78 : dz_Seg cX3_stepNumber [(78, .getfield 89, 3), (81, .isub, 1), (82, .iconst 3, 1), (83, .if_icmp .gt 7, 3), (86, .iconst 2, 1), (87, .goto 4, 3), (90, .iconst 4, 1), (91, .putfield 74, 3)] := dz_sg _ 78 (by decide +kernel)
theorem dX3_stepNumber_78 : decode cX3_stepNumber 78 = .ok (.getfield 89, 3) := sdX3_stepNumber_78.1
theorem dX3_stepNumber_81 : decode cX3_stepNumber 81 = .ok (.isub, 1) := sdX3_stepNumber_78.2.1
theorem dX3_stepNumber_82 : decode cX3_stepNumber 82 = .ok (.iconst 3, 1) := sdX3_stepNumber_78.2.2.1
theorem dX3_stepNumber_83 : decode cX3_stepNumber 83 = .ok (.if_icmp .gt 7, 3) := sdX3_stepNumber_78.2.2.2.1
theorem dX3_stepNumber_86 : decode cX3_stepNumber 86 = .ok (.iconst 2, 1) := sdX3_stepNumber_78.2.2.2.2.1
theorem dX3_stepNumber_87 : decode cX3_stepNumber 87 = .ok (.goto 4, 3) := sdX3_stepNumber_78.2.2.2.2.2.1
theorem dX3_stepNumber_90 : decode cX3_stepNumber 90 = .ok (.iconst 4, 1) := sdX3_stepNumber_78.2.2.2.2.2.2.1
theorem dX3_stepNumber_91 : decode cX3_stepNumber 91 = .ok (.putfield 74, 3) := sdX3_stepNumber_78.2.2.2.2.2.2.2.1
theorem sdX3_stepNumber_94 : dz_Seg cX3_stepNumber [(94, .return_, 1)] := dz_sg _ 94 (by decide +kernel)
theorem dX3_stepNumber_94 : decode cX3_stepNumber 94 = .ok (.return_, 1) := sdX3_stepNumber_94.1
theorem sdX3_isBlank_0 : dz_Seg cX3_isBlank [(0, .iload_n 0, 1), (1, .bipush 10, 2), (3, .if_icmp .eq 9, 3), (6, .iload_n 0, 1), (7, .bipush 32, 2), (9, .if_icmp .ne 7, 3), (12, .iconst 1, 1), (13, .goto 4, 3)] := dz_sg _ 0 (by decide +kernel)
theorem dX3_isBlank_0 : decode cX3_isBlank 0 = .ok (.iload_n 0, 1) := sdX3_isBlank_0.1
theorem dX3_isBlank_1 : decode cX3_isBlank 1 = .ok (.bipush 10, 2) := sdX3_isBlank_0.2.1
theorem dX3_isBlank_3 : decode cX3_isBlank 3 = .ok (.if_icmp .eq 9, 3) := sdX3_isBlank_0.2.2.1
theorem dX3_isBlank_6 : decode cX3_isBlank 6 = .ok (.iload_n 0, 1) := sdX3_isBlank_0.2.2.2.1
theorem dX3_isBlank_7 : decode cX3_isBlank 7 = .ok (.bipush 32, 2) := sdX3_isBlank_0.2.2.2.2.1
theorem dX3_isBlank_9 : decode cX3_isBlank 9 = .ok (.if_icmp .ne 7, 3) := sdX3_isBlank_0.2.2.2.2.2.1
theorem dX3_isBlank_12 : decode cX3_isBlank 12 = .ok (.iconst 1, 1) := sdX3_isBlank_0.2.2.2.2.2.2.1
theorem dX3_isBlank_13 : decode cX3_isBlank 13 = .ok (.goto 4, 3) := sdX3_isBlank_0.2.2.2.2.2.2.2.1
theorem sdX3_isBlank_16 : dz_Seg cX3_isBlank [(16, .iconst 0, 1), (17, .ireturn, 1)] := dz_sg _ 16 (by decide +kernel)
theorem dX3_isBlank_16 : decode cX3_isBlank 16 = .ok (.iconst 0, 1) := sdX3_isBlank_16.1
theorem dX3_isBlank_17 : decode cX3_isBlank 17 = .ok (.ireturn, 1) := sdX3_isBlank_16.2.1
theorem sdX3_isLetter_0 : dz_Seg cX3_isLetter [(0, .iload_n 0, 1), (1, .bipush 97, 2), (3, .if_icmp .lt 13, 3), (6, .iload_n 0, 1), (7, .bipush 122, 2), (9, .if_icmp .gt 7, 3), (12, .iconst 1, 1), (13, .goto 4, 3)] := dz_sg _ 0 (by decide +kernel)
theorem dX3_isLetter_0 : decode cX3_isLetter 0 = .ok (.iload_n 0, 1) := sdX3_isLetter_0.1
theorem dX3_isLetter_1 : decode cX3_isLetter 1 = .ok (.bipush 97, 2) := sdX3_isLetter_0.2.1
theorem dX3_isLetter_3 : decode cX3_isLetter 3 = .ok (.if_icmp .lt 13, 3) := sdX3_isLetter_0.2.2.1
theorem dX3_isLetter_6 : decode cX3_isLetter 6 = .ok (.iload_n 0, 1) := sdX3_isLetter_0.2.2.2.1
theorem dX3_isLetter_7 : decode cX3_isLetter 7 = .ok (.bipush 122, 2) := sdX3_isLetter_0.2.2.2.2.1
theorem dX3_isLetter_9 : decode cX3_isLetter 9 = .ok (.if_icmp .gt 7, 3) := sdX3_isLetter_0.2.2.2.2.2.1
theorem dX3_isLetter_12 : decode cX3_isLetter 12 = .ok (.iconst 1, 1) := sdX3_isLetter_0.2.2.2.2.2.2.1
theorem dX3_isLetter_13 : decode cX3_isLetter 13 = .ok (.goto 4, 3) := sdX3_isLetter_0.2.2.2.2.2.2.2.1
theorem sdX3_isLetter_16 : dz_Seg cX3_isLetter [(16, .iconst 0, 1), (17, .ireturn, 1)] := dz_sg _ 16 (by decide +kernel)
theorem dX3_isLetter_16 : decode cX3_isLetter 16 = .ok (.iconst 0, 1) := sdX3_isLetter_16.1
theorem dX3_isLetter_17 : decode cX3_isLetter 17 = .ok (.ireturn, 1) := sdX3_isLetter_16.2.1
theorem sdX3_isDigit_0 : dz_Seg cX3_isDigit [(0, .iload_n 0, 1), (1, .bipush 48, 2), (3, .if_icmp .lt 13, 3), (6, .iload_n 0, 1), (7, .bipush 57, 2), (9, .if_icmp .gt 7, 3), (12, .iconst 1, 1), (13, .goto 4, 3)] := dz_sg _ 0 (by decide +kernel)
theorem dX3_isDigit_0 : decode cX3_isDigit 0 = .ok (.iload_n 0, 1) := sdX3_isDigit_0.1
theorem dX3_isDigit_1 : decode cX3_isDigit 1 = .ok (.bipush 48, 2) := sdX3_isDigit_0.2.1
theorem dX3_isDigit_3 : decode cX3_isDigit 3 = .ok (.if_icmp .lt 13, 3) := sdX3_isDigit_0.2.2.1
theorem dX3_isDigit_6 : decode cX3_isDigit 6 = .ok (.iload_n 0, 1) := sdX3_isDigit_0.2.2.2.1
theorem dX3_isDigit_7 : decode cX3_isDigit 7 = .ok (.bipush 57, 2) := sdX3_isDigit_0.2.2.2.2.1
theorem dX3_isDigit_9 : decode cX3_isDigit 9 = .ok (.if_icmp .gt 7, 3) := sdX3_isDigit_0.2.2.2.2.2.1
theorem dX3_isDigit_12 : decode cX3_isDigit 12 = .ok (.iconst 1, 1) := sdX3_isDigit_0.2.2.2.2.2.2.1
theorem dX3_isDigit_13 : decode cX3_isDigit 13 = .ok (.goto 4, 3) := sdX3_isDigit_0.2.2.2.2.2.2.2.1
theorem sdX3_isDigit_16 : dz_Seg cX3_isDigit [(16, .iconst 0, 1), (17, .ireturn, 1)] := dz_sg _ 16 (by decide +kernel)
theorem dX3_isDigit_16 : decode cX3_isDigit 16 = .ok (.iconst 0, 1) := sdX3_isDigit_16.1
theorem dX3_isDigit_17 : decode cX3_isDigit 17 = .ok (.ireturn, 1) := sdX3_isDigit_16.2.1
theorem sdX3_says_0 : dz_Seg cX3_says [(0, .aload_n 0, 1), (1, .getfield 74, 3), (4, .iconst 1, 1), (5, .if_icmp .ne 19, 3), (8, .aload_n 0, 1), (9, .getfield 55, 3), (12, .aload_n 0, 1), (13, .getfield 89, 3)] := dz_sg _ 0 (by decide +kernel)
theorem dX3_says_0 : decode cX3_says 0 = .ok (.aload_n 0, 1) := sdX3_says_0.1
theorem dX3_says_1 : decode cX3_says 1 = .ok (.getfield 74, 3) := sdX3_says_0.2.1
theorem dX3_says_4 : decode cX3_says 4 = .ok (.iconst 1, 1) := sdX3_says_0.2.2.1
theorem dX3_says_5 : decode cX3_says 5 = .ok (.if_icmp .ne 19, 3) := sdX3_says_0.2.2.2.1
theorem dX3_says_8 : decode cX3_says 8 = .ok (.aload_n 0, 1) := sdX3_says_0.2.2.2.2.1
theorem dX3_says_9 : decode cX3_says 9 = .ok (.getfield 55, 3) := sdX3_says_0.2.2.2.2.2.1
theorem dX3_says_12 : decode cX3_says 12 = .ok (.aload_n 0, 1) := sdX3_says_0.2.2.2.2.2.2.1
theorem dX3_says_13 : decode cX3_says 13 = .ok (.getfield 89, 3) := sdX3_says_0.2.2.2.2.2.2.2.1
theorem sdX3_says_16 : dz_Seg cX3_says [(16, .isub, 1), (17, .aload_n 1, 1), (18, .invokevirtual 113, 3), (21, .if_icmp .eq 5, 3), (24, .iconst 0, 1), (25, .ireturn, 1), (26, .iconst 0, 1), (27, .istore_n 2, 1)] := dz_sg _ 16 (by decide +kernel)
theorem dX3_says_16 : decode cX3_says 16 = .ok (.isub, 1) := sdX3_says_16.1
theorem dX3_says_17 : decode cX3_says 17 = .ok (.aload_n 1, 1) := sdX3_says_16.2.1
theorem dX3_says_18 : decode cX3_says 18 = .ok (.invokevirtual 113, 3) := sdX3_says_16.2.2.1
theorem dX3_says_21 : decode cX3_says 21 = .ok (.if_icmp .eq 5, 3) := sdX3_says_16.2.2.2.1
theorem dX3_says_24 : decode cX3_says 24 = .ok (.iconst 0, 1) := sdX3_says_16.2.2.2.2.1
theorem dX3_says_25 : decode cX3_says 25 = .ok (.ireturn, 1) := sdX3_says_16.2.2.2.2.2.1
theorem dX3_says_26 : decode cX3_says 26 = .ok (.iconst 0, 1) := sdX3_says_16.2.2.2.2.2.2.1
theorem dX3_says_27 : decode cX3_says 27 = .ok (.istore_n 2, 1) := sdX3_says_16.2.2.2.2.2.2.2.1
theorem sdX3_says_28 : dz_Seg cX3_says [(28, .iload_n 2, 1), (29, .aload_n 1, 1), (30, .invokevirtual 113, 3), (33, .if_icmp .ge 32, 3), (36, .aload_n 0, 1), (37, .getfield 25, 3), (40, .aload_n 0, 1), (41, .getfield 89, 3)] := dz_sg _ 28 (by decide +kernel)
theorem dX3_says_28 : decode cX3_says 28 = .ok (.iload_n 2, 1) := sdX3_says_28.1
theorem dX3_says_29 : decode cX3_says 29 = .ok (.aload_n 1, 1) := sdX3_says_28.2.1
theorem dX3_says_30 : decode cX3_says 30 = .ok (.invokevirtual 113, 3) := sdX3_says_28.2.2.1
theorem dX3_says_33 : decode cX3_says 33 = .ok (.if_icmp .ge 32, 3) := sdX3_says_28.2.2.2.1
theorem dX3_says_36 : decode cX3_says 36 = .ok (.aload_n 0, 1) := sdX3_says_28.2.2.2.2.1
theorem dX3_says_37 : decode cX3_says 37 = .ok (.getfield 25, 3) := sdX3_says_28.2.2.2.2.2.1
theorem dX3_says_40 : decode cX3_says 40 = .ok (.aload_n 0, 1) := sdX3_says_28.2.2.2.2.2.2.1
theorem dX3_says_41 : decode cX3_says 41 = .ok (.getfield 89, 3) := sdX3_says_28.2.2.2.2.2.2.2.1
theorem sdX3_says_44 : dz_Seg cX3_says [(44, .iload_n 2, 1), (45, .iadd, 1), (46, .invokestatic 81, 3), (49, .aload_n 1, 1), (50, .iload_n 2, 1), (51, .invokevirtual 118, 3), (54, .if_icmp .eq 5, 3), (57, .iconst 0, 1)] := dz_sg _ 44 (by decide +kernel)
theorem dX3_says_44 : decode cX3_says 44 = .ok (.iload_n 2, 1) := sdX3_says_44.1
theorem dX3_says_45 : decode cX3_says 45 = .ok (.iadd, 1) := sdX3_says_44.2.1
theorem dX3_says_46 : decode cX3_says 46 = .ok (.invokestatic 81, 3) := sdX3_says_44.2.2.1
theorem dX3_says_49 : decode cX3_says 49 = .ok (.aload_n 1, 1) := sdX3_says_44.2.2.2.1
theorem dX3_says_50 : decode cX3_says 50 = .ok (.iload_n 2, 1) := sdX3_says_44.2.2.2.2.1
theorem dX3_says_51 : decode cX3_says 51 = .ok (.invokevirtual 118, 3) := sdX3_says_44.2.2.2.2.2.1
theorem dX3_says_54 : decode cX3_says 54 = .ok (.if_icmp .eq 5, 3) := sdX3_says_44.2.2.2.2.2.2.1
theorem dX3_says_57 : decode cX3_says 57 = .ok (.iconst 0, 1) := sdX3_says_44.2.2.2.2.2.2.2.1
theorem sdX3_says_58 : dz_Seg cX3_says [(58, .ireturn, 1), (59, .iinc 2 1, 3), (62, .goto (-34), 3), (65, .iconst 1, 1), (66, .ireturn, 1)] := dz_sg _ 58 (by decide +kernel)
theorem dX3_says_58 : decode cX3_says 58 = .ok (.ireturn, 1) := sdX3_says_58.1
theorem dX3_says_59 : decode cX3_says 59 = .ok (.iinc 2 1, 3) := sdX3_says_58.2.1
theorem dX3_says_62 : decode cX3_says 62 = .ok (.goto (-34), 3) := sdX3_says_58.2.2.1
theorem dX3_says_65 : decode cX3_says 65 = .ok (.iconst 1, 1) := sdX3_says_58.2.2.2.1
theorem dX3_says_66 : decode cX3_says 66 = .ok (.ireturn, 1) := sdX3_says_58.2.2.2.2.1
theorem sdX3_isName_0 : dz_Seg cX3_isName [(0, .aload_n 0, 1), (1, .getfield 74, 3), (4, .iconst 1, 1), (5, .if_icmp .ne 79, 3), (8, .aload_n 0, 1), (9, .ldc 122, 2), (11, .invokevirtual 124, 3), (14, .ifCond .ne 70, 3)] := dz_sg _ 0 (by decide +kernel)
theorem dX3_isName_0 : decode cX3_isName 0 = .ok (.aload_n 0, 1) := sdX3_isName_0.1
theorem dX3_isName_1 : decode cX3_isName 1 = .ok (.getfield 74, 3) := sdX3_isName_0.2.1
theorem dX3_isName_4 : decode cX3_isName 4 = .ok (.iconst 1, 1) := sdX3_isName_0.2.2.1
theorem dX3_isName_5 : decode cX3_isName 5 = .ok (.if_icmp .ne 79, 3) := sdX3_isName_0.2.2.2.1
theorem dX3_isName_8 : decode cX3_isName 8 = .ok (.aload_n 0, 1) := sdX3_isName_0.2.2.2.2.1
theorem dX3_isName_9 : decode cX3_isName 9 = .ok (.ldc 122, 2) := sdX3_isName_0.2.2.2.2.2.1
theorem dX3_isName_11 : decode cX3_isName 11 = .ok (.invokevirtual 124, 3) := sdX3_isName_0.2.2.2.2.2.2.1
theorem dX3_isName_14 : decode cX3_isName 14 = .ok (.ifCond .ne 70, 3) := sdX3_isName_0.2.2.2.2.2.2.2.1
theorem sdX3_isName_17 : dz_Seg cX3_isName [(17, .aload_n 0, 1), (18, .ldc 128, 2), (20, .invokevirtual 124, 3), (23, .ifCond .ne 61, 3), (26, .aload_n 0, 1), (27, .ldc 130, 2), (29, .invokevirtual 124, 3), (32, .ifCond .ne 52, 3)] := dz_sg _ 17 (by decide +kernel)
theorem dX3_isName_17 : decode cX3_isName 17 = .ok (.aload_n 0, 1) := sdX3_isName_17.1
theorem dX3_isName_18 : decode cX3_isName 18 = .ok (.ldc 128, 2) := sdX3_isName_17.2.1
theorem dX3_isName_20 : decode cX3_isName 20 = .ok (.invokevirtual 124, 3) := sdX3_isName_17.2.2.1
theorem dX3_isName_23 : decode cX3_isName 23 = .ok (.ifCond .ne 61, 3) := sdX3_isName_17.2.2.2.1
theorem dX3_isName_26 : decode cX3_isName 26 = .ok (.aload_n 0, 1) := sdX3_isName_17.2.2.2.2.1
theorem dX3_isName_27 : decode cX3_isName 27 = .ok (.ldc 130, 2) := sdX3_isName_17.2.2.2.2.2.1
theorem dX3_isName_29 : decode cX3_isName 29 = .ok (.invokevirtual 124, 3) := sdX3_isName_17.2.2.2.2.2.2.1
theorem dX3_isName_32 : decode cX3_isName 32 = .ok (.ifCond .ne 52, 3) := sdX3_isName_17.2.2.2.2.2.2.2.1
theorem sdX3_isName_35 : dz_Seg cX3_isName [(35, .aload_n 0, 1), (36, .ldc 132, 2), (38, .invokevirtual 124, 3), (41, .ifCond .ne 43, 3), (44, .aload_n 0, 1), (45, .ldc 134, 2), (47, .invokevirtual 124, 3), (50, .ifCond .ne 34, 3)] := dz_sg _ 35 (by decide +kernel)
theorem dX3_isName_35 : decode cX3_isName 35 = .ok (.aload_n 0, 1) := sdX3_isName_35.1
theorem dX3_isName_36 : decode cX3_isName 36 = .ok (.ldc 132, 2) := sdX3_isName_35.2.1
theorem dX3_isName_38 : decode cX3_isName 38 = .ok (.invokevirtual 124, 3) := sdX3_isName_35.2.2.1
theorem dX3_isName_41 : decode cX3_isName 41 = .ok (.ifCond .ne 43, 3) := sdX3_isName_35.2.2.2.1
theorem dX3_isName_44 : decode cX3_isName 44 = .ok (.aload_n 0, 1) := sdX3_isName_35.2.2.2.2.1
theorem dX3_isName_45 : decode cX3_isName 45 = .ok (.ldc 134, 2) := sdX3_isName_35.2.2.2.2.2.1
theorem dX3_isName_47 : decode cX3_isName 47 = .ok (.invokevirtual 124, 3) := sdX3_isName_35.2.2.2.2.2.2.1
theorem dX3_isName_50 : decode cX3_isName 50 = .ok (.ifCond .ne 34, 3) := sdX3_isName_35.2.2.2.2.2.2.2.1
theorem sdX3_isName_53 : dz_Seg cX3_isName [(53, .aload_n 0, 1), (54, .ldc 136, 2), (56, .invokevirtual 124, 3), (59, .ifCond .ne 25, 3), (62, .aload_n 0, 1), (63, .ldc 138, 2), (65, .invokevirtual 124, 3), (68, .ifCond .ne 16, 3)] := dz_sg _ 53 (by decide +kernel)
theorem dX3_isName_53 : decode cX3_isName 53 = .ok (.aload_n 0, 1) := sdX3_isName_53.1
theorem dX3_isName_54 : decode cX3_isName 54 = .ok (.ldc 136, 2) := sdX3_isName_53.2.1
theorem dX3_isName_56 : decode cX3_isName 56 = .ok (.invokevirtual 124, 3) := sdX3_isName_53.2.2.1
theorem dX3_isName_59 : decode cX3_isName 59 = .ok (.ifCond .ne 25, 3) := sdX3_isName_53.2.2.2.1
theorem dX3_isName_62 : decode cX3_isName 62 = .ok (.aload_n 0, 1) := sdX3_isName_53.2.2.2.2.1
theorem dX3_isName_63 : decode cX3_isName 63 = .ok (.ldc 138, 2) := sdX3_isName_53.2.2.2.2.2.1
theorem dX3_isName_65 : decode cX3_isName 65 = .ok (.invokevirtual 124, 3) := sdX3_isName_53.2.2.2.2.2.2.1
theorem dX3_isName_68 : decode cX3_isName 68 = .ok (.ifCond .ne 16, 3) := sdX3_isName_53.2.2.2.2.2.2.2.1
theorem sdX3_isName_71 : dz_Seg cX3_isName [(71, .aload_n 0, 1), (72, .ldc 140, 2), (74, .invokevirtual 124, 3), (77, .ifCond .ne 7, 3), (80, .iconst 1, 1), (81, .goto 4, 3), (84, .iconst 0, 1), (85, .ireturn, 1)] := dz_sg _ 71 (by decide +kernel)
theorem dX3_isName_71 : decode cX3_isName 71 = .ok (.aload_n 0, 1) := sdX3_isName_71.1
theorem dX3_isName_72 : decode cX3_isName 72 = .ok (.ldc 140, 2) := sdX3_isName_71.2.1
theorem dX3_isName_74 : decode cX3_isName 74 = .ok (.invokevirtual 124, 3) := sdX3_isName_71.2.2.1
theorem dX3_isName_77 : decode cX3_isName 77 = .ok (.ifCond .ne 7, 3) := sdX3_isName_71.2.2.2.1
theorem dX3_isName_80 : decode cX3_isName 80 = .ok (.iconst 1, 1) := sdX3_isName_71.2.2.2.2.1
theorem dX3_isName_81 : decode cX3_isName 81 = .ok (.goto 4, 3) := sdX3_isName_71.2.2.2.2.2.1
theorem dX3_isName_84 : decode cX3_isName 84 = .ok (.iconst 0, 1) := sdX3_isName_71.2.2.2.2.2.2.1
theorem dX3_isName_85 : decode cX3_isName 85 = .ok (.ireturn, 1) := sdX3_isName_71.2.2.2.2.2.2.2.1
theorem sdX3_fail_0 : dz_Seg cX3_fail [(0, .aload_n 0, 1), (1, .aload_n 0, 1), (2, .getfield 74, 3), (5, .iconst 4, 1), (6, .if_icmp .ne 7, 3), (9, .iconst 1, 1), (10, .goto 4, 3), (13, .iload_n 1, 1)] := dz_sg _ 0 (by decide +kernel)
theorem dX3_fail_0 : decode cX3_fail 0 = .ok (.aload_n 0, 1) := sdX3_fail_0.1
theorem dX3_fail_1 : decode cX3_fail 1 = .ok (.aload_n 0, 1) := sdX3_fail_0.2.1
theorem dX3_fail_2 : decode cX3_fail 2 = .ok (.getfield 74, 3) := sdX3_fail_0.2.2.1
theorem dX3_fail_5 : decode cX3_fail 5 = .ok (.iconst 4, 1) := sdX3_fail_0.2.2.2.1
theorem dX3_fail_6 : decode cX3_fail 6 = .ok (.if_icmp .ne 7, 3) := sdX3_fail_0.2.2.2.2.1
theorem dX3_fail_9 : decode cX3_fail 9 = .ok (.iconst 1, 1) := sdX3_fail_0.2.2.2.2.2.1
theorem dX3_fail_10 : decode cX3_fail 10 = .ok (.goto 4, 3) := sdX3_fail_0.2.2.2.2.2.2.1
theorem dX3_fail_13 : decode cX3_fail 13 = .ok (.iload_n 1, 1) := sdX3_fail_0.2.2.2.2.2.2.2.1
theorem sdX3_fail_14 : dz_Seg cX3_fail [(14, .putfield 18, 3), (17, .aload_n 0, 1), (18, .aload_n 0, 1), (19, .getfield 89, 3), (22, .putfield 22, 3), (25, .iconst 0, 1), (26, .ireturn, 1)] := dz_sg _ 14 (by decide +kernel)
theorem dX3_fail_14 : decode cX3_fail 14 = .ok (.putfield 18, 3) := sdX3_fail_14.1
theorem dX3_fail_17 : decode cX3_fail 17 = .ok (.aload_n 0, 1) := sdX3_fail_14.2.1
theorem dX3_fail_18 : decode cX3_fail 18 = .ok (.aload_n 0, 1) := sdX3_fail_14.2.2.1
theorem dX3_fail_19 : decode cX3_fail 19 = .ok (.getfield 89, 3) := sdX3_fail_14.2.2.2.1
theorem dX3_fail_22 : decode cX3_fail 22 = .ok (.putfield 22, 3) := sdX3_fail_14.2.2.2.2.1
theorem dX3_fail_25 : decode cX3_fail 25 = .ok (.iconst 0, 1) := sdX3_fail_14.2.2.2.2.2.1
theorem dX3_fail_26 : decode cX3_fail 26 = .ok (.ireturn, 1) := sdX3_fail_14.2.2.2.2.2.2.1
theorem sdX3_readLine_0 : dz_Seg cX3_readLine [(0, .aload_n 0, 1), (1, .ldc 122, 2), (3, .invokevirtual 124, 3), (6, .ifCond .eq 27, 3), (9, .aload_n 0, 1), (10, .getfield 12, 3), (13, .getfield 142, 3), (16, .iconst 5, 1)] := dz_sg _ 0 (by decide +kernel)
theorem dX3_readLine_0 : decode cX3_readLine 0 = .ok (.aload_n 0, 1) := sdX3_readLine_0.1
theorem dX3_readLine_1 : decode cX3_readLine 1 = .ok (.ldc 122, 2) := sdX3_readLine_0.2.1
theorem dX3_readLine_3 : decode cX3_readLine 3 = .ok (.invokevirtual 124, 3) := sdX3_readLine_0.2.2.1
theorem dX3_readLine_6 : decode cX3_readLine 6 = .ok (.ifCond .eq 27, 3) := sdX3_readLine_0.2.2.2.1
theorem dX3_readLine_9 : decode cX3_readLine 9 = .ok (.aload_n 0, 1) := sdX3_readLine_0.2.2.2.2.1
theorem dX3_readLine_10 : decode cX3_readLine 10 = .ok (.getfield 12, 3) := sdX3_readLine_0.2.2.2.2.2.1
theorem dX3_readLine_13 : decode cX3_readLine 13 = .ok (.getfield 142, 3) := sdX3_readLine_0.2.2.2.2.2.2.1
theorem dX3_readLine_16 : decode cX3_readLine 16 = .ok (.iconst 5, 1) := sdX3_readLine_0.2.2.2.2.2.2.2.1
theorem sdX3_readLine_17 : dz_Seg cX3_readLine [(17, .if_icmp .ge 10, 3), (20, .aload_n 0, 1), (21, .invokevirtual 145, 3), (24, .goto 8, 3), (27, .aload_n 0, 1), (28, .iconst 2, 1), (29, .invokevirtual 148, 3), (32, .ireturn, 1)] := dz_sg _ 17 (by decide +kernel)
theorem dX3_readLine_17 : decode cX3_readLine 17 = .ok (.if_icmp .ge 10, 3) := sdX3_readLine_17.1
theorem dX3_readLine_20 : decode cX3_readLine 20 = .ok (.aload_n 0, 1) := sdX3_readLine_17.2.1
theorem dX3_readLine_21 : decode cX3_readLine 21 = .ok (.invokevirtual 145, 3) := sdX3_readLine_17.2.2.1
theorem dX3_readLine_24 : decode cX3_readLine 24 = .ok (.goto 8, 3) := sdX3_readLine_17.2.2.2.1
theorem dX3_readLine_27 : decode cX3_readLine 27 = .ok (.aload_n 0, 1) := sdX3_readLine_17.2.2.2.2.1
theorem dX3_readLine_28 : decode cX3_readLine 28 = .ok (.iconst 2, 1) := sdX3_readLine_17.2.2.2.2.2.1
theorem dX3_readLine_29 : decode cX3_readLine 29 = .ok (.invokevirtual 148, 3) := sdX3_readLine_17.2.2.2.2.2.2.1
theorem dX3_readLine_32 : decode cX3_readLine 32 = .ok (.ireturn, 1) := sdX3_readLine_17.2.2.2.2.2.2.2.1
theorem sdX3_readLine_33 : dz_Seg cX3_readLine [(33, .aload_n 0, 1), (34, .ldc 128, 2), (36, .invokevirtual 124, 3), (39, .ifCond .eq 28, 3), (42, .aload_n 0, 1), (43, .getfield 12, 3), (46, .getfield 151, 3), (49, .bipush 10, 2)] := dz_sg _ 33 (by decide +kernel)
theorem dX3_readLine_33 : decode cX3_readLine 33 = .ok (.aload_n 0, 1) := sdX3_readLine_33.1
theorem dX3_readLine_34 : decode cX3_readLine 34 = .ok (.ldc 128, 2) := sdX3_readLine_33.2.1
theorem dX3_readLine_36 : decode cX3_readLine 36 = .ok (.invokevirtual 124, 3) := sdX3_readLine_33.2.2.1
theorem dX3_readLine_39 : decode cX3_readLine 39 = .ok (.ifCond .eq 28, 3) := sdX3_readLine_33.2.2.2.1
theorem dX3_readLine_42 : decode cX3_readLine 42 = .ok (.aload_n 0, 1) := sdX3_readLine_33.2.2.2.2.1
theorem dX3_readLine_43 : decode cX3_readLine 43 = .ok (.getfield 12, 3) := sdX3_readLine_33.2.2.2.2.2.1
theorem dX3_readLine_46 : decode cX3_readLine 46 = .ok (.getfield 151, 3) := sdX3_readLine_33.2.2.2.2.2.2.1
theorem dX3_readLine_49 : decode cX3_readLine 49 = .ok (.bipush 10, 2) := sdX3_readLine_33.2.2.2.2.2.2.2.1
theorem sdX3_readLine_51 : dz_Seg cX3_readLine [(51, .if_icmp .ge 10, 3), (54, .aload_n 0, 1), (55, .invokevirtual 154, 3), (58, .goto 8, 3), (61, .aload_n 0, 1), (62, .iconst 2, 1), (63, .invokevirtual 148, 3), (66, .ireturn, 1)] := dz_sg _ 51 (by decide +kernel)
theorem dX3_readLine_51 : decode cX3_readLine 51 = .ok (.if_icmp .ge 10, 3) := sdX3_readLine_51.1
theorem dX3_readLine_54 : decode cX3_readLine 54 = .ok (.aload_n 0, 1) := sdX3_readLine_51.2.1
theorem dX3_readLine_55 : decode cX3_readLine 55 = .ok (.invokevirtual 154, 3) := sdX3_readLine_51.2.2.1
theorem dX3_readLine_58 : decode cX3_readLine 58 = .ok (.goto 8, 3) := sdX3_readLine_51.2.2.2.1
theorem dX3_readLine_61 : decode cX3_readLine 61 = .ok (.aload_n 0, 1) := sdX3_readLine_51.2.2.2.2.1
theorem dX3_readLine_62 : decode cX3_readLine 62 = .ok (.iconst 2, 1) := sdX3_readLine_51.2.2.2.2.2.1
theorem dX3_readLine_63 : decode cX3_readLine 63 = .ok (.invokevirtual 148, 3) := sdX3_readLine_51.2.2.2.2.2.2.1
theorem dX3_readLine_66 : decode cX3_readLine 66 = .ok (.ireturn, 1) := sdX3_readLine_51.2.2.2.2.2.2.2.1
theorem sdX3_readLine_67 : dz_Seg cX3_readLine [(67, .aload_n 0, 1), (68, .ldc 132, 2), (70, .invokevirtual 124, 3), (73, .ifCond .eq 27, 3), (76, .aload_n 0, 1), (77, .getfield 12, 3), (80, .getfield 157, 3), (83, .iconst 4, 1)] := dz_sg _ 67 (by decide +kernel)
theorem dX3_readLine_67 : decode cX3_readLine 67 = .ok (.aload_n 0, 1) := sdX3_readLine_67.1
theorem dX3_readLine_68 : decode cX3_readLine 68 = .ok (.ldc 132, 2) := sdX3_readLine_67.2.1
theorem dX3_readLine_70 : decode cX3_readLine 70 = .ok (.invokevirtual 124, 3) := sdX3_readLine_67.2.2.1
theorem dX3_readLine_73 : decode cX3_readLine 73 = .ok (.ifCond .eq 27, 3) := sdX3_readLine_67.2.2.2.1
theorem dX3_readLine_76 : decode cX3_readLine 76 = .ok (.aload_n 0, 1) := sdX3_readLine_67.2.2.2.2.1
theorem dX3_readLine_77 : decode cX3_readLine 77 = .ok (.getfield 12, 3) := sdX3_readLine_67.2.2.2.2.2.1
theorem dX3_readLine_80 : decode cX3_readLine 80 = .ok (.getfield 157, 3) := sdX3_readLine_67.2.2.2.2.2.2.1
theorem dX3_readLine_83 : decode cX3_readLine 83 = .ok (.iconst 4, 1) := sdX3_readLine_67.2.2.2.2.2.2.2.1
theorem sdX3_readLine_84 : dz_Seg cX3_readLine [(84, .if_icmp .ge 10, 3), (87, .aload_n 0, 1), (88, .invokevirtual 160, 3), (91, .goto 8, 3), (94, .aload_n 0, 1), (95, .iconst 2, 1), (96, .invokevirtual 148, 3), (99, .ireturn, 1)] := dz_sg _ 84 (by decide +kernel)
theorem dX3_readLine_84 : decode cX3_readLine 84 = .ok (.if_icmp .ge 10, 3) := sdX3_readLine_84.1
theorem dX3_readLine_87 : decode cX3_readLine 87 = .ok (.aload_n 0, 1) := sdX3_readLine_84.2.1
theorem dX3_readLine_88 : decode cX3_readLine 88 = .ok (.invokevirtual 160, 3) := sdX3_readLine_84.2.2.1
theorem dX3_readLine_91 : decode cX3_readLine 91 = .ok (.goto 8, 3) := sdX3_readLine_84.2.2.2.1
theorem dX3_readLine_94 : decode cX3_readLine 94 = .ok (.aload_n 0, 1) := sdX3_readLine_84.2.2.2.2.1
theorem dX3_readLine_95 : decode cX3_readLine 95 = .ok (.iconst 2, 1) := sdX3_readLine_84.2.2.2.2.2.1
theorem dX3_readLine_96 : decode cX3_readLine 96 = .ok (.invokevirtual 148, 3) := sdX3_readLine_84.2.2.2.2.2.2.1
theorem dX3_readLine_99 : decode cX3_readLine 99 = .ok (.ireturn, 1) := sdX3_readLine_84.2.2.2.2.2.2.2.1
theorem sdX3_readLine_100 : dz_Seg cX3_readLine [(100, .aload_n 0, 1), (101, .ldc 134, 2), (103, .invokevirtual 124, 3), (106, .ifCond .eq 8, 3), (109, .aload_n 0, 1), (110, .invokevirtual 163, 3), (113, .ireturn, 1), (114, .aload_n 0, 1)] := dz_sg _ 100 (by decide +kernel)
theorem dX3_readLine_100 : decode cX3_readLine 100 = .ok (.aload_n 0, 1) := sdX3_readLine_100.1
theorem dX3_readLine_101 : decode cX3_readLine 101 = .ok (.ldc 134, 2) := sdX3_readLine_100.2.1
theorem dX3_readLine_103 : decode cX3_readLine 103 = .ok (.invokevirtual 124, 3) := sdX3_readLine_100.2.2.1
theorem dX3_readLine_106 : decode cX3_readLine 106 = .ok (.ifCond .eq 8, 3) := sdX3_readLine_100.2.2.2.1
theorem dX3_readLine_109 : decode cX3_readLine 109 = .ok (.aload_n 0, 1) := sdX3_readLine_100.2.2.2.2.1
theorem dX3_readLine_110 : decode cX3_readLine 110 = .ok (.invokevirtual 163, 3) := sdX3_readLine_100.2.2.2.2.2.1
theorem dX3_readLine_113 : decode cX3_readLine 113 = .ok (.ireturn, 1) := sdX3_readLine_100.2.2.2.2.2.2.1
theorem dX3_readLine_114 : decode cX3_readLine 114 = .ok (.aload_n 0, 1) := sdX3_readLine_100.2.2.2.2.2.2.2.1
theorem sdX3_readLine_115 : dz_Seg cX3_readLine [(115, .ldc 136, 2), (117, .invokevirtual 124, 3), (120, .ifCond .eq 23, 3), (123, .aload_n 0, 1), (124, .getfield 58, 3), (127, .ifCond .eq 11, 3), (130, .aload_n 0, 1), (131, .iconst 2, 1)] := dz_sg _ 115 (by decide +kernel)
theorem dX3_readLine_115 : decode cX3_readLine 115 = .ok (.ldc 136, 2) := sdX3_readLine_115.1
theorem dX3_readLine_117 : decode cX3_readLine 117 = .ok (.invokevirtual 124, 3) := sdX3_readLine_115.2.1
theorem dX3_readLine_120 : decode cX3_readLine 120 = .ok (.ifCond .eq 23, 3) := sdX3_readLine_115.2.2.1
theorem dX3_readLine_123 : decode cX3_readLine 123 = .ok (.aload_n 0, 1) := sdX3_readLine_115.2.2.2.1
theorem dX3_readLine_124 : decode cX3_readLine 124 = .ok (.getfield 58, 3) := sdX3_readLine_115.2.2.2.2.1
theorem dX3_readLine_127 : decode cX3_readLine 127 = .ok (.ifCond .eq 11, 3) := sdX3_readLine_115.2.2.2.2.2.1
theorem dX3_readLine_130 : decode cX3_readLine 130 = .ok (.aload_n 0, 1) := sdX3_readLine_115.2.2.2.2.2.2.1
theorem dX3_readLine_131 : decode cX3_readLine 131 = .ok (.iconst 2, 1) := sdX3_readLine_115.2.2.2.2.2.2.2.1
theorem sdX3_readLine_132 : dz_Seg cX3_readLine [(132, .invokevirtual 148, 3), (135, .goto 7, 3), (138, .aload_n 0, 1), (139, .invokevirtual 166, 3), (142, .ireturn, 1), (143, .aload_n 0, 1), (144, .ldc 138, 2), (146, .invokevirtual 124, 3)] := dz_sg _ 132 (by decide +kernel)
theorem dX3_readLine_132 : decode cX3_readLine 132 = .ok (.invokevirtual 148, 3) := sdX3_readLine_132.1
theorem dX3_readLine_135 : decode cX3_readLine 135 = .ok (.goto 7, 3) := sdX3_readLine_132.2.1
theorem dX3_readLine_138 : decode cX3_readLine 138 = .ok (.aload_n 0, 1) := sdX3_readLine_132.2.2.1
theorem dX3_readLine_139 : decode cX3_readLine 139 = .ok (.invokevirtual 166, 3) := sdX3_readLine_132.2.2.2.1
theorem dX3_readLine_142 : decode cX3_readLine 142 = .ok (.ireturn, 1) := sdX3_readLine_132.2.2.2.2.1
theorem dX3_readLine_143 : decode cX3_readLine 143 = .ok (.aload_n 0, 1) := sdX3_readLine_132.2.2.2.2.2.1
theorem dX3_readLine_144 : decode cX3_readLine 144 = .ok (.ldc 138, 2) := sdX3_readLine_132.2.2.2.2.2.2.1
theorem dX3_readLine_146 : decode cX3_readLine 146 = .ok (.invokevirtual 124, 3) := sdX3_readLine_132.2.2.2.2.2.2.2.1
theorem sdX3_readLine_149 : dz_Seg cX3_readLine [(149, .ifCond .eq 23, 3), (152, .aload_n 0, 1), (153, .getfield 62, 3), (156, .ifCond .eq 11, 3), (159, .aload_n 0, 1), (160, .iconst 2, 1), (161, .invokevirtual 148, 3), (164, .goto 7, 3)] := dz_sg _ 149 (by decide +kernel)
theorem dX3_readLine_149 : decode cX3_readLine 149 = .ok (.ifCond .eq 23, 3) := sdX3_readLine_149.1
theorem dX3_readLine_152 : decode cX3_readLine 152 = .ok (.aload_n 0, 1) := sdX3_readLine_149.2.1
theorem dX3_readLine_153 : decode cX3_readLine 153 = .ok (.getfield 62, 3) := sdX3_readLine_149.2.2.1
theorem dX3_readLine_156 : decode cX3_readLine 156 = .ok (.ifCond .eq 11, 3) := sdX3_readLine_149.2.2.2.1
theorem dX3_readLine_159 : decode cX3_readLine 159 = .ok (.aload_n 0, 1) := sdX3_readLine_149.2.2.2.2.1
theorem dX3_readLine_160 : decode cX3_readLine 160 = .ok (.iconst 2, 1) := sdX3_readLine_149.2.2.2.2.2.1
theorem dX3_readLine_161 : decode cX3_readLine 161 = .ok (.invokevirtual 148, 3) := sdX3_readLine_149.2.2.2.2.2.2.1
theorem dX3_readLine_164 : decode cX3_readLine 164 = .ok (.goto 7, 3) := sdX3_readLine_149.2.2.2.2.2.2.2.1
theorem sdX3_readLine_167 : dz_Seg cX3_readLine [(167, .aload_n 0, 1), (168, .invokevirtual 169, 3), (171, .ireturn, 1), (172, .aload_n 0, 1), (173, .ldc 140, 2), (175, .invokevirtual 124, 3), (178, .ifCond .eq 23, 3), (181, .aload_n 0, 1)] := dz_sg _ 167 (by decide +kernel)
theorem dX3_readLine_167 : decode cX3_readLine 167 = .ok (.aload_n 0, 1) := sdX3_readLine_167.1
theorem dX3_readLine_168 : decode cX3_readLine 168 = .ok (.invokevirtual 169, 3) := sdX3_readLine_167.2.1
theorem dX3_readLine_171 : decode cX3_readLine 171 = .ok (.ireturn, 1) := sdX3_readLine_167.2.2.1
theorem dX3_readLine_172 : decode cX3_readLine 172 = .ok (.aload_n 0, 1) := sdX3_readLine_167.2.2.2.1
theorem dX3_readLine_173 : decode cX3_readLine 173 = .ok (.ldc 140, 2) := sdX3_readLine_167.2.2.2.2.1
theorem dX3_readLine_175 : decode cX3_readLine 175 = .ok (.invokevirtual 124, 3) := sdX3_readLine_167.2.2.2.2.2.1
theorem dX3_readLine_178 : decode cX3_readLine 178 = .ok (.ifCond .eq 23, 3) := sdX3_readLine_167.2.2.2.2.2.2.1
theorem dX3_readLine_181 : decode cX3_readLine 181 = .ok (.aload_n 0, 1) := sdX3_readLine_167.2.2.2.2.2.2.2.1
theorem sdX3_readLine_182 : dz_Seg cX3_readLine [(182, .getfield 65, 3), (185, .ifCond .eq 11, 3), (188, .aload_n 0, 1), (189, .iconst 2, 1), (190, .invokevirtual 148, 3), (193, .goto 7, 3), (196, .aload_n 0, 1), (197, .invokevirtual 172, 3)] := dz_sg _ 182 (by decide +kernel)
theorem dX3_readLine_182 : decode cX3_readLine 182 = .ok (.getfield 65, 3) := sdX3_readLine_182.1
theorem dX3_readLine_185 : decode cX3_readLine 185 = .ok (.ifCond .eq 11, 3) := sdX3_readLine_182.2.1
theorem dX3_readLine_188 : decode cX3_readLine 188 = .ok (.aload_n 0, 1) := sdX3_readLine_182.2.2.1
theorem dX3_readLine_189 : decode cX3_readLine 189 = .ok (.iconst 2, 1) := sdX3_readLine_182.2.2.2.1
theorem dX3_readLine_190 : decode cX3_readLine 190 = .ok (.invokevirtual 148, 3) := sdX3_readLine_182.2.2.2.2.1
theorem dX3_readLine_193 : decode cX3_readLine 193 = .ok (.goto 7, 3) := sdX3_readLine_182.2.2.2.2.2.1
theorem dX3_readLine_196 : decode cX3_readLine 196 = .ok (.aload_n 0, 1) := sdX3_readLine_182.2.2.2.2.2.2.1
theorem dX3_readLine_197 : decode cX3_readLine 197 = .ok (.invokevirtual 172, 3) := sdX3_readLine_182.2.2.2.2.2.2.2.1
theorem sdX3_readLine_200 : dz_Seg cX3_readLine [(200, .ireturn, 1), (201, .aload_n 0, 1), (202, .iconst 2, 1), (203, .invokevirtual 148, 3), (206, .ireturn, 1)] := dz_sg _ 200 (by decide +kernel)
theorem dX3_readLine_200 : decode cX3_readLine 200 = .ok (.ireturn, 1) := sdX3_readLine_200.1
theorem dX3_readLine_201 : decode cX3_readLine 201 = .ok (.aload_n 0, 1) := sdX3_readLine_200.2.1
theorem dX3_readLine_202 : decode cX3_readLine 202 = .ok (.iconst 2, 1) := sdX3_readLine_200.2.2.1
theorem dX3_readLine_203 : decode cX3_readLine 203 = .ok (.invokevirtual 148, 3) := sdX3_readLine_200.2.2.2.1
theorem dX3_readLine_206 : decode cX3_readLine 206 = .ok (.ireturn, 1) := sdX3_readLine_200.2.2.2.2.1
theorem sdX3_readUnit_0 : dz_Seg cX3_readUnit [(0, .aload_n 0, 1), (1, .invokevirtual 71, 3), (4, .aload_n 0, 1), (5, .invokevirtual 175, 3), (8, .ifCond .ne 5, 3), (11, .iconst 0, 1), (12, .ireturn, 1), (13, .aload_n 0, 1)] := dz_sg _ 0 (by decide +kernel)
theorem dX3_readUnit_0 : decode cX3_readUnit 0 = .ok (.aload_n 0, 1) := sdX3_readUnit_0.1
theorem dX3_readUnit_1 : decode cX3_readUnit 1 = .ok (.invokevirtual 71, 3) := sdX3_readUnit_0.2.1
theorem dX3_readUnit_4 : decode cX3_readUnit 4 = .ok (.aload_n 0, 1) := sdX3_readUnit_0.2.2.1
theorem dX3_readUnit_5 : decode cX3_readUnit 5 = .ok (.invokevirtual 175, 3) := sdX3_readUnit_0.2.2.2.1
theorem dX3_readUnit_8 : decode cX3_readUnit 8 = .ok (.ifCond .ne 5, 3) := sdX3_readUnit_0.2.2.2.2.1
theorem dX3_readUnit_11 : decode cX3_readUnit 11 = .ok (.iconst 0, 1) := sdX3_readUnit_0.2.2.2.2.2.1
theorem dX3_readUnit_12 : decode cX3_readUnit 12 = .ok (.ireturn, 1) := sdX3_readUnit_0.2.2.2.2.2.2.1
theorem dX3_readUnit_13 : decode cX3_readUnit 13 = .ok (.aload_n 0, 1) := sdX3_readUnit_0.2.2.2.2.2.2.2.1
theorem sdX3_readUnit_14 : dz_Seg cX3_readUnit [(14, .bipush 20, 2), (16, .invokevirtual 178, 3), (19, .ifCond .eq 10, 3), (22, .aload_n 0, 1), (23, .invokevirtual 181, 3), (26, .ifCond .ne 5, 3), (29, .iconst 0, 1), (30, .ireturn, 1)] := dz_sg _ 14 (by decide +kernel)
theorem dX3_readUnit_14 : decode cX3_readUnit 14 = .ok (.bipush 20, 2) := sdX3_readUnit_14.1
theorem dX3_readUnit_16 : decode cX3_readUnit 16 = .ok (.invokevirtual 178, 3) := sdX3_readUnit_14.2.1
theorem dX3_readUnit_19 : decode cX3_readUnit 19 = .ok (.ifCond .eq 10, 3) := sdX3_readUnit_14.2.2.1
theorem dX3_readUnit_22 : decode cX3_readUnit 22 = .ok (.aload_n 0, 1) := sdX3_readUnit_14.2.2.2.1
theorem dX3_readUnit_23 : decode cX3_readUnit 23 = .ok (.invokevirtual 181, 3) := sdX3_readUnit_14.2.2.2.2.1
theorem dX3_readUnit_26 : decode cX3_readUnit 26 = .ok (.ifCond .ne 5, 3) := sdX3_readUnit_14.2.2.2.2.2.1
theorem dX3_readUnit_29 : decode cX3_readUnit 29 = .ok (.iconst 0, 1) := sdX3_readUnit_14.2.2.2.2.2.2.1
theorem dX3_readUnit_30 : decode cX3_readUnit 30 = .ok (.ireturn, 1) := sdX3_readUnit_14.2.2.2.2.2.2.2.1
theorem sdX3_readUnit_31 : dz_Seg cX3_readUnit [(31, .aload_n 0, 1), (32, .getfield 29, 3), (35, .aload_n 0, 1), (36, .getfield 12, 3), (39, .getfield 142, 3), (42, .aload_n 0, 1), (43, .getfield 184, 3), (46, .invokestatic 187, 3)] := dz_sg _ 31 (by decide +kernel)
theorem dX3_readUnit_31 : decode cX3_readUnit 31 = .ok (.aload_n 0, 1) := sdX3_readUnit_31.1
theorem dX3_readUnit_32 : decode cX3_readUnit 32 = .ok (.getfield 29, 3) := sdX3_readUnit_31.2.1
theorem dX3_readUnit_35 : decode cX3_readUnit 35 = .ok (.aload_n 0, 1) := sdX3_readUnit_31.2.2.1
theorem dX3_readUnit_36 : decode cX3_readUnit 36 = .ok (.getfield 12, 3) := sdX3_readUnit_31.2.2.2.1
theorem dX3_readUnit_39 : decode cX3_readUnit 39 = .ok (.getfield 142, 3) := sdX3_readUnit_31.2.2.2.2.1
theorem dX3_readUnit_42 : decode cX3_readUnit 42 = .ok (.aload_n 0, 1) := sdX3_readUnit_31.2.2.2.2.2.1
theorem dX3_readUnit_43 : decode cX3_readUnit 43 = .ok (.getfield 184, 3) := sdX3_readUnit_31.2.2.2.2.2.2.1
theorem dX3_readUnit_46 : decode cX3_readUnit 46 = .ok (.invokestatic 187, 3) := sdX3_readUnit_31.2.2.2.2.2.2.2.1
theorem sdX3_readUnit_49 : dz_Seg cX3_readUnit [(49, .aload_n 0, 1), (50, .getfield 12, 3), (53, .aload_n 0, 1), (54, .getfield 110, 3), (57, .invokevirtual 191, 3), (60, .iconst 1, 1), (61, .ireturn, 1)] := dz_sg _ 49 (by decide +kernel)
theorem dX3_readUnit_49 : decode cX3_readUnit 49 = .ok (.aload_n 0, 1) := sdX3_readUnit_49.1
theorem dX3_readUnit_50 : decode cX3_readUnit 50 = .ok (.getfield 12, 3) := sdX3_readUnit_49.2.1
theorem dX3_readUnit_53 : decode cX3_readUnit 53 = .ok (.aload_n 0, 1) := sdX3_readUnit_49.2.2.1
theorem dX3_readUnit_54 : decode cX3_readUnit 54 = .ok (.getfield 110, 3) := sdX3_readUnit_49.2.2.2.1
theorem dX3_readUnit_57 : decode cX3_readUnit 57 = .ok (.invokevirtual 191, 3) := sdX3_readUnit_49.2.2.2.2.1
theorem dX3_readUnit_60 : decode cX3_readUnit 60 = .ok (.iconst 1, 1) := sdX3_readUnit_49.2.2.2.2.2.1
theorem dX3_readUnit_61 : decode cX3_readUnit 61 = .ok (.ireturn, 1) := sdX3_readUnit_49.2.2.2.2.2.2.1
theorem sdX3_readHunter_0 : dz_Seg cX3_readHunter [(0, .aload_n 0, 1), (1, .invokevirtual 71, 3), (4, .aload_n 0, 1), (5, .invokevirtual 175, 3), (8, .ifCond .ne 5, 3), (11, .iconst 0, 1), (12, .ireturn, 1), (13, .aload_n 0, 1)] := dz_sg _ 0 (by decide +kernel)
theorem dX3_readHunter_0 : decode cX3_readHunter 0 = .ok (.aload_n 0, 1) := sdX3_readHunter_0.1
theorem dX3_readHunter_1 : decode cX3_readHunter 1 = .ok (.invokevirtual 71, 3) := sdX3_readHunter_0.2.1
theorem dX3_readHunter_4 : decode cX3_readHunter 4 = .ok (.aload_n 0, 1) := sdX3_readHunter_0.2.2.1
theorem dX3_readHunter_5 : decode cX3_readHunter 5 = .ok (.invokevirtual 175, 3) := sdX3_readHunter_0.2.2.2.1
theorem dX3_readHunter_8 : decode cX3_readHunter 8 = .ok (.ifCond .ne 5, 3) := sdX3_readHunter_0.2.2.2.2.1
theorem dX3_readHunter_11 : decode cX3_readHunter 11 = .ok (.iconst 0, 1) := sdX3_readHunter_0.2.2.2.2.2.1
theorem dX3_readHunter_12 : decode cX3_readHunter 12 = .ok (.ireturn, 1) := sdX3_readHunter_0.2.2.2.2.2.2.1
theorem dX3_readHunter_13 : decode cX3_readHunter 13 = .ok (.aload_n 0, 1) := sdX3_readHunter_0.2.2.2.2.2.2.2.1
theorem sdX3_readHunter_14 : dz_Seg cX3_readHunter [(14, .bipush 20, 2), (16, .invokevirtual 178, 3), (19, .ifCond .ne 5, 3), (22, .iconst 0, 1), (23, .ireturn, 1), (24, .aload_n 0, 1), (25, .ldc 130, 2), (27, .invokevirtual 124, 3)] := dz_sg _ 14 (by decide +kernel)
theorem dX3_readHunter_14 : decode cX3_readHunter 14 = .ok (.bipush 20, 2) := sdX3_readHunter_14.1
theorem dX3_readHunter_16 : decode cX3_readHunter 16 = .ok (.invokevirtual 178, 3) := sdX3_readHunter_14.2.1
theorem dX3_readHunter_19 : decode cX3_readHunter 19 = .ok (.ifCond .ne 5, 3) := sdX3_readHunter_14.2.2.1
theorem dX3_readHunter_22 : decode cX3_readHunter 22 = .ok (.iconst 0, 1) := sdX3_readHunter_14.2.2.2.1
theorem dX3_readHunter_23 : decode cX3_readHunter 23 = .ok (.ireturn, 1) := sdX3_readHunter_14.2.2.2.2.1
theorem dX3_readHunter_24 : decode cX3_readHunter 24 = .ok (.aload_n 0, 1) := sdX3_readHunter_14.2.2.2.2.2.1
theorem dX3_readHunter_25 : decode cX3_readHunter 25 = .ok (.ldc 130, 2) := sdX3_readHunter_14.2.2.2.2.2.2.1
theorem dX3_readHunter_27 : decode cX3_readHunter 27 = .ok (.invokevirtual 124, 3) := sdX3_readHunter_14.2.2.2.2.2.2.2.1
theorem sdX3_readHunter_30 : dz_Seg cX3_readHunter [(30, .istore_n 1, 1), (31, .iload_n 1, 1), (32, .ifCond .eq 7, 3), (35, .aload_n 0, 1), (36, .invokevirtual 71, 3), (39, .aload_n 0, 1), (40, .invokevirtual 181, 3), (43, .ifCond .ne 5, 3)] := dz_sg _ 30 (by decide +kernel)
theorem dX3_readHunter_30 : decode cX3_readHunter 30 = .ok (.istore_n 1, 1) := sdX3_readHunter_30.1
theorem dX3_readHunter_31 : decode cX3_readHunter 31 = .ok (.iload_n 1, 1) := sdX3_readHunter_30.2.1
theorem dX3_readHunter_32 : decode cX3_readHunter 32 = .ok (.ifCond .eq 7, 3) := sdX3_readHunter_30.2.2.1
theorem dX3_readHunter_35 : decode cX3_readHunter 35 = .ok (.aload_n 0, 1) := sdX3_readHunter_30.2.2.2.1
theorem dX3_readHunter_36 : decode cX3_readHunter 36 = .ok (.invokevirtual 71, 3) := sdX3_readHunter_30.2.2.2.2.1
theorem dX3_readHunter_39 : decode cX3_readHunter 39 = .ok (.aload_n 0, 1) := sdX3_readHunter_30.2.2.2.2.2.1
theorem dX3_readHunter_40 : decode cX3_readHunter 40 = .ok (.invokevirtual 181, 3) := sdX3_readHunter_30.2.2.2.2.2.2.1
theorem dX3_readHunter_43 : decode cX3_readHunter 43 = .ok (.ifCond .ne 5, 3) := sdX3_readHunter_30.2.2.2.2.2.2.2.1
theorem sdX3_readHunter_46 : dz_Seg cX3_readHunter [(46, .iconst 0, 1), (47, .ireturn, 1), (48, .aload_n 0, 1), (49, .getfield 33, 3), (52, .aload_n 0, 1), (53, .getfield 12, 3), (56, .getfield 151, 3), (59, .aload_n 0, 1)] := dz_sg _ 46 (by decide +kernel)
theorem dX3_readHunter_46 : decode cX3_readHunter 46 = .ok (.iconst 0, 1) := sdX3_readHunter_46.1
theorem dX3_readHunter_47 : decode cX3_readHunter 47 = .ok (.ireturn, 1) := sdX3_readHunter_46.2.1
theorem dX3_readHunter_48 : decode cX3_readHunter 48 = .ok (.aload_n 0, 1) := sdX3_readHunter_46.2.2.1
theorem dX3_readHunter_49 : decode cX3_readHunter 49 = .ok (.getfield 33, 3) := sdX3_readHunter_46.2.2.2.1
theorem dX3_readHunter_52 : decode cX3_readHunter 52 = .ok (.aload_n 0, 1) := sdX3_readHunter_46.2.2.2.2.1
theorem dX3_readHunter_53 : decode cX3_readHunter 53 = .ok (.getfield 12, 3) := sdX3_readHunter_46.2.2.2.2.2.1
theorem dX3_readHunter_56 : decode cX3_readHunter 56 = .ok (.getfield 151, 3) := sdX3_readHunter_46.2.2.2.2.2.2.1
theorem dX3_readHunter_59 : decode cX3_readHunter 59 = .ok (.aload_n 0, 1) := sdX3_readHunter_46.2.2.2.2.2.2.2.1
theorem sdX3_readHunter_60 : dz_Seg cX3_readHunter [(60, .getfield 184, 3), (63, .invokestatic 187, 3), (66, .aload_n 0, 1), (67, .getfield 12, 3), (70, .aload_n 0, 1), (71, .getfield 110, 3), (74, .iload_n 1, 1), (75, .invokevirtual 195, 3)] := dz_sg _ 60 (by decide +kernel)
theorem dX3_readHunter_60 : decode cX3_readHunter 60 = .ok (.getfield 184, 3) := sdX3_readHunter_60.1
theorem dX3_readHunter_63 : decode cX3_readHunter 63 = .ok (.invokestatic 187, 3) := sdX3_readHunter_60.2.1
theorem dX3_readHunter_66 : decode cX3_readHunter 66 = .ok (.aload_n 0, 1) := sdX3_readHunter_60.2.2.1
theorem dX3_readHunter_67 : decode cX3_readHunter 67 = .ok (.getfield 12, 3) := sdX3_readHunter_60.2.2.2.1
theorem dX3_readHunter_70 : decode cX3_readHunter 70 = .ok (.aload_n 0, 1) := sdX3_readHunter_60.2.2.2.2.1
theorem dX3_readHunter_71 : decode cX3_readHunter 71 = .ok (.getfield 110, 3) := sdX3_readHunter_60.2.2.2.2.2.1
theorem dX3_readHunter_74 : decode cX3_readHunter 74 = .ok (.iload_n 1, 1) := sdX3_readHunter_60.2.2.2.2.2.2.1
theorem dX3_readHunter_75 : decode cX3_readHunter 75 = .ok (.invokevirtual 195, 3) := sdX3_readHunter_60.2.2.2.2.2.2.2.1
theorem sdX3_readHunter_78 : dz_Seg cX3_readHunter [(78, .iconst 1, 1), (79, .ireturn, 1)] := dz_sg _ 78 (by decide +kernel)
theorem dX3_readHunter_78 : decode cX3_readHunter 78 = .ok (.iconst 1, 1) := sdX3_readHunter_78.1
theorem dX3_readHunter_79 : decode cX3_readHunter 79 = .ok (.ireturn, 1) := sdX3_readHunter_78.2.1
theorem sdX3_readParty_0 : dz_Seg cX3_readParty [(0, .aload_n 0, 1), (1, .invokevirtual 71, 3), (4, .aload_n 0, 1), (5, .invokevirtual 175, 3), (8, .ifCond .ne 5, 3), (11, .iconst 0, 1), (12, .ireturn, 1), (13, .iconst 0, 1)] := dz_sg _ 0 (by decide +kernel)
theorem dX3_readParty_0 : decode cX3_readParty 0 = .ok (.aload_n 0, 1) := sdX3_readParty_0.1
theorem dX3_readParty_1 : decode cX3_readParty 1 = .ok (.invokevirtual 71, 3) := sdX3_readParty_0.2.1
theorem dX3_readParty_4 : decode cX3_readParty 4 = .ok (.aload_n 0, 1) := sdX3_readParty_0.2.2.1
theorem dX3_readParty_5 : decode cX3_readParty 5 = .ok (.invokevirtual 175, 3) := sdX3_readParty_0.2.2.2.1
theorem dX3_readParty_8 : decode cX3_readParty 8 = .ok (.ifCond .ne 5, 3) := sdX3_readParty_0.2.2.2.2.1
theorem dX3_readParty_11 : decode cX3_readParty 11 = .ok (.iconst 0, 1) := sdX3_readParty_0.2.2.2.2.2.1
theorem dX3_readParty_12 : decode cX3_readParty 12 = .ok (.ireturn, 1) := sdX3_readParty_0.2.2.2.2.2.2.1
theorem dX3_readParty_13 : decode cX3_readParty 13 = .ok (.iconst 0, 1) := sdX3_readParty_0.2.2.2.2.2.2.2.1
theorem sdX3_readParty_14 : dz_Seg cX3_readParty [(14, .istore_n 1, 1), (15, .iconst 0, 1), (16, .istore_n 2, 1), (17, .iload_n 2, 1), (18, .iconst 4, 1), (19, .if_icmp .ge 87, 3), (22, .iload_n 2, 1), (23, .iconst 2, 1)] := dz_sg _ 14 (by decide +kernel)
theorem dX3_readParty_14 : decode cX3_readParty 14 = .ok (.istore_n 1, 1) := sdX3_readParty_14.1
theorem dX3_readParty_15 : decode cX3_readParty 15 = .ok (.iconst 0, 1) := sdX3_readParty_14.2.1
theorem dX3_readParty_16 : decode cX3_readParty 16 = .ok (.istore_n 2, 1) := sdX3_readParty_14.2.2.1
theorem dX3_readParty_17 : decode cX3_readParty 17 = .ok (.iload_n 2, 1) := sdX3_readParty_14.2.2.2.1
theorem dX3_readParty_18 : decode cX3_readParty 18 = .ok (.iconst 4, 1) := sdX3_readParty_14.2.2.2.2.1
theorem dX3_readParty_19 : decode cX3_readParty 19 = .ok (.if_icmp .ge 87, 3) := sdX3_readParty_14.2.2.2.2.2.1
theorem dX3_readParty_22 : decode cX3_readParty 22 = .ok (.iload_n 2, 1) := sdX3_readParty_14.2.2.2.2.2.2.1
theorem dX3_readParty_23 : decode cX3_readParty 23 = .ok (.iconst 2, 1) := sdX3_readParty_14.2.2.2.2.2.2.2.1
theorem sdX3_readParty_24 : dz_Seg cX3_readParty [(24, .if_icmp .lt 11, 3), (27, .aload_n 0, 1), (28, .getfield 74, 3), (31, .iconst 3, 1), (32, .if_icmp .eq 74, 3), (35, .aload_n 0, 1), (36, .invokevirtual 199, 3), (39, .ifCond .ne 9, 3)] := dz_sg _ 24 (by decide +kernel)
theorem dX3_readParty_24 : decode cX3_readParty 24 = .ok (.if_icmp .lt 11, 3) := sdX3_readParty_24.1
theorem dX3_readParty_27 : decode cX3_readParty 27 = .ok (.aload_n 0, 1) := sdX3_readParty_24.2.1
theorem dX3_readParty_28 : decode cX3_readParty 28 = .ok (.getfield 74, 3) := sdX3_readParty_24.2.2.1
theorem dX3_readParty_31 : decode cX3_readParty 31 = .ok (.iconst 3, 1) := sdX3_readParty_24.2.2.2.1
theorem dX3_readParty_32 : decode cX3_readParty 32 = .ok (.if_icmp .eq 74, 3) := sdX3_readParty_24.2.2.2.2.1
theorem dX3_readParty_35 : decode cX3_readParty 35 = .ok (.aload_n 0, 1) := sdX3_readParty_24.2.2.2.2.2.1
theorem dX3_readParty_36 : decode cX3_readParty 36 = .ok (.invokevirtual 199, 3) := sdX3_readParty_24.2.2.2.2.2.2.1
theorem dX3_readParty_39 : decode cX3_readParty 39 = .ok (.ifCond .ne 9, 3) := sdX3_readParty_24.2.2.2.2.2.2.2.1
theorem sdX3_readParty_42 : dz_Seg cX3_readParty [(42, .aload_n 0, 1), (43, .iconst 2, 1), (44, .invokevirtual 148, 3), (47, .ireturn, 1), (48, .aload_n 0, 1), (49, .getfield 33, 3), (52, .aload_n 0, 1), (53, .getfield 12, 3)] := dz_sg _ 42 (by decide +kernel)
theorem dX3_readParty_42 : decode cX3_readParty 42 = .ok (.aload_n 0, 1) := sdX3_readParty_42.1
theorem dX3_readParty_43 : decode cX3_readParty 43 = .ok (.iconst 2, 1) := sdX3_readParty_42.2.1
theorem dX3_readParty_44 : decode cX3_readParty 44 = .ok (.invokevirtual 148, 3) := sdX3_readParty_42.2.2.1
theorem dX3_readParty_47 : decode cX3_readParty 47 = .ok (.ireturn, 1) := sdX3_readParty_42.2.2.2.1
theorem dX3_readParty_48 : decode cX3_readParty 48 = .ok (.aload_n 0, 1) := sdX3_readParty_42.2.2.2.2.1
theorem dX3_readParty_49 : decode cX3_readParty 49 = .ok (.getfield 33, 3) := sdX3_readParty_42.2.2.2.2.2.1
theorem dX3_readParty_52 : decode cX3_readParty 52 = .ok (.aload_n 0, 1) := sdX3_readParty_42.2.2.2.2.2.2.1
theorem dX3_readParty_53 : decode cX3_readParty 53 = .ok (.getfield 12, 3) := sdX3_readParty_42.2.2.2.2.2.2.2.1
theorem sdX3_readParty_56 : dz_Seg cX3_readParty [(56, .getfield 151, 3), (59, .aload_n 0, 1), (60, .getfield 104, 3), (63, .invokestatic 202, 3), (66, .istore_n 3, 1), (67, .aload_n 0, 1), (68, .iload_n 3, 1), (69, .invokevirtual 206, 3)] := dz_sg _ 56 (by decide +kernel)
theorem dX3_readParty_56 : decode cX3_readParty 56 = .ok (.getfield 151, 3) := sdX3_readParty_56.1
theorem dX3_readParty_59 : decode cX3_readParty 59 = .ok (.aload_n 0, 1) := sdX3_readParty_56.2.1
theorem dX3_readParty_60 : decode cX3_readParty 60 = .ok (.getfield 104, 3) := sdX3_readParty_56.2.2.1
theorem dX3_readParty_63 : decode cX3_readParty 63 = .ok (.invokestatic 202, 3) := sdX3_readParty_56.2.2.2.1
theorem dX3_readParty_66 : decode cX3_readParty 66 = .ok (.istore_n 3, 1) := sdX3_readParty_56.2.2.2.2.1
theorem dX3_readParty_67 : decode cX3_readParty 67 = .ok (.aload_n 0, 1) := sdX3_readParty_56.2.2.2.2.2.1
theorem dX3_readParty_68 : decode cX3_readParty 68 = .ok (.iload_n 3, 1) := sdX3_readParty_56.2.2.2.2.2.2.1
theorem dX3_readParty_69 : decode cX3_readParty 69 = .ok (.invokevirtual 206, 3) := sdX3_readParty_56.2.2.2.2.2.2.2.1
theorem sdX3_readParty_72 : dz_Seg cX3_readParty [(72, .ifCond .eq 12, 3), (75, .iload_n 1, 1), (76, .iload_n 3, 1), (77, .ishr, 1), (78, .iconst 1, 1), (79, .iand, 1), (80, .iconst 1, 1), (81, .if_icmp .ne 9, 3)] := dz_sg _ 72 (by decide +kernel)
theorem dX3_readParty_72 : decode cX3_readParty 72 = .ok (.ifCond .eq 12, 3) := sdX3_readParty_72.1
theorem dX3_readParty_75 : decode cX3_readParty 75 = .ok (.iload_n 1, 1) := sdX3_readParty_72.2.1
theorem dX3_readParty_76 : decode cX3_readParty 76 = .ok (.iload_n 3, 1) := sdX3_readParty_72.2.2.1
theorem dX3_readParty_77 : decode cX3_readParty 77 = .ok (.ishr, 1) := sdX3_readParty_72.2.2.2.1
theorem dX3_readParty_78 : decode cX3_readParty 78 = .ok (.iconst 1, 1) := sdX3_readParty_72.2.2.2.2.1
theorem dX3_readParty_79 : decode cX3_readParty 79 = .ok (.iand, 1) := sdX3_readParty_72.2.2.2.2.2.1
theorem dX3_readParty_80 : decode cX3_readParty 80 = .ok (.iconst 1, 1) := sdX3_readParty_72.2.2.2.2.2.2.1
theorem dX3_readParty_81 : decode cX3_readParty 81 = .ok (.if_icmp .ne 9, 3) := sdX3_readParty_72.2.2.2.2.2.2.2.1
theorem sdX3_readParty_84 : dz_Seg cX3_readParty [(84, .aload_n 0, 1), (85, .iconst 4, 1), (86, .invokevirtual 148, 3), (89, .ireturn, 1), (90, .iload_n 1, 1), (91, .iconst 1, 1), (92, .iload_n 3, 1), (93, .ishl, 1)] := dz_sg _ 84 (by decide +kernel)
theorem dX3_readParty_84 : decode cX3_readParty 84 = .ok (.aload_n 0, 1) := sdX3_readParty_84.1
theorem dX3_readParty_85 : decode cX3_readParty 85 = .ok (.iconst 4, 1) := sdX3_readParty_84.2.1
theorem dX3_readParty_86 : decode cX3_readParty 86 = .ok (.invokevirtual 148, 3) := sdX3_readParty_84.2.2.1
theorem dX3_readParty_89 : decode cX3_readParty 89 = .ok (.ireturn, 1) := sdX3_readParty_84.2.2.2.1
theorem dX3_readParty_90 : decode cX3_readParty 90 = .ok (.iload_n 1, 1) := sdX3_readParty_84.2.2.2.2.1
theorem dX3_readParty_91 : decode cX3_readParty 91 = .ok (.iconst 1, 1) := sdX3_readParty_84.2.2.2.2.2.1
theorem dX3_readParty_92 : decode cX3_readParty 92 = .ok (.iload_n 3, 1) := sdX3_readParty_84.2.2.2.2.2.2.1
theorem dX3_readParty_93 : decode cX3_readParty 93 = .ok (.ishl, 1) := sdX3_readParty_84.2.2.2.2.2.2.2.1
theorem sdX3_readParty_94 : dz_Seg cX3_readParty [(94, .ior, 1), (95, .istore_n 1, 1), (96, .aload_n 0, 1), (97, .invokevirtual 71, 3), (100, .iinc 2 1, 3), (103, .goto (-86), 3), (106, .aload_n 0, 1), (107, .invokevirtual 181, 3)] := dz_sg _ 94 (by decide +kernel)
theorem dX3_readParty_94 : decode cX3_readParty 94 = .ok (.ior, 1) := sdX3_readParty_94.1
theorem dX3_readParty_95 : decode cX3_readParty 95 = .ok (.istore_n 1, 1) := sdX3_readParty_94.2.1
theorem dX3_readParty_96 : decode cX3_readParty 96 = .ok (.aload_n 0, 1) := sdX3_readParty_94.2.2.1
theorem dX3_readParty_97 : decode cX3_readParty 97 = .ok (.invokevirtual 71, 3) := sdX3_readParty_94.2.2.2.1
theorem dX3_readParty_100 : decode cX3_readParty 100 = .ok (.iinc 2 1, 3) := sdX3_readParty_94.2.2.2.2.1
theorem dX3_readParty_103 : decode cX3_readParty 103 = .ok (.goto (-86), 3) := sdX3_readParty_94.2.2.2.2.2.1
theorem dX3_readParty_106 : decode cX3_readParty 106 = .ok (.aload_n 0, 1) := sdX3_readParty_94.2.2.2.2.2.2.1
theorem dX3_readParty_107 : decode cX3_readParty 107 = .ok (.invokevirtual 181, 3) := sdX3_readParty_94.2.2.2.2.2.2.2.1
theorem sdX3_readParty_110 : dz_Seg cX3_readParty [(110, .ifCond .ne 5, 3), (113, .iconst 0, 1), (114, .ireturn, 1), (115, .aload_n 0, 1), (116, .getfield 36, 3), (119, .aload_n 0, 1), (120, .getfield 12, 3), (123, .getfield 157, 3)] := dz_sg _ 110 (by decide +kernel)
theorem dX3_readParty_110 : decode cX3_readParty 110 = .ok (.ifCond .ne 5, 3) := sdX3_readParty_110.1
theorem dX3_readParty_113 : decode cX3_readParty 113 = .ok (.iconst 0, 1) := sdX3_readParty_110.2.1
theorem dX3_readParty_114 : decode cX3_readParty 114 = .ok (.ireturn, 1) := sdX3_readParty_110.2.2.1
theorem dX3_readParty_115 : decode cX3_readParty 115 = .ok (.aload_n 0, 1) := sdX3_readParty_110.2.2.2.1
theorem dX3_readParty_116 : decode cX3_readParty 116 = .ok (.getfield 36, 3) := sdX3_readParty_110.2.2.2.2.1
theorem dX3_readParty_119 : decode cX3_readParty 119 = .ok (.aload_n 0, 1) := sdX3_readParty_110.2.2.2.2.2.1
theorem dX3_readParty_120 : decode cX3_readParty 120 = .ok (.getfield 12, 3) := sdX3_readParty_110.2.2.2.2.2.2.1
theorem dX3_readParty_123 : decode cX3_readParty 123 = .ok (.getfield 157, 3) := sdX3_readParty_110.2.2.2.2.2.2.2.1
theorem sdX3_readParty_126 : dz_Seg cX3_readParty [(126, .aload_n 0, 1), (127, .getfield 184, 3), (130, .invokestatic 187, 3), (133, .aload_n 0, 1), (134, .getfield 12, 3), (137, .iload_n 1, 1), (138, .invokevirtual 209, 3), (141, .iconst 1, 1)] := dz_sg _ 126 (by decide +kernel)
theorem dX3_readParty_126 : decode cX3_readParty 126 = .ok (.aload_n 0, 1) := sdX3_readParty_126.1
theorem dX3_readParty_127 : decode cX3_readParty 127 = .ok (.getfield 184, 3) := sdX3_readParty_126.2.1
theorem dX3_readParty_130 : decode cX3_readParty 130 = .ok (.invokestatic 187, 3) := sdX3_readParty_126.2.2.1
theorem dX3_readParty_133 : decode cX3_readParty 133 = .ok (.aload_n 0, 1) := sdX3_readParty_126.2.2.2.1
theorem dX3_readParty_134 : decode cX3_readParty 134 = .ok (.getfield 12, 3) := sdX3_readParty_126.2.2.2.2.1
theorem dX3_readParty_137 : decode cX3_readParty 137 = .ok (.iload_n 1, 1) := sdX3_readParty_126.2.2.2.2.2.1
theorem dX3_readParty_138 : decode cX3_readParty 138 = .ok (.invokevirtual 209, 3) := sdX3_readParty_126.2.2.2.2.2.2.1
theorem dX3_readParty_141 : decode cX3_readParty 141 = .ok (.iconst 1, 1) := sdX3_readParty_126.2.2.2.2.2.2.2.1
theorem sdX3_readParty_142 : dz_Seg cX3_readParty [(142, .ireturn, 1)] := dz_sg _ 142 (by decide +kernel)
theorem dX3_readParty_142 : decode cX3_readParty 142 = .ok (.ireturn, 1) := sdX3_readParty_142.1
theorem sdX3_readAsks_0 : dz_Seg cX3_readAsks [(0, .aload_n 0, 1), (1, .invokevirtual 71, 3), (4, .aload_n 0, 1), (5, .invokevirtual 199, 3), (8, .ifCond .ne 9, 3), (11, .aload_n 0, 1), (12, .iconst 2, 1), (13, .invokevirtual 148, 3)] := dz_sg _ 0 (by decide +kernel)
theorem dX3_readAsks_0 : decode cX3_readAsks 0 = .ok (.aload_n 0, 1) := sdX3_readAsks_0.1
theorem dX3_readAsks_1 : decode cX3_readAsks 1 = .ok (.invokevirtual 71, 3) := sdX3_readAsks_0.2.1
theorem dX3_readAsks_4 : decode cX3_readAsks 4 = .ok (.aload_n 0, 1) := sdX3_readAsks_0.2.2.1
theorem dX3_readAsks_5 : decode cX3_readAsks 5 = .ok (.invokevirtual 199, 3) := sdX3_readAsks_0.2.2.2.1
theorem dX3_readAsks_8 : decode cX3_readAsks 8 = .ok (.ifCond .ne 9, 3) := sdX3_readAsks_0.2.2.2.2.1
theorem dX3_readAsks_11 : decode cX3_readAsks 11 = .ok (.aload_n 0, 1) := sdX3_readAsks_0.2.2.2.2.2.1
theorem dX3_readAsks_12 : decode cX3_readAsks 12 = .ok (.iconst 2, 1) := sdX3_readAsks_0.2.2.2.2.2.2.1
theorem dX3_readAsks_13 : decode cX3_readAsks 13 = .ok (.invokevirtual 148, 3) := sdX3_readAsks_0.2.2.2.2.2.2.2.1
theorem sdX3_readAsks_16 : dz_Seg cX3_readAsks [(16, .ireturn, 1), (17, .aload_n 0, 1), (18, .invokevirtual 212, 3), (21, .istore_n 1, 1), (22, .iload_n 1, 1), (23, .ifCond .ne 9, 3), (26, .aload_n 0, 1), (27, .iconst 4, 1)] := dz_sg _ 16 (by decide +kernel)
theorem dX3_readAsks_16 : decode cX3_readAsks 16 = .ok (.ireturn, 1) := sdX3_readAsks_16.1
theorem dX3_readAsks_17 : decode cX3_readAsks 17 = .ok (.aload_n 0, 1) := sdX3_readAsks_16.2.1
theorem dX3_readAsks_18 : decode cX3_readAsks 18 = .ok (.invokevirtual 212, 3) := sdX3_readAsks_16.2.2.1
theorem dX3_readAsks_21 : decode cX3_readAsks 21 = .ok (.istore_n 1, 1) := sdX3_readAsks_16.2.2.2.1
theorem dX3_readAsks_22 : decode cX3_readAsks 22 = .ok (.iload_n 1, 1) := sdX3_readAsks_16.2.2.2.2.1
theorem dX3_readAsks_23 : decode cX3_readAsks 23 = .ok (.ifCond .ne 9, 3) := sdX3_readAsks_16.2.2.2.2.2.1
theorem dX3_readAsks_26 : decode cX3_readAsks 26 = .ok (.aload_n 0, 1) := sdX3_readAsks_16.2.2.2.2.2.2.1
theorem dX3_readAsks_27 : decode cX3_readAsks 27 = .ok (.iconst 4, 1) := sdX3_readAsks_16.2.2.2.2.2.2.2.1
theorem sdX3_readAsks_28 : dz_Seg cX3_readAsks [(28, .invokevirtual 148, 3), (31, .ireturn, 1), (32, .aload_n 0, 1), (33, .invokevirtual 71, 3), (36, .aload_n 0, 1), (37, .getfield 39, 3), (40, .iconst (-1), 1), (41, .invokestatic 215, 3)] := dz_sg _ 28 (by decide +kernel)
theorem dX3_readAsks_28 : decode cX3_readAsks 28 = .ok (.invokevirtual 148, 3) := sdX3_readAsks_28.1
theorem dX3_readAsks_31 : decode cX3_readAsks 31 = .ok (.ireturn, 1) := sdX3_readAsks_28.2.1
theorem dX3_readAsks_32 : decode cX3_readAsks 32 = .ok (.aload_n 0, 1) := sdX3_readAsks_28.2.2.1
theorem dX3_readAsks_33 : decode cX3_readAsks 33 = .ok (.invokevirtual 71, 3) := sdX3_readAsks_28.2.2.2.1
theorem dX3_readAsks_36 : decode cX3_readAsks 36 = .ok (.aload_n 0, 1) := sdX3_readAsks_28.2.2.2.2.1
theorem dX3_readAsks_37 : decode cX3_readAsks 37 = .ok (.getfield 39, 3) := sdX3_readAsks_28.2.2.2.2.2.1
theorem dX3_readAsks_40 : decode cX3_readAsks 40 = .ok (.iconst (-1), 1) := sdX3_readAsks_28.2.2.2.2.2.2.1
theorem dX3_readAsks_41 : decode cX3_readAsks 41 = .ok (.invokestatic 215, 3) := sdX3_readAsks_28.2.2.2.2.2.2.2.1
theorem sdX3_readAsks_44 : dz_Seg cX3_readAsks [(44, .iconst 0, 1), (45, .istore_n 2, 1), (46, .iload_n 2, 1), (47, .iconst 3, 1), (48, .if_icmp .ge 102, 3), (51, .iload_n 2, 1), (52, .iconst 1, 1), (53, .if_icmp .lt 11, 3)] := dz_sg _ 44 (by decide +kernel)
theorem dX3_readAsks_44 : decode cX3_readAsks 44 = .ok (.iconst 0, 1) := sdX3_readAsks_44.1
theorem dX3_readAsks_45 : decode cX3_readAsks 45 = .ok (.istore_n 2, 1) := sdX3_readAsks_44.2.1
theorem dX3_readAsks_46 : decode cX3_readAsks 46 = .ok (.iload_n 2, 1) := sdX3_readAsks_44.2.2.1
theorem dX3_readAsks_47 : decode cX3_readAsks 47 = .ok (.iconst 3, 1) := sdX3_readAsks_44.2.2.2.1
theorem dX3_readAsks_48 : decode cX3_readAsks 48 = .ok (.if_icmp .ge 102, 3) := sdX3_readAsks_44.2.2.2.2.1
theorem dX3_readAsks_51 : decode cX3_readAsks 51 = .ok (.iload_n 2, 1) := sdX3_readAsks_44.2.2.2.2.2.1
theorem dX3_readAsks_52 : decode cX3_readAsks 52 = .ok (.iconst 1, 1) := sdX3_readAsks_44.2.2.2.2.2.2.1
theorem dX3_readAsks_53 : decode cX3_readAsks 53 = .ok (.if_icmp .lt 11, 3) := sdX3_readAsks_44.2.2.2.2.2.2.2.1
theorem sdX3_readAsks_56 : dz_Seg cX3_readAsks [(56, .aload_n 0, 1), (57, .getfield 74, 3), (60, .iconst 3, 1), (61, .if_icmp .eq 89, 3), (64, .aload_n 0, 1), (65, .invokevirtual 199, 3), (68, .ifCond .ne 9, 3), (71, .aload_n 0, 1)] := dz_sg _ 56 (by decide +kernel)
theorem dX3_readAsks_56 : decode cX3_readAsks 56 = .ok (.aload_n 0, 1) := sdX3_readAsks_56.1
theorem dX3_readAsks_57 : decode cX3_readAsks 57 = .ok (.getfield 74, 3) := sdX3_readAsks_56.2.1
theorem dX3_readAsks_60 : decode cX3_readAsks 60 = .ok (.iconst 3, 1) := sdX3_readAsks_56.2.2.1
theorem dX3_readAsks_61 : decode cX3_readAsks 61 = .ok (.if_icmp .eq 89, 3) := sdX3_readAsks_56.2.2.2.1
theorem dX3_readAsks_64 : decode cX3_readAsks 64 = .ok (.aload_n 0, 1) := sdX3_readAsks_56.2.2.2.2.1
theorem dX3_readAsks_65 : decode cX3_readAsks 65 = .ok (.invokevirtual 199, 3) := sdX3_readAsks_56.2.2.2.2.2.1
theorem dX3_readAsks_68 : decode cX3_readAsks 68 = .ok (.ifCond .ne 9, 3) := sdX3_readAsks_56.2.2.2.2.2.2.1
theorem dX3_readAsks_71 : decode cX3_readAsks 71 = .ok (.aload_n 0, 1) := sdX3_readAsks_56.2.2.2.2.2.2.2.1
theorem sdX3_readAsks_72 : dz_Seg cX3_readAsks [(72, .iconst 2, 1), (73, .invokevirtual 148, 3), (76, .ireturn, 1), (77, .aload_n 0, 1), (78, .getfield 29, 3), (81, .aload_n 0, 1), (82, .getfield 12, 3), (85, .getfield 142, 3)] := dz_sg _ 72 (by decide +kernel)
theorem dX3_readAsks_72 : decode cX3_readAsks 72 = .ok (.iconst 2, 1) := sdX3_readAsks_72.1
theorem dX3_readAsks_73 : decode cX3_readAsks 73 = .ok (.invokevirtual 148, 3) := sdX3_readAsks_72.2.1
theorem dX3_readAsks_76 : decode cX3_readAsks 76 = .ok (.ireturn, 1) := sdX3_readAsks_72.2.2.1
theorem dX3_readAsks_77 : decode cX3_readAsks 77 = .ok (.aload_n 0, 1) := sdX3_readAsks_72.2.2.2.1
theorem dX3_readAsks_78 : decode cX3_readAsks 78 = .ok (.getfield 29, 3) := sdX3_readAsks_72.2.2.2.2.1
theorem dX3_readAsks_81 : decode cX3_readAsks 81 = .ok (.aload_n 0, 1) := sdX3_readAsks_72.2.2.2.2.2.1
theorem dX3_readAsks_82 : decode cX3_readAsks 82 = .ok (.getfield 12, 3) := sdX3_readAsks_72.2.2.2.2.2.2.1
theorem dX3_readAsks_85 : decode cX3_readAsks 85 = .ok (.getfield 142, 3) := sdX3_readAsks_72.2.2.2.2.2.2.2.1
theorem sdX3_readAsks_88 : dz_Seg cX3_readAsks [(88, .aload_n 0, 1), (89, .getfield 104, 3), (92, .invokestatic 202, 3), (95, .istore_n 3, 1), (96, .iload_n 3, 1), (97, .iconst (-1), 1), (98, .if_icmp .eq 27, 3), (101, .aload_n 0, 1)] := dz_sg _ 88 (by decide +kernel)
theorem dX3_readAsks_88 : decode cX3_readAsks 88 = .ok (.aload_n 0, 1) := sdX3_readAsks_88.1
theorem dX3_readAsks_89 : decode cX3_readAsks 89 = .ok (.getfield 104, 3) := sdX3_readAsks_88.2.1
theorem dX3_readAsks_92 : decode cX3_readAsks 92 = .ok (.invokestatic 202, 3) := sdX3_readAsks_88.2.2.1
theorem dX3_readAsks_95 : decode cX3_readAsks 95 = .ok (.istore_n 3, 1) := sdX3_readAsks_88.2.2.2.1
theorem dX3_readAsks_96 : decode cX3_readAsks 96 = .ok (.iload_n 3, 1) := sdX3_readAsks_88.2.2.2.2.1
theorem dX3_readAsks_97 : decode cX3_readAsks 97 = .ok (.iconst (-1), 1) := sdX3_readAsks_88.2.2.2.2.2.1
theorem dX3_readAsks_98 : decode cX3_readAsks 98 = .ok (.if_icmp .eq 27, 3) := sdX3_readAsks_88.2.2.2.2.2.2.1
theorem dX3_readAsks_101 : decode cX3_readAsks 101 = .ok (.aload_n 0, 1) := sdX3_readAsks_88.2.2.2.2.2.2.2.1
theorem sdX3_readAsks_102 : dz_Seg cX3_readAsks [(102, .getfield 39, 3), (105, .iconst 0, 1), (106, .invokestatic 81, 3), (109, .iload_n 3, 1), (110, .if_icmp .eq 15, 3), (113, .aload_n 0, 1), (114, .getfield 39, 3), (117, .iconst 1, 1)] := dz_sg _ 102 (by decide +kernel)
theorem dX3_readAsks_102 : decode cX3_readAsks 102 = .ok (.getfield 39, 3) := sdX3_readAsks_102.1
theorem dX3_readAsks_105 : decode cX3_readAsks 105 = .ok (.iconst 0, 1) := sdX3_readAsks_102.2.1
theorem dX3_readAsks_106 : decode cX3_readAsks 106 = .ok (.invokestatic 81, 3) := sdX3_readAsks_102.2.2.1
theorem dX3_readAsks_109 : decode cX3_readAsks 109 = .ok (.iload_n 3, 1) := sdX3_readAsks_102.2.2.2.1
theorem dX3_readAsks_110 : decode cX3_readAsks 110 = .ok (.if_icmp .eq 15, 3) := sdX3_readAsks_102.2.2.2.2.1
theorem dX3_readAsks_113 : decode cX3_readAsks 113 = .ok (.aload_n 0, 1) := sdX3_readAsks_102.2.2.2.2.2.1
theorem dX3_readAsks_114 : decode cX3_readAsks 114 = .ok (.getfield 39, 3) := sdX3_readAsks_102.2.2.2.2.2.2.1
theorem dX3_readAsks_117 : decode cX3_readAsks 117 = .ok (.iconst 1, 1) := sdX3_readAsks_102.2.2.2.2.2.2.2.1
theorem sdX3_readAsks_118 : dz_Seg cX3_readAsks [(118, .invokestatic 81, 3), (121, .iload_n 3, 1), (122, .if_icmp .ne 9, 3), (125, .aload_n 0, 1), (126, .iconst 4, 1), (127, .invokevirtual 148, 3), (130, .ireturn, 1), (131, .aload_n 0, 1)] := dz_sg _ 118 (by decide +kernel)
theorem dX3_readAsks_118 : decode cX3_readAsks 118 = .ok (.invokestatic 81, 3) := sdX3_readAsks_118.1
theorem dX3_readAsks_121 : decode cX3_readAsks 121 = .ok (.iload_n 3, 1) := sdX3_readAsks_118.2.1
theorem dX3_readAsks_122 : decode cX3_readAsks 122 = .ok (.if_icmp .ne 9, 3) := sdX3_readAsks_118.2.2.1
theorem dX3_readAsks_125 : decode cX3_readAsks 125 = .ok (.aload_n 0, 1) := sdX3_readAsks_118.2.2.2.1
theorem dX3_readAsks_126 : decode cX3_readAsks 126 = .ok (.iconst 4, 1) := sdX3_readAsks_118.2.2.2.2.1
theorem dX3_readAsks_127 : decode cX3_readAsks 127 = .ok (.invokevirtual 148, 3) := sdX3_readAsks_118.2.2.2.2.2.1
theorem dX3_readAsks_130 : decode cX3_readAsks 130 = .ok (.ireturn, 1) := sdX3_readAsks_118.2.2.2.2.2.2.1
theorem dX3_readAsks_131 : decode cX3_readAsks 131 = .ok (.aload_n 0, 1) := sdX3_readAsks_118.2.2.2.2.2.2.2.1
theorem sdX3_readAsks_132 : dz_Seg cX3_readAsks [(132, .getfield 39, 3), (135, .iload_n 2, 1), (136, .iload_n 3, 1), (137, .invokestatic 219, 3), (140, .aload_n 0, 1), (141, .invokevirtual 71, 3), (144, .iinc 2 1, 3), (147, .goto (-101), 3)] := dz_sg _ 132 (by decide +kernel)
theorem dX3_readAsks_132 : decode cX3_readAsks 132 = .ok (.getfield 39, 3) := sdX3_readAsks_132.1
theorem dX3_readAsks_135 : decode cX3_readAsks 135 = .ok (.iload_n 2, 1) := sdX3_readAsks_132.2.1
theorem dX3_readAsks_136 : decode cX3_readAsks 136 = .ok (.iload_n 3, 1) := sdX3_readAsks_132.2.2.1
theorem dX3_readAsks_137 : decode cX3_readAsks 137 = .ok (.invokestatic 219, 3) := sdX3_readAsks_132.2.2.2.1
theorem dX3_readAsks_140 : decode cX3_readAsks 140 = .ok (.aload_n 0, 1) := sdX3_readAsks_132.2.2.2.2.1
theorem dX3_readAsks_141 : decode cX3_readAsks 141 = .ok (.invokevirtual 71, 3) := sdX3_readAsks_132.2.2.2.2.2.1
theorem dX3_readAsks_144 : decode cX3_readAsks 144 = .ok (.iinc 2 1, 3) := sdX3_readAsks_132.2.2.2.2.2.2.1
theorem dX3_readAsks_147 : decode cX3_readAsks 147 = .ok (.goto (-101), 3) := sdX3_readAsks_132.2.2.2.2.2.2.2.1
theorem sdX3_readAsks_150 : dz_Seg cX3_readAsks [(150, .aload_n 0, 1), (151, .invokevirtual 181, 3), (154, .ifCond .ne 5, 3), (157, .iconst 0, 1), (158, .ireturn, 1), (159, .aload_n 0, 1), (160, .getfield 12, 3), (163, .iload_n 1, 1)] := dz_sg _ 150 (by decide +kernel)
theorem dX3_readAsks_150 : decode cX3_readAsks 150 = .ok (.aload_n 0, 1) := sdX3_readAsks_150.1
theorem dX3_readAsks_151 : decode cX3_readAsks 151 = .ok (.invokevirtual 181, 3) := sdX3_readAsks_150.2.1
theorem dX3_readAsks_154 : decode cX3_readAsks 154 = .ok (.ifCond .ne 5, 3) := sdX3_readAsks_150.2.2.1
theorem dX3_readAsks_157 : decode cX3_readAsks 157 = .ok (.iconst 0, 1) := sdX3_readAsks_150.2.2.2.1
theorem dX3_readAsks_158 : decode cX3_readAsks 158 = .ok (.ireturn, 1) := sdX3_readAsks_150.2.2.2.2.1
theorem dX3_readAsks_159 : decode cX3_readAsks 159 = .ok (.aload_n 0, 1) := sdX3_readAsks_150.2.2.2.2.2.1
theorem dX3_readAsks_160 : decode cX3_readAsks 160 = .ok (.getfield 12, 3) := sdX3_readAsks_150.2.2.2.2.2.2.1
theorem dX3_readAsks_163 : decode cX3_readAsks 163 = .ok (.iload_n 1, 1) := sdX3_readAsks_150.2.2.2.2.2.2.2.1
theorem sdX3_readAsks_164 : dz_Seg cX3_readAsks [(164, .aload_n 0, 1), (165, .getfield 39, 3), (168, .iconst 0, 1), (169, .invokestatic 81, 3), (172, .aload_n 0, 1), (173, .getfield 39, 3), (176, .iconst 1, 1), (177, .invokestatic 81, 3)] := dz_sg _ 164 (by decide +kernel)
theorem dX3_readAsks_164 : decode cX3_readAsks 164 = .ok (.aload_n 0, 1) := sdX3_readAsks_164.1
theorem dX3_readAsks_165 : decode cX3_readAsks 165 = .ok (.getfield 39, 3) := sdX3_readAsks_164.2.1
theorem dX3_readAsks_168 : decode cX3_readAsks 168 = .ok (.iconst 0, 1) := sdX3_readAsks_164.2.2.1
theorem dX3_readAsks_169 : decode cX3_readAsks 169 = .ok (.invokestatic 81, 3) := sdX3_readAsks_164.2.2.2.1
theorem dX3_readAsks_172 : decode cX3_readAsks 172 = .ok (.aload_n 0, 1) := sdX3_readAsks_164.2.2.2.2.1
theorem dX3_readAsks_173 : decode cX3_readAsks 173 = .ok (.getfield 39, 3) := sdX3_readAsks_164.2.2.2.2.2.1
theorem dX3_readAsks_176 : decode cX3_readAsks 176 = .ok (.iconst 1, 1) := sdX3_readAsks_164.2.2.2.2.2.2.1
theorem dX3_readAsks_177 : decode cX3_readAsks 177 = .ok (.invokestatic 81, 3) := sdX3_readAsks_164.2.2.2.2.2.2.2.1
theorem sdX3_readAsks_180 : dz_Seg cX3_readAsks [(180, .aload_n 0, 1), (181, .getfield 39, 3), (184, .iconst 2, 1), (185, .invokestatic 81, 3), (188, .invokevirtual 223, 3), (191, .iconst 1, 1), (192, .ireturn, 1)] := dz_sg _ 180 (by decide +kernel)
theorem dX3_readAsks_180 : decode cX3_readAsks 180 = .ok (.aload_n 0, 1) := sdX3_readAsks_180.1
theorem dX3_readAsks_181 : decode cX3_readAsks 181 = .ok (.getfield 39, 3) := sdX3_readAsks_180.2.1
theorem dX3_readAsks_184 : decode cX3_readAsks 184 = .ok (.iconst 2, 1) := sdX3_readAsks_180.2.2.1
theorem dX3_readAsks_185 : decode cX3_readAsks 185 = .ok (.invokestatic 81, 3) := sdX3_readAsks_180.2.2.2.1
theorem dX3_readAsks_188 : decode cX3_readAsks 188 = .ok (.invokevirtual 223, 3) := sdX3_readAsks_180.2.2.2.2.1
theorem dX3_readAsks_191 : decode cX3_readAsks 191 = .ok (.iconst 1, 1) := sdX3_readAsks_180.2.2.2.2.2.1
theorem dX3_readAsks_192 : decode cX3_readAsks 192 = .ok (.ireturn, 1) := sdX3_readAsks_180.2.2.2.2.2.2.1
theorem sdX3_readLaw_0 : dz_Seg cX3_readLaw [(0, .aload_n 0, 1), (1, .invokevirtual 71, 3), (4, .aload_n 0, 1), (5, .ldc 227, 2), (7, .invokevirtual 124, 3), (10, .ifCond .eq 14, 3), (13, .aload_n 0, 1), (14, .getfield 12, 3)] := dz_sg _ 0 (by decide +kernel)
theorem dX3_readLaw_0 : decode cX3_readLaw 0 = .ok (.aload_n 0, 1) := sdX3_readLaw_0.1
theorem dX3_readLaw_1 : decode cX3_readLaw 1 = .ok (.invokevirtual 71, 3) := sdX3_readLaw_0.2.1
theorem dX3_readLaw_4 : decode cX3_readLaw 4 = .ok (.aload_n 0, 1) := sdX3_readLaw_0.2.2.1
theorem dX3_readLaw_5 : decode cX3_readLaw 5 = .ok (.ldc 227, 2) := sdX3_readLaw_0.2.2.2.1
theorem dX3_readLaw_7 : decode cX3_readLaw 7 = .ok (.invokevirtual 124, 3) := sdX3_readLaw_0.2.2.2.2.1
theorem dX3_readLaw_10 : decode cX3_readLaw 10 = .ok (.ifCond .eq 14, 3) := sdX3_readLaw_0.2.2.2.2.2.1
theorem dX3_readLaw_13 : decode cX3_readLaw 13 = .ok (.aload_n 0, 1) := sdX3_readLaw_0.2.2.2.2.2.2.1
theorem dX3_readLaw_14 : decode cX3_readLaw 14 = .ok (.getfield 12, 3) := sdX3_readLaw_0.2.2.2.2.2.2.2.1
theorem sdX3_readLaw_17 : dz_Seg cX3_readLaw [(17, .iconst 1, 1), (18, .putfield 229, 3), (21, .goto 38, 3), (24, .aload_n 0, 1), (25, .ldc 232, 2), (27, .invokevirtual 124, 3), (30, .ifCond .eq 14, 3), (33, .aload_n 0, 1)] := dz_sg _ 17 (by decide +kernel)
theorem dX3_readLaw_17 : decode cX3_readLaw 17 = .ok (.iconst 1, 1) := sdX3_readLaw_17.1
theorem dX3_readLaw_18 : decode cX3_readLaw 18 = .ok (.putfield 229, 3) := sdX3_readLaw_17.2.1
theorem dX3_readLaw_21 : decode cX3_readLaw 21 = .ok (.goto 38, 3) := sdX3_readLaw_17.2.2.1
theorem dX3_readLaw_24 : decode cX3_readLaw 24 = .ok (.aload_n 0, 1) := sdX3_readLaw_17.2.2.2.1
theorem dX3_readLaw_25 : decode cX3_readLaw 25 = .ok (.ldc 232, 2) := sdX3_readLaw_17.2.2.2.2.1
theorem dX3_readLaw_27 : decode cX3_readLaw 27 = .ok (.invokevirtual 124, 3) := sdX3_readLaw_17.2.2.2.2.2.1
theorem dX3_readLaw_30 : decode cX3_readLaw 30 = .ok (.ifCond .eq 14, 3) := sdX3_readLaw_17.2.2.2.2.2.2.1
theorem dX3_readLaw_33 : decode cX3_readLaw 33 = .ok (.aload_n 0, 1) := sdX3_readLaw_17.2.2.2.2.2.2.2.1
theorem sdX3_readLaw_34 : dz_Seg cX3_readLaw [(34, .getfield 12, 3), (37, .iconst 2, 1), (38, .putfield 229, 3), (41, .goto 18, 3), (44, .aload_n 0, 1), (45, .ldc 234, 2), (47, .invokevirtual 124, 3), (50, .ifCond .ne 9, 3)] := dz_sg _ 34 (by decide +kernel)
theorem dX3_readLaw_34 : decode cX3_readLaw 34 = .ok (.getfield 12, 3) := sdX3_readLaw_34.1
theorem dX3_readLaw_37 : decode cX3_readLaw 37 = .ok (.iconst 2, 1) := sdX3_readLaw_34.2.1
theorem dX3_readLaw_38 : decode cX3_readLaw 38 = .ok (.putfield 229, 3) := sdX3_readLaw_34.2.2.1
theorem dX3_readLaw_41 : decode cX3_readLaw 41 = .ok (.goto 18, 3) := sdX3_readLaw_34.2.2.2.1
theorem dX3_readLaw_44 : decode cX3_readLaw 44 = .ok (.aload_n 0, 1) := sdX3_readLaw_34.2.2.2.2.1
theorem dX3_readLaw_45 : decode cX3_readLaw 45 = .ok (.ldc 234, 2) := sdX3_readLaw_34.2.2.2.2.2.1
theorem dX3_readLaw_47 : decode cX3_readLaw 47 = .ok (.invokevirtual 124, 3) := sdX3_readLaw_34.2.2.2.2.2.2.1
theorem dX3_readLaw_50 : decode cX3_readLaw 50 = .ok (.ifCond .ne 9, 3) := sdX3_readLaw_34.2.2.2.2.2.2.2.1
theorem sdX3_readLaw_53 : dz_Seg cX3_readLaw [(53, .aload_n 0, 1), (54, .iconst 2, 1), (55, .invokevirtual 148, 3), (58, .ireturn, 1), (59, .aload_n 0, 1), (60, .iconst 1, 1), (61, .putfield 58, 3), (64, .aload_n 0, 1)] := dz_sg _ 53 (by decide +kernel)
theorem dX3_readLaw_53 : decode cX3_readLaw 53 = .ok (.aload_n 0, 1) := sdX3_readLaw_53.1
theorem dX3_readLaw_54 : decode cX3_readLaw 54 = .ok (.iconst 2, 1) := sdX3_readLaw_53.2.1
theorem dX3_readLaw_55 : decode cX3_readLaw 55 = .ok (.invokevirtual 148, 3) := sdX3_readLaw_53.2.2.1
theorem dX3_readLaw_58 : decode cX3_readLaw 58 = .ok (.ireturn, 1) := sdX3_readLaw_53.2.2.2.1
theorem dX3_readLaw_59 : decode cX3_readLaw 59 = .ok (.aload_n 0, 1) := sdX3_readLaw_53.2.2.2.2.1
theorem dX3_readLaw_60 : decode cX3_readLaw 60 = .ok (.iconst 1, 1) := sdX3_readLaw_53.2.2.2.2.2.1
theorem dX3_readLaw_61 : decode cX3_readLaw 61 = .ok (.putfield 58, 3) := sdX3_readLaw_53.2.2.2.2.2.2.1
theorem dX3_readLaw_64 : decode cX3_readLaw 64 = .ok (.aload_n 0, 1) := sdX3_readLaw_53.2.2.2.2.2.2.2.1
theorem sdX3_readLaw_65 : dz_Seg cX3_readLaw [(65, .invokevirtual 71, 3), (68, .aload_n 0, 1), (69, .invokevirtual 181, 3), (72, .ireturn, 1)] := dz_sg _ 65 (by decide +kernel)
theorem dX3_readLaw_65 : decode cX3_readLaw 65 = .ok (.invokevirtual 71, 3) := sdX3_readLaw_65.1
theorem dX3_readLaw_68 : decode cX3_readLaw 68 = .ok (.aload_n 0, 1) := sdX3_readLaw_65.2.1
theorem dX3_readLaw_69 : decode cX3_readLaw 69 = .ok (.invokevirtual 181, 3) := sdX3_readLaw_65.2.2.1
theorem dX3_readLaw_72 : decode cX3_readLaw 72 = .ok (.ireturn, 1) := sdX3_readLaw_65.2.2.2.1
theorem sdX3_readPrefer_0 : dz_Seg cX3_readPrefer [(0, .aload_n 0, 1), (1, .invokevirtual 71, 3), (4, .aload_n 0, 1), (5, .bipush 100, 2), (7, .invokevirtual 178, 3), (10, .ifCond .ne 5, 3), (13, .iconst 0, 1), (14, .ireturn, 1)] := dz_sg _ 0 (by decide +kernel)
theorem dX3_readPrefer_0 : decode cX3_readPrefer 0 = .ok (.aload_n 0, 1) := sdX3_readPrefer_0.1
theorem dX3_readPrefer_1 : decode cX3_readPrefer 1 = .ok (.invokevirtual 71, 3) := sdX3_readPrefer_0.2.1
theorem dX3_readPrefer_4 : decode cX3_readPrefer 4 = .ok (.aload_n 0, 1) := sdX3_readPrefer_0.2.2.1
theorem dX3_readPrefer_5 : decode cX3_readPrefer 5 = .ok (.bipush 100, 2) := sdX3_readPrefer_0.2.2.2.1
theorem dX3_readPrefer_7 : decode cX3_readPrefer 7 = .ok (.invokevirtual 178, 3) := sdX3_readPrefer_0.2.2.2.2.1
theorem dX3_readPrefer_10 : decode cX3_readPrefer 10 = .ok (.ifCond .ne 5, 3) := sdX3_readPrefer_0.2.2.2.2.2.1
theorem dX3_readPrefer_13 : decode cX3_readPrefer 13 = .ok (.iconst 0, 1) := sdX3_readPrefer_0.2.2.2.2.2.2.1
theorem dX3_readPrefer_14 : decode cX3_readPrefer 14 = .ok (.ireturn, 1) := sdX3_readPrefer_0.2.2.2.2.2.2.2.1
theorem sdX3_readPrefer_15 : dz_Seg cX3_readPrefer [(15, .aload_n 0, 1), (16, .iconst 1, 1), (17, .putfield 62, 3), (20, .aload_n 0, 1), (21, .getfield 12, 3), (24, .aload_n 0, 1), (25, .getfield 110, 3), (28, .putfield 236, 3)] := dz_sg _ 15 (by decide +kernel)
theorem dX3_readPrefer_15 : decode cX3_readPrefer 15 = .ok (.aload_n 0, 1) := sdX3_readPrefer_15.1
theorem dX3_readPrefer_16 : decode cX3_readPrefer 16 = .ok (.iconst 1, 1) := sdX3_readPrefer_15.2.1
theorem dX3_readPrefer_17 : decode cX3_readPrefer 17 = .ok (.putfield 62, 3) := sdX3_readPrefer_15.2.2.1
theorem dX3_readPrefer_20 : decode cX3_readPrefer 20 = .ok (.aload_n 0, 1) := sdX3_readPrefer_15.2.2.2.1
theorem dX3_readPrefer_21 : decode cX3_readPrefer 21 = .ok (.getfield 12, 3) := sdX3_readPrefer_15.2.2.2.2.1
theorem dX3_readPrefer_24 : decode cX3_readPrefer 24 = .ok (.aload_n 0, 1) := sdX3_readPrefer_15.2.2.2.2.2.1
theorem dX3_readPrefer_25 : decode cX3_readPrefer 25 = .ok (.getfield 110, 3) := sdX3_readPrefer_15.2.2.2.2.2.2.1
theorem dX3_readPrefer_28 : decode cX3_readPrefer 28 = .ok (.putfield 236, 3) := sdX3_readPrefer_15.2.2.2.2.2.2.2.1
theorem sdX3_readPrefer_31 : dz_Seg cX3_readPrefer [(31, .aload_n 0, 1), (32, .invokevirtual 181, 3), (35, .ireturn, 1)] := dz_sg _ 31 (by decide +kernel)
theorem dX3_readPrefer_31 : decode cX3_readPrefer 31 = .ok (.aload_n 0, 1) := sdX3_readPrefer_31.1
theorem dX3_readPrefer_32 : decode cX3_readPrefer 32 = .ok (.invokevirtual 181, 3) := sdX3_readPrefer_31.2.1
theorem dX3_readPrefer_35 : decode cX3_readPrefer 35 = .ok (.ireturn, 1) := sdX3_readPrefer_31.2.2.1
theorem sdX3_readGuests_0 : dz_Seg cX3_readGuests [(0, .aload_n 0, 1), (1, .invokevirtual 71, 3), (4, .aload_n 0, 1), (5, .bipush 100, 2), (7, .invokevirtual 178, 3), (10, .ifCond .ne 5, 3), (13, .iconst 0, 1), (14, .ireturn, 1)] := dz_sg _ 0 (by decide +kernel)
theorem dX3_readGuests_0 : decode cX3_readGuests 0 = .ok (.aload_n 0, 1) := sdX3_readGuests_0.1
theorem dX3_readGuests_1 : decode cX3_readGuests 1 = .ok (.invokevirtual 71, 3) := sdX3_readGuests_0.2.1
theorem dX3_readGuests_4 : decode cX3_readGuests 4 = .ok (.aload_n 0, 1) := sdX3_readGuests_0.2.2.1
theorem dX3_readGuests_5 : decode cX3_readGuests 5 = .ok (.bipush 100, 2) := sdX3_readGuests_0.2.2.2.1
theorem dX3_readGuests_7 : decode cX3_readGuests 7 = .ok (.invokevirtual 178, 3) := sdX3_readGuests_0.2.2.2.2.1
theorem dX3_readGuests_10 : decode cX3_readGuests 10 = .ok (.ifCond .ne 5, 3) := sdX3_readGuests_0.2.2.2.2.2.1
theorem dX3_readGuests_13 : decode cX3_readGuests 13 = .ok (.iconst 0, 1) := sdX3_readGuests_0.2.2.2.2.2.2.1
theorem dX3_readGuests_14 : decode cX3_readGuests 14 = .ok (.ireturn, 1) := sdX3_readGuests_0.2.2.2.2.2.2.2.1
theorem sdX3_readGuests_15 : dz_Seg cX3_readGuests [(15, .aload_n 0, 1), (16, .iconst 1, 1), (17, .putfield 65, 3), (20, .aload_n 0, 1), (21, .getfield 12, 3), (24, .aload_n 0, 1), (25, .getfield 110, 3), (28, .putfield 239, 3)] := dz_sg _ 15 (by decide +kernel)
theorem dX3_readGuests_15 : decode cX3_readGuests 15 = .ok (.aload_n 0, 1) := sdX3_readGuests_15.1
theorem dX3_readGuests_16 : decode cX3_readGuests 16 = .ok (.iconst 1, 1) := sdX3_readGuests_15.2.1
theorem dX3_readGuests_17 : decode cX3_readGuests 17 = .ok (.putfield 65, 3) := sdX3_readGuests_15.2.2.1
theorem dX3_readGuests_20 : decode cX3_readGuests 20 = .ok (.aload_n 0, 1) := sdX3_readGuests_15.2.2.2.1
theorem dX3_readGuests_21 : decode cX3_readGuests 21 = .ok (.getfield 12, 3) := sdX3_readGuests_15.2.2.2.2.1
theorem dX3_readGuests_24 : decode cX3_readGuests 24 = .ok (.aload_n 0, 1) := sdX3_readGuests_15.2.2.2.2.2.1
theorem dX3_readGuests_25 : decode cX3_readGuests 25 = .ok (.getfield 110, 3) := sdX3_readGuests_15.2.2.2.2.2.2.1
theorem dX3_readGuests_28 : decode cX3_readGuests 28 = .ok (.putfield 239, 3) := sdX3_readGuests_15.2.2.2.2.2.2.2.1
theorem sdX3_readGuests_31 : dz_Seg cX3_readGuests [(31, .aload_n 0, 1), (32, .invokevirtual 181, 3), (35, .ireturn, 1)] := dz_sg _ 31 (by decide +kernel)
theorem dX3_readGuests_31 : decode cX3_readGuests 31 = .ok (.aload_n 0, 1) := sdX3_readGuests_31.1
theorem dX3_readGuests_32 : decode cX3_readGuests 32 = .ok (.invokevirtual 181, 3) := sdX3_readGuests_31.2.1
theorem dX3_readGuests_35 : decode cX3_readGuests 35 = .ok (.ireturn, 1) := sdX3_readGuests_31.2.2.1
theorem sdX3_readNewName_0 : dz_Seg cX3_readNewName [(0, .aload_n 0, 1), (1, .invokevirtual 199, 3), (4, .ifCond .ne 9, 3), (7, .aload_n 0, 1), (8, .iconst 2, 1), (9, .invokevirtual 148, 3), (12, .ireturn, 1), (13, .aload_n 0, 1)] := dz_sg _ 0 (by decide +kernel)
theorem dX3_readNewName_0 : decode cX3_readNewName 0 = .ok (.aload_n 0, 1) := sdX3_readNewName_0.1
theorem dX3_readNewName_1 : decode cX3_readNewName 1 = .ok (.invokevirtual 199, 3) := sdX3_readNewName_0.2.1
theorem dX3_readNewName_4 : decode cX3_readNewName 4 = .ok (.ifCond .ne 9, 3) := sdX3_readNewName_0.2.2.1
theorem dX3_readNewName_7 : decode cX3_readNewName 7 = .ok (.aload_n 0, 1) := sdX3_readNewName_0.2.2.2.1
theorem dX3_readNewName_8 : decode cX3_readNewName 8 = .ok (.iconst 2, 1) := sdX3_readNewName_0.2.2.2.2.1
theorem dX3_readNewName_9 : decode cX3_readNewName 9 = .ok (.invokevirtual 148, 3) := sdX3_readNewName_0.2.2.2.2.2.1
theorem dX3_readNewName_12 : decode cX3_readNewName 12 = .ok (.ireturn, 1) := sdX3_readNewName_0.2.2.2.2.2.2.1
theorem dX3_readNewName_13 : decode cX3_readNewName 13 = .ok (.aload_n 0, 1) := sdX3_readNewName_0.2.2.2.2.2.2.2.1
theorem sdX3_readNewName_14 : dz_Seg cX3_readNewName [(14, .aload_n 0, 1), (15, .getfield 104, 3), (18, .invokevirtual 242, 3), (21, .ifCond .eq 9, 3), (24, .aload_n 0, 1), (25, .iconst 4, 1), (26, .invokevirtual 148, 3), (29, .ireturn, 1)] := dz_sg _ 14 (by decide +kernel)
theorem dX3_readNewName_14 : decode cX3_readNewName 14 = .ok (.aload_n 0, 1) := sdX3_readNewName_14.1
theorem dX3_readNewName_15 : decode cX3_readNewName 15 = .ok (.getfield 104, 3) := sdX3_readNewName_14.2.1
theorem dX3_readNewName_18 : decode cX3_readNewName 18 = .ok (.invokevirtual 242, 3) := sdX3_readNewName_14.2.2.1
theorem dX3_readNewName_21 : decode cX3_readNewName 21 = .ok (.ifCond .eq 9, 3) := sdX3_readNewName_14.2.2.2.1
theorem dX3_readNewName_24 : decode cX3_readNewName 24 = .ok (.aload_n 0, 1) := sdX3_readNewName_14.2.2.2.2.1
theorem dX3_readNewName_25 : decode cX3_readNewName 25 = .ok (.iconst 4, 1) := sdX3_readNewName_14.2.2.2.2.2.1
theorem dX3_readNewName_26 : decode cX3_readNewName 26 = .ok (.invokevirtual 148, 3) := sdX3_readNewName_14.2.2.2.2.2.2.1
theorem dX3_readNewName_29 : decode cX3_readNewName 29 = .ok (.ireturn, 1) := sdX3_readNewName_14.2.2.2.2.2.2.2.1
theorem sdX3_readNewName_30 : dz_Seg cX3_readNewName [(30, .aload_n 0, 1), (31, .aload_n 0, 1), (32, .getfield 104, 3), (35, .putfield 184, 3), (38, .aload_n 0, 1), (39, .invokevirtual 71, 3), (42, .iconst 1, 1), (43, .ireturn, 1)] := dz_sg _ 30 (by decide +kernel)
theorem dX3_readNewName_30 : decode cX3_readNewName 30 = .ok (.aload_n 0, 1) := sdX3_readNewName_30.1
theorem dX3_readNewName_31 : decode cX3_readNewName 31 = .ok (.aload_n 0, 1) := sdX3_readNewName_30.2.1
theorem dX3_readNewName_32 : decode cX3_readNewName 32 = .ok (.getfield 104, 3) := sdX3_readNewName_30.2.2.1
theorem dX3_readNewName_35 : decode cX3_readNewName 35 = .ok (.putfield 184, 3) := sdX3_readNewName_30.2.2.2.1
theorem dX3_readNewName_38 : decode cX3_readNewName 38 = .ok (.aload_n 0, 1) := sdX3_readNewName_30.2.2.2.2.1
theorem dX3_readNewName_39 : decode cX3_readNewName 39 = .ok (.invokevirtual 71, 3) := sdX3_readNewName_30.2.2.2.2.2.1
theorem dX3_readNewName_42 : decode cX3_readNewName 42 = .ok (.iconst 1, 1) := sdX3_readNewName_30.2.2.2.2.2.2.1
theorem dX3_readNewName_43 : decode cX3_readNewName 43 = .ok (.ireturn, 1) := sdX3_readNewName_30.2.2.2.2.2.2.2.1
theorem sdX3_numberUpTo_0 : dz_Seg cX3_numberUpTo [(0, .aload_n 0, 1), (1, .getfield 74, 3), (4, .iconst 2, 1), (5, .if_icmp .eq 9, 3), (8, .aload_n 0, 1), (9, .iconst 2, 1), (10, .invokevirtual 148, 3), (13, .ireturn, 1)] := dz_sg _ 0 (by decide +kernel)
theorem dX3_numberUpTo_0 : decode cX3_numberUpTo 0 = .ok (.aload_n 0, 1) := sdX3_numberUpTo_0.1
theorem dX3_numberUpTo_1 : decode cX3_numberUpTo 1 = .ok (.getfield 74, 3) := sdX3_numberUpTo_0.2.1
theorem dX3_numberUpTo_4 : decode cX3_numberUpTo 4 = .ok (.iconst 2, 1) := sdX3_numberUpTo_0.2.2.1
theorem dX3_numberUpTo_5 : decode cX3_numberUpTo 5 = .ok (.if_icmp .eq 9, 3) := sdX3_numberUpTo_0.2.2.2.1
theorem dX3_numberUpTo_8 : decode cX3_numberUpTo 8 = .ok (.aload_n 0, 1) := sdX3_numberUpTo_0.2.2.2.2.1
theorem dX3_numberUpTo_9 : decode cX3_numberUpTo 9 = .ok (.iconst 2, 1) := sdX3_numberUpTo_0.2.2.2.2.2.1
theorem dX3_numberUpTo_10 : decode cX3_numberUpTo 10 = .ok (.invokevirtual 148, 3) := sdX3_numberUpTo_0.2.2.2.2.2.2.1
theorem dX3_numberUpTo_13 : decode cX3_numberUpTo 13 = .ok (.ireturn, 1) := sdX3_numberUpTo_0.2.2.2.2.2.2.2.1
theorem sdX3_numberUpTo_14 : dz_Seg cX3_numberUpTo [(14, .aload_n 0, 1), (15, .getfield 110, 3), (18, .iload_n 1, 1), (19, .if_icmp .le 9, 3), (22, .aload_n 0, 1), (23, .iconst 3, 1), (24, .invokevirtual 148, 3), (27, .ireturn, 1)] := dz_sg _ 14 (by decide +kernel)
theorem dX3_numberUpTo_14 : decode cX3_numberUpTo 14 = .ok (.aload_n 0, 1) := sdX3_numberUpTo_14.1
theorem dX3_numberUpTo_15 : decode cX3_numberUpTo 15 = .ok (.getfield 110, 3) := sdX3_numberUpTo_14.2.1
theorem dX3_numberUpTo_18 : decode cX3_numberUpTo 18 = .ok (.iload_n 1, 1) := sdX3_numberUpTo_14.2.2.1
theorem dX3_numberUpTo_19 : decode cX3_numberUpTo 19 = .ok (.if_icmp .le 9, 3) := sdX3_numberUpTo_14.2.2.2.1
theorem dX3_numberUpTo_22 : decode cX3_numberUpTo 22 = .ok (.aload_n 0, 1) := sdX3_numberUpTo_14.2.2.2.2.1
theorem dX3_numberUpTo_23 : decode cX3_numberUpTo 23 = .ok (.iconst 3, 1) := sdX3_numberUpTo_14.2.2.2.2.2.1
theorem dX3_numberUpTo_24 : decode cX3_numberUpTo 24 = .ok (.invokevirtual 148, 3) := sdX3_numberUpTo_14.2.2.2.2.2.2.1
theorem dX3_numberUpTo_27 : decode cX3_numberUpTo 27 = .ok (.ireturn, 1) := sdX3_numberUpTo_14.2.2.2.2.2.2.2.1
theorem sdX3_numberUpTo_28 : dz_Seg cX3_numberUpTo [(28, .aload_n 0, 1), (29, .invokevirtual 71, 3), (32, .iconst 1, 1), (33, .ireturn, 1)] := dz_sg _ 28 (by decide +kernel)
theorem dX3_numberUpTo_28 : decode cX3_numberUpTo 28 = .ok (.aload_n 0, 1) := sdX3_numberUpTo_28.1
theorem dX3_numberUpTo_29 : decode cX3_numberUpTo 29 = .ok (.invokevirtual 71, 3) := sdX3_numberUpTo_28.2.1
theorem dX3_numberUpTo_32 : decode cX3_numberUpTo 32 = .ok (.iconst 1, 1) := sdX3_numberUpTo_28.2.2.1
theorem dX3_numberUpTo_33 : decode cX3_numberUpTo 33 = .ok (.ireturn, 1) := sdX3_numberUpTo_28.2.2.2.1
theorem sdX3_endOfLine_0 : dz_Seg cX3_endOfLine [(0, .aload_n 0, 1), (1, .getfield 74, 3), (4, .iconst 3, 1), (5, .if_icmp .eq 9, 3), (8, .aload_n 0, 1), (9, .iconst 2, 1), (10, .invokevirtual 148, 3), (13, .ireturn, 1)] := dz_sg _ 0 (by decide +kernel)
theorem dX3_endOfLine_0 : decode cX3_endOfLine 0 = .ok (.aload_n 0, 1) := sdX3_endOfLine_0.1
theorem dX3_endOfLine_1 : decode cX3_endOfLine 1 = .ok (.getfield 74, 3) := sdX3_endOfLine_0.2.1
theorem dX3_endOfLine_4 : decode cX3_endOfLine 4 = .ok (.iconst 3, 1) := sdX3_endOfLine_0.2.2.1
theorem dX3_endOfLine_5 : decode cX3_endOfLine 5 = .ok (.if_icmp .eq 9, 3) := sdX3_endOfLine_0.2.2.2.1
theorem dX3_endOfLine_8 : decode cX3_endOfLine 8 = .ok (.aload_n 0, 1) := sdX3_endOfLine_0.2.2.2.2.1
theorem dX3_endOfLine_9 : decode cX3_endOfLine 9 = .ok (.iconst 2, 1) := sdX3_endOfLine_0.2.2.2.2.2.1
theorem dX3_endOfLine_10 : decode cX3_endOfLine 10 = .ok (.invokevirtual 148, 3) := sdX3_endOfLine_0.2.2.2.2.2.2.1
theorem dX3_endOfLine_13 : decode cX3_endOfLine 13 = .ok (.ireturn, 1) := sdX3_endOfLine_0.2.2.2.2.2.2.2.1
theorem sdX3_endOfLine_14 : dz_Seg cX3_endOfLine [(14, .aload_n 0, 1), (15, .invokevirtual 71, 3), (18, .iconst 1, 1), (19, .ireturn, 1)] := dz_sg _ 14 (by decide +kernel)
theorem dX3_endOfLine_14 : decode cX3_endOfLine 14 = .ok (.aload_n 0, 1) := sdX3_endOfLine_14.1
theorem dX3_endOfLine_15 : decode cX3_endOfLine 15 = .ok (.invokevirtual 71, 3) := sdX3_endOfLine_14.2.1
theorem dX3_endOfLine_18 : decode cX3_endOfLine 18 = .ok (.iconst 1, 1) := sdX3_endOfLine_14.2.2.1
theorem dX3_endOfLine_19 : decode cX3_endOfLine 19 = .ok (.ireturn, 1) := sdX3_endOfLine_14.2.2.2.1
theorem sdX3_find_0 : dz_Seg cX3_find [(0, .iconst 0, 1), (1, .istore 4, 2), (3, .iload 4, 2), (5, .iload_n 1, 1), (6, .if_icmp .ge 23, 3), (9, .aload_n 0, 1), (10, .iload 4, 2), (12, .invokestatic 246, 3)] := dz_sg _ 0 (by decide +kernel)
theorem dX3_find_0 : decode cX3_find 0 = .ok (.iconst 0, 1) := sdX3_find_0.1
theorem dX3_find_1 : decode cX3_find 1 = .ok (.istore 4, 2) := sdX3_find_0.2.1
theorem dX3_find_3 : decode cX3_find 3 = .ok (.iload 4, 2) := sdX3_find_0.2.2.1
theorem dX3_find_5 : decode cX3_find 5 = .ok (.iload_n 1, 1) := sdX3_find_0.2.2.2.1
theorem dX3_find_6 : decode cX3_find 6 = .ok (.if_icmp .ge 23, 3) := sdX3_find_0.2.2.2.2.1
theorem dX3_find_9 : decode cX3_find 9 = .ok (.aload_n 0, 1) := sdX3_find_0.2.2.2.2.2.1
theorem dX3_find_10 : decode cX3_find 10 = .ok (.iload 4, 2) := sdX3_find_0.2.2.2.2.2.2.1
theorem dX3_find_12 : decode cX3_find 12 = .ok (.invokestatic 246, 3) := sdX3_find_0.2.2.2.2.2.2.2.1
theorem sdX3_find_15 : dz_Seg cX3_find [(15, .lload_n 2, 1), (16, .lcmp, 1), (17, .ifCond .ne 6, 3), (20, .iload 4, 2), (22, .ireturn, 1), (23, .iinc 4 1, 3), (26, .goto (-23), 3), (29, .iconst (-1), 1)] := dz_sg _ 15 (by decide +kernel)
theorem dX3_find_15 : decode cX3_find 15 = .ok (.lload_n 2, 1) := sdX3_find_15.1
theorem dX3_find_16 : decode cX3_find 16 = .ok (.lcmp, 1) := sdX3_find_15.2.1
theorem dX3_find_17 : decode cX3_find 17 = .ok (.ifCond .ne 6, 3) := sdX3_find_15.2.2.1
theorem dX3_find_20 : decode cX3_find 20 = .ok (.iload 4, 2) := sdX3_find_15.2.2.2.1
theorem dX3_find_22 : decode cX3_find 22 = .ok (.ireturn, 1) := sdX3_find_15.2.2.2.2.1
theorem dX3_find_23 : decode cX3_find 23 = .ok (.iinc 4 1, 3) := sdX3_find_15.2.2.2.2.2.1
theorem dX3_find_26 : decode cX3_find 26 = .ok (.goto (-23), 3) := sdX3_find_15.2.2.2.2.2.2.1
theorem dX3_find_29 : decode cX3_find 29 = .ok (.iconst (-1), 1) := sdX3_find_15.2.2.2.2.2.2.2.1
theorem sdX3_find_30 : dz_Seg cX3_find [(30, .ireturn, 1)] := dz_sg _ 30 (by decide +kernel)
theorem dX3_find_30 : decode cX3_find 30 = .ok (.ireturn, 1) := sdX3_find_30.1
theorem sdX3_isTaken_0 : dz_Seg cX3_isTaken [(0, .aload_n 0, 1), (1, .getfield 29, 3), (4, .aload_n 0, 1), (5, .getfield 12, 3), (8, .getfield 142, 3), (11, .lload_n 1, 1), (12, .invokestatic 202, 3), (15, .iconst (-1), 1)] := dz_sg _ 0 (by decide +kernel)
theorem dX3_isTaken_0 : decode cX3_isTaken 0 = .ok (.aload_n 0, 1) := sdX3_isTaken_0.1
theorem dX3_isTaken_1 : decode cX3_isTaken 1 = .ok (.getfield 29, 3) := sdX3_isTaken_0.2.1
theorem dX3_isTaken_4 : decode cX3_isTaken 4 = .ok (.aload_n 0, 1) := sdX3_isTaken_0.2.2.1
theorem dX3_isTaken_5 : decode cX3_isTaken 5 = .ok (.getfield 12, 3) := sdX3_isTaken_0.2.2.2.1
theorem dX3_isTaken_8 : decode cX3_isTaken 8 = .ok (.getfield 142, 3) := sdX3_isTaken_0.2.2.2.2.1
theorem dX3_isTaken_11 : decode cX3_isTaken 11 = .ok (.lload_n 1, 1) := sdX3_isTaken_0.2.2.2.2.2.1
theorem dX3_isTaken_12 : decode cX3_isTaken 12 = .ok (.invokestatic 202, 3) := sdX3_isTaken_0.2.2.2.2.2.2.1
theorem dX3_isTaken_15 : decode cX3_isTaken 15 = .ok (.iconst (-1), 1) := sdX3_isTaken_0.2.2.2.2.2.2.2.1
theorem sdX3_isTaken_16 : dz_Seg cX3_isTaken [(16, .if_icmp .ne 41, 3), (19, .aload_n 0, 1), (20, .getfield 33, 3), (23, .aload_n 0, 1), (24, .getfield 12, 3), (27, .getfield 151, 3), (30, .lload_n 1, 1), (31, .invokestatic 202, 3)] := dz_sg _ 16 (by decide +kernel)
theorem dX3_isTaken_16 : decode cX3_isTaken 16 = .ok (.if_icmp .ne 41, 3) := sdX3_isTaken_16.1
theorem dX3_isTaken_19 : decode cX3_isTaken 19 = .ok (.aload_n 0, 1) := sdX3_isTaken_16.2.1
theorem dX3_isTaken_20 : decode cX3_isTaken 20 = .ok (.getfield 33, 3) := sdX3_isTaken_16.2.2.1
theorem dX3_isTaken_23 : decode cX3_isTaken 23 = .ok (.aload_n 0, 1) := sdX3_isTaken_16.2.2.2.1
theorem dX3_isTaken_24 : decode cX3_isTaken 24 = .ok (.getfield 12, 3) := sdX3_isTaken_16.2.2.2.2.1
theorem dX3_isTaken_27 : decode cX3_isTaken 27 = .ok (.getfield 151, 3) := sdX3_isTaken_16.2.2.2.2.2.1
theorem dX3_isTaken_30 : decode cX3_isTaken 30 = .ok (.lload_n 1, 1) := sdX3_isTaken_16.2.2.2.2.2.2.1
theorem dX3_isTaken_31 : decode cX3_isTaken 31 = .ok (.invokestatic 202, 3) := sdX3_isTaken_16.2.2.2.2.2.2.2.1
theorem sdX3_isTaken_34 : dz_Seg cX3_isTaken [(34, .iconst (-1), 1), (35, .if_icmp .ne 22, 3), (38, .aload_n 0, 1), (39, .getfield 36, 3), (42, .aload_n 0, 1), (43, .getfield 12, 3), (46, .getfield 157, 3), (49, .lload_n 1, 1)] := dz_sg _ 34 (by decide +kernel)
theorem dX3_isTaken_34 : decode cX3_isTaken 34 = .ok (.iconst (-1), 1) := sdX3_isTaken_34.1
theorem dX3_isTaken_35 : decode cX3_isTaken 35 = .ok (.if_icmp .ne 22, 3) := sdX3_isTaken_34.2.1
theorem dX3_isTaken_38 : decode cX3_isTaken 38 = .ok (.aload_n 0, 1) := sdX3_isTaken_34.2.2.1
theorem dX3_isTaken_39 : decode cX3_isTaken 39 = .ok (.getfield 36, 3) := sdX3_isTaken_34.2.2.2.1
theorem dX3_isTaken_42 : decode cX3_isTaken 42 = .ok (.aload_n 0, 1) := sdX3_isTaken_34.2.2.2.2.1
theorem dX3_isTaken_43 : decode cX3_isTaken 43 = .ok (.getfield 12, 3) := sdX3_isTaken_34.2.2.2.2.2.1
theorem dX3_isTaken_46 : decode cX3_isTaken 46 = .ok (.getfield 157, 3) := sdX3_isTaken_34.2.2.2.2.2.2.1
theorem dX3_isTaken_49 : decode cX3_isTaken 49 = .ok (.lload_n 1, 1) := sdX3_isTaken_34.2.2.2.2.2.2.2.1
theorem sdX3_isTaken_50 : dz_Seg cX3_isTaken [(50, .invokestatic 202, 3), (53, .iconst (-1), 1), (54, .if_icmp .eq 7, 3), (57, .iconst 1, 1), (58, .goto 4, 3), (61, .iconst 0, 1), (62, .ireturn, 1)] := dz_sg _ 50 (by decide +kernel)
theorem dX3_isTaken_50 : decode cX3_isTaken 50 = .ok (.invokestatic 202, 3) := sdX3_isTaken_50.1
theorem dX3_isTaken_53 : decode cX3_isTaken 53 = .ok (.iconst (-1), 1) := sdX3_isTaken_50.2.1
theorem dX3_isTaken_54 : decode cX3_isTaken 54 = .ok (.if_icmp .eq 7, 3) := sdX3_isTaken_50.2.2.1
theorem dX3_isTaken_57 : decode cX3_isTaken 57 = .ok (.iconst 1, 1) := sdX3_isTaken_50.2.2.2.1
theorem dX3_isTaken_58 : decode cX3_isTaken 58 = .ok (.goto 4, 3) := sdX3_isTaken_50.2.2.2.2.1
theorem dX3_isTaken_61 : decode cX3_isTaken 61 = .ok (.iconst 0, 1) := sdX3_isTaken_50.2.2.2.2.2.1
theorem dX3_isTaken_62 : decode cX3_isTaken 62 = .ok (.ireturn, 1) := sdX3_isTaken_50.2.2.2.2.2.2.1
theorem sdX3_isFree_0 : dz_Seg cX3_isFree [(0, .iload_n 1, 1), (1, .iconst (-1), 1), (2, .if_icmp .eq 36, 3), (5, .aload_n 0, 1), (6, .getfield 12, 3), (9, .getfield 250, 3), (12, .iload_n 1, 1), (13, .invokestatic 81, 3)] := dz_sg _ 0 (by decide +kernel)
theorem dX3_isFree_0 : decode cX3_isFree 0 = .ok (.iload_n 1, 1) := sdX3_isFree_0.1
theorem dX3_isFree_1 : decode cX3_isFree 1 = .ok (.iconst (-1), 1) := sdX3_isFree_0.2.1
theorem dX3_isFree_2 : decode cX3_isFree 2 = .ok (.if_icmp .eq 36, 3) := sdX3_isFree_0.2.2.1
theorem dX3_isFree_5 : decode cX3_isFree 5 = .ok (.aload_n 0, 1) := sdX3_isFree_0.2.2.2.1
theorem dX3_isFree_6 : decode cX3_isFree 6 = .ok (.getfield 12, 3) := sdX3_isFree_0.2.2.2.2.1
theorem dX3_isFree_9 : decode cX3_isFree 9 = .ok (.getfield 250, 3) := sdX3_isFree_0.2.2.2.2.2.1
theorem dX3_isFree_12 : decode cX3_isFree 12 = .ok (.iload_n 1, 1) := sdX3_isFree_0.2.2.2.2.2.2.1
theorem dX3_isFree_13 : decode cX3_isFree 13 = .ok (.invokestatic 81, 3) := sdX3_isFree_0.2.2.2.2.2.2.2.1
theorem sdX3_isFree_16 : dz_Seg cX3_isFree [(16, .iconst (-1), 1), (17, .if_icmp .ne 21, 3), (20, .aload_n 0, 1), (21, .getfield 12, 3), (24, .getfield 252, 3), (27, .iload_n 1, 1), (28, .invokestatic 81, 3), (31, .ifCond .ne 7, 3)] := dz_sg _ 16 (by decide +kernel)
theorem dX3_isFree_16 : decode cX3_isFree 16 = .ok (.iconst (-1), 1) := sdX3_isFree_16.1
theorem dX3_isFree_17 : decode cX3_isFree 17 = .ok (.if_icmp .ne 21, 3) := sdX3_isFree_16.2.1
theorem dX3_isFree_20 : decode cX3_isFree 20 = .ok (.aload_n 0, 1) := sdX3_isFree_16.2.2.1
theorem dX3_isFree_21 : decode cX3_isFree 21 = .ok (.getfield 12, 3) := sdX3_isFree_16.2.2.2.1
theorem dX3_isFree_24 : decode cX3_isFree 24 = .ok (.getfield 252, 3) := sdX3_isFree_16.2.2.2.2.1
theorem dX3_isFree_27 : decode cX3_isFree 27 = .ok (.iload_n 1, 1) := sdX3_isFree_16.2.2.2.2.2.1
theorem dX3_isFree_28 : decode cX3_isFree 28 = .ok (.invokestatic 81, 3) := sdX3_isFree_16.2.2.2.2.2.2.1
theorem dX3_isFree_31 : decode cX3_isFree 31 = .ok (.ifCond .ne 7, 3) := sdX3_isFree_16.2.2.2.2.2.2.2.1
theorem sdX3_isFree_34 : dz_Seg cX3_isFree [(34, .iconst 1, 1), (35, .goto 4, 3), (38, .iconst 0, 1), (39, .ireturn, 1)] := dz_sg _ 34 (by decide +kernel)
theorem dX3_isFree_34 : decode cX3_isFree 34 = .ok (.iconst 1, 1) := sdX3_isFree_34.1
theorem dX3_isFree_35 : decode cX3_isFree 35 = .ok (.goto 4, 3) := sdX3_isFree_34.2.1
theorem dX3_isFree_38 : decode cX3_isFree 38 = .ok (.iconst 0, 1) := sdX3_isFree_34.2.2.1
theorem dX3_isFree_39 : decode cX3_isFree 39 = .ok (.ireturn, 1) := sdX3_isFree_34.2.2.2.1
theorem sdX3_asker_0 : dz_Seg cX3_asker [(0, .aload_n 0, 1), (1, .getfield 33, 3), (4, .aload_n 0, 1), (5, .getfield 12, 3), (8, .getfield 151, 3), (11, .aload_n 0, 1), (12, .getfield 104, 3), (15, .invokestatic 202, 3)] := dz_sg _ 0 (by decide +kernel)
theorem dX3_asker_0 : decode cX3_asker 0 = .ok (.aload_n 0, 1) := sdX3_asker_0.1
theorem dX3_asker_1 : decode cX3_asker 1 = .ok (.getfield 33, 3) := sdX3_asker_0.2.1
theorem dX3_asker_4 : decode cX3_asker 4 = .ok (.aload_n 0, 1) := sdX3_asker_0.2.2.1
theorem dX3_asker_5 : decode cX3_asker 5 = .ok (.getfield 12, 3) := sdX3_asker_0.2.2.2.1
theorem dX3_asker_8 : decode cX3_asker 8 = .ok (.getfield 151, 3) := sdX3_asker_0.2.2.2.2.1
theorem dX3_asker_11 : decode cX3_asker 11 = .ok (.aload_n 0, 1) := sdX3_asker_0.2.2.2.2.2.1
theorem dX3_asker_12 : decode cX3_asker 12 = .ok (.getfield 104, 3) := sdX3_asker_0.2.2.2.2.2.2.1
theorem dX3_asker_15 : decode cX3_asker 15 = .ok (.invokestatic 202, 3) := sdX3_asker_0.2.2.2.2.2.2.2.1
theorem sdX3_asker_18 : dz_Seg cX3_asker [(18, .istore_n 1, 1), (19, .aload_n 0, 1), (20, .iload_n 1, 1), (21, .invokevirtual 206, 3), (24, .ifCond .eq 7, 3), (27, .iconst 1, 1), (28, .iload_n 1, 1), (29, .ishl, 1)] := dz_sg _ 18 (by decide +kernel)
theorem dX3_asker_18 : decode cX3_asker 18 = .ok (.istore_n 1, 1) := sdX3_asker_18.1
theorem dX3_asker_19 : decode cX3_asker 19 = .ok (.aload_n 0, 1) := sdX3_asker_18.2.1
theorem dX3_asker_20 : decode cX3_asker 20 = .ok (.iload_n 1, 1) := sdX3_asker_18.2.2.1
theorem dX3_asker_21 : decode cX3_asker 21 = .ok (.invokevirtual 206, 3) := sdX3_asker_18.2.2.2.1
theorem dX3_asker_24 : decode cX3_asker 24 = .ok (.ifCond .eq 7, 3) := sdX3_asker_18.2.2.2.2.1
theorem dX3_asker_27 : decode cX3_asker 27 = .ok (.iconst 1, 1) := sdX3_asker_18.2.2.2.2.2.1
theorem dX3_asker_28 : decode cX3_asker 28 = .ok (.iload_n 1, 1) := sdX3_asker_18.2.2.2.2.2.2.1
theorem dX3_asker_29 : decode cX3_asker 29 = .ok (.ishl, 1) := sdX3_asker_18.2.2.2.2.2.2.2.1
theorem sdX3_asker_30 : dz_Seg cX3_asker [(30, .ireturn, 1), (31, .aload_n 0, 1), (32, .getfield 36, 3), (35, .aload_n 0, 1), (36, .getfield 12, 3), (39, .getfield 157, 3), (42, .aload_n 0, 1), (43, .getfield 104, 3)] := dz_sg _ 30 (by decide +kernel)
theorem dX3_asker_30 : decode cX3_asker 30 = .ok (.ireturn, 1) := sdX3_asker_30.1
theorem dX3_asker_31 : decode cX3_asker 31 = .ok (.aload_n 0, 1) := sdX3_asker_30.2.1
theorem dX3_asker_32 : decode cX3_asker 32 = .ok (.getfield 36, 3) := sdX3_asker_30.2.2.1
theorem dX3_asker_35 : decode cX3_asker 35 = .ok (.aload_n 0, 1) := sdX3_asker_30.2.2.2.1
theorem dX3_asker_36 : decode cX3_asker 36 = .ok (.getfield 12, 3) := sdX3_asker_30.2.2.2.2.1
theorem dX3_asker_39 : decode cX3_asker 39 = .ok (.getfield 157, 3) := sdX3_asker_30.2.2.2.2.2.1
theorem dX3_asker_42 : decode cX3_asker 42 = .ok (.aload_n 0, 1) := sdX3_asker_30.2.2.2.2.2.2.1
theorem dX3_asker_43 : decode cX3_asker 43 = .ok (.getfield 104, 3) := sdX3_asker_30.2.2.2.2.2.2.2.1
theorem sdX3_asker_46 : dz_Seg cX3_asker [(46, .invokestatic 202, 3), (49, .istore_n 2, 1), (50, .iconst 0, 1), (51, .istore_n 3, 1), (52, .iconst 0, 1), (53, .istore 4, 2), (55, .iload_n 2, 1), (56, .iconst (-1), 1)] := dz_sg _ 46 (by decide +kernel)
theorem dX3_asker_46 : decode cX3_asker 46 = .ok (.invokestatic 202, 3) := sdX3_asker_46.1
theorem dX3_asker_49 : decode cX3_asker 49 = .ok (.istore_n 2, 1) := sdX3_asker_46.2.1
theorem dX3_asker_50 : decode cX3_asker 50 = .ok (.iconst 0, 1) := sdX3_asker_46.2.2.1
theorem dX3_asker_51 : decode cX3_asker 51 = .ok (.istore_n 3, 1) := sdX3_asker_46.2.2.2.1
theorem dX3_asker_52 : decode cX3_asker 52 = .ok (.iconst 0, 1) := sdX3_asker_46.2.2.2.2.1
theorem dX3_asker_53 : decode cX3_asker 53 = .ok (.istore 4, 2) := sdX3_asker_46.2.2.2.2.2.1
theorem dX3_asker_55 : decode cX3_asker 55 = .ok (.iload_n 2, 1) := sdX3_asker_46.2.2.2.2.2.2.1
theorem dX3_asker_56 : decode cX3_asker 56 = .ok (.iconst (-1), 1) := sdX3_asker_46.2.2.2.2.2.2.2.1
theorem sdX3_asker_57 : dz_Seg cX3_asker [(57, .if_icmp .eq 59, 3), (60, .iload 4, 2), (62, .aload_n 0, 1), (63, .getfield 12, 3), (66, .getfield 151, 3), (69, .if_icmp .ge 47, 3), (72, .aload_n 0, 1), (73, .getfield 12, 3)] := dz_sg _ 57 (by decide +kernel)
theorem dX3_asker_57 : decode cX3_asker 57 = .ok (.if_icmp .eq 59, 3) := sdX3_asker_57.1
theorem dX3_asker_60 : decode cX3_asker 60 = .ok (.iload 4, 2) := sdX3_asker_57.2.1
theorem dX3_asker_62 : decode cX3_asker 62 = .ok (.aload_n 0, 1) := sdX3_asker_57.2.2.1
theorem dX3_asker_63 : decode cX3_asker 63 = .ok (.getfield 12, 3) := sdX3_asker_57.2.2.2.1
theorem dX3_asker_66 : decode cX3_asker 66 = .ok (.getfield 151, 3) := sdX3_asker_57.2.2.2.2.1
theorem dX3_asker_69 : decode cX3_asker 69 = .ok (.if_icmp .ge 47, 3) := sdX3_asker_57.2.2.2.2.2.1
theorem dX3_asker_72 : decode cX3_asker 72 = .ok (.aload_n 0, 1) := sdX3_asker_57.2.2.2.2.2.2.1
theorem dX3_asker_73 : decode cX3_asker 73 = .ok (.getfield 12, 3) := sdX3_asker_57.2.2.2.2.2.2.2.1
theorem sdX3_asker_76 : dz_Seg cX3_asker [(76, .getfield 250, 3), (79, .iload 4, 2), (81, .invokestatic 81, 3), (84, .iload_n 2, 1), (85, .if_icmp .ne 25, 3), (88, .aload_n 0, 1), (89, .getfield 12, 3), (92, .getfield 252, 3)] := dz_sg _ 76 (by decide +kernel)
theorem dX3_asker_76 : decode cX3_asker 76 = .ok (.getfield 250, 3) := sdX3_asker_76.1
theorem dX3_asker_79 : decode cX3_asker 79 = .ok (.iload 4, 2) := sdX3_asker_76.2.1
theorem dX3_asker_81 : decode cX3_asker 81 = .ok (.invokestatic 81, 3) := sdX3_asker_76.2.2.1
theorem dX3_asker_84 : decode cX3_asker 84 = .ok (.iload_n 2, 1) := sdX3_asker_76.2.2.2.1
theorem dX3_asker_85 : decode cX3_asker 85 = .ok (.if_icmp .ne 25, 3) := sdX3_asker_76.2.2.2.2.1
theorem dX3_asker_88 : decode cX3_asker 88 = .ok (.aload_n 0, 1) := sdX3_asker_76.2.2.2.2.2.1
theorem dX3_asker_89 : decode cX3_asker 89 = .ok (.getfield 12, 3) := sdX3_asker_76.2.2.2.2.2.2.1
theorem dX3_asker_92 : decode cX3_asker 92 = .ok (.getfield 252, 3) := sdX3_asker_76.2.2.2.2.2.2.2.1
theorem sdX3_asker_95 : dz_Seg cX3_asker [(95, .iload 4, 2), (97, .invokestatic 81, 3), (100, .ifCond .ne 10, 3), (103, .iload_n 3, 1), (104, .iconst 1, 1), (105, .iload 4, 2), (107, .ishl, 1), (108, .ior, 1)] := dz_sg _ 95 (by decide +kernel)
theorem dX3_asker_95 : decode cX3_asker 95 = .ok (.iload 4, 2) := sdX3_asker_95.1
theorem dX3_asker_97 : decode cX3_asker 97 = .ok (.invokestatic 81, 3) := sdX3_asker_95.2.1
theorem dX3_asker_100 : decode cX3_asker 100 = .ok (.ifCond .ne 10, 3) := sdX3_asker_95.2.2.1
theorem dX3_asker_103 : decode cX3_asker 103 = .ok (.iload_n 3, 1) := sdX3_asker_95.2.2.2.1
theorem dX3_asker_104 : decode cX3_asker 104 = .ok (.iconst 1, 1) := sdX3_asker_95.2.2.2.2.1
theorem dX3_asker_105 : decode cX3_asker 105 = .ok (.iload 4, 2) := sdX3_asker_95.2.2.2.2.2.1
theorem dX3_asker_107 : decode cX3_asker 107 = .ok (.ishl, 1) := sdX3_asker_95.2.2.2.2.2.2.1
theorem dX3_asker_108 : decode cX3_asker 108 = .ok (.ior, 1) := sdX3_asker_95.2.2.2.2.2.2.2.1
theorem sdX3_asker_109 : dz_Seg cX3_asker [(109, .istore_n 3, 1), (110, .iinc 4 1, 3), (113, .goto (-58), 3), (116, .iload_n 3, 1), (117, .ireturn, 1)] := dz_sg _ 109 (by decide +kernel)
theorem dX3_asker_109 : decode cX3_asker 109 = .ok (.istore_n 3, 1) := sdX3_asker_109.1
theorem dX3_asker_110 : decode cX3_asker 110 = .ok (.iinc 4 1, 3) := sdX3_asker_109.2.1
theorem dX3_asker_113 : decode cX3_asker 113 = .ok (.goto (-58), 3) := sdX3_asker_109.2.2.1
theorem dX3_asker_116 : decode cX3_asker 116 = .ok (.iload_n 3, 1) := sdX3_asker_109.2.2.2.1
theorem dX3_asker_117 : decode cX3_asker 117 = .ok (.ireturn, 1) := sdX3_asker_109.2.2.2.2.1
theorem sdX4_init_0 : dz_Seg cX4_init [(0, .aload_n 0, 1), (1, .invokespecial 3, 3), (4, .aload_n 0, 1), (5, .iconst 5, 1), (6, .newarray .int, 2), (8, .putfield 9, 3), (11, .aload_n 0, 1), (12, .bipush 10, 2)] := dz_sg _ 0 (by decide +kernel)
theorem dX4_init_0 : decode cX4_init 0 = .ok (.aload_n 0, 1) := sdX4_init_0.1
theorem dX4_init_1 : decode cX4_init 1 = .ok (.invokespecial 3, 3) := sdX4_init_0.2.1
theorem dX4_init_4 : decode cX4_init 4 = .ok (.aload_n 0, 1) := sdX4_init_0.2.2.1
theorem dX4_init_5 : decode cX4_init 5 = .ok (.iconst 5, 1) := sdX4_init_0.2.2.2.1
theorem dX4_init_6 : decode cX4_init 6 = .ok (.newarray .int, 2) := sdX4_init_0.2.2.2.2.1
theorem dX4_init_8 : decode cX4_init 8 = .ok (.putfield 9, 3) := sdX4_init_0.2.2.2.2.2.1
theorem dX4_init_11 : decode cX4_init 11 = .ok (.aload_n 0, 1) := sdX4_init_0.2.2.2.2.2.2.1
theorem dX4_init_12 : decode cX4_init 12 = .ok (.bipush 10, 2) := sdX4_init_0.2.2.2.2.2.2.2.1
theorem sdX4_init_14 : dz_Seg cX4_init [(14, .newarray .int, 2), (16, .putfield 15, 3), (19, .aload_n 0, 1), (20, .bipush 10, 2), (22, .newarray .int, 2), (24, .putfield 18, 3), (27, .aload_n 0, 1), (28, .bipush 10, 2)] := dz_sg _ 14 (by decide +kernel)
theorem dX4_init_14 : decode cX4_init 14 = .ok (.newarray .int, 2) := sdX4_init_14.1
theorem dX4_init_16 : decode cX4_init 16 = .ok (.putfield 15, 3) := sdX4_init_14.2.1
theorem dX4_init_19 : decode cX4_init 19 = .ok (.aload_n 0, 1) := sdX4_init_14.2.2.1
theorem dX4_init_20 : decode cX4_init 20 = .ok (.bipush 10, 2) := sdX4_init_14.2.2.2.1
theorem dX4_init_22 : decode cX4_init 22 = .ok (.newarray .int, 2) := sdX4_init_14.2.2.2.2.1
theorem dX4_init_24 : decode cX4_init 24 = .ok (.putfield 18, 3) := sdX4_init_14.2.2.2.2.2.1
theorem dX4_init_27 : decode cX4_init 27 = .ok (.aload_n 0, 1) := sdX4_init_14.2.2.2.2.2.2.1
theorem dX4_init_28 : decode cX4_init 28 = .ok (.bipush 10, 2) := sdX4_init_14.2.2.2.2.2.2.2.1
theorem sdX4_init_30 : dz_Seg cX4_init [(30, .newarray .int, 2), (32, .putfield 21, 3), (35, .aload_n 0, 1), (36, .bipush 10, 2), (38, .newarray .int, 2), (40, .putfield 24, 3), (43, .aload_n 0, 1), (44, .bipush 30, 2)] := dz_sg _ 30 (by decide +kernel)
theorem dX4_init_30 : decode cX4_init 30 = .ok (.newarray .int, 2) := sdX4_init_30.1
theorem dX4_init_32 : decode cX4_init 32 = .ok (.putfield 21, 3) := sdX4_init_30.2.1
theorem dX4_init_35 : decode cX4_init 35 = .ok (.aload_n 0, 1) := sdX4_init_30.2.2.1
theorem dX4_init_36 : decode cX4_init 36 = .ok (.bipush 10, 2) := sdX4_init_30.2.2.2.1
theorem dX4_init_38 : decode cX4_init 38 = .ok (.newarray .int, 2) := sdX4_init_30.2.2.2.2.1
theorem dX4_init_40 : decode cX4_init 40 = .ok (.putfield 24, 3) := sdX4_init_30.2.2.2.2.2.1
theorem dX4_init_43 : decode cX4_init 43 = .ok (.aload_n 0, 1) := sdX4_init_30.2.2.2.2.2.2.1
theorem dX4_init_44 : decode cX4_init 44 = .ok (.bipush 30, 2) := sdX4_init_30.2.2.2.2.2.2.2.1
theorem sdX4_init_46 : dz_Seg cX4_init [(46, .newarray .int, 2), (48, .putfield 27, 3), (51, .aload_n 0, 1), (52, .bipush 10, 2), (54, .newarray .int, 2), (56, .putfield 30, 3), (59, .return_, 1)] := dz_sg _ 46 (by decide +kernel)
theorem dX4_init_46 : decode cX4_init 46 = .ok (.newarray .int, 2) := sdX4_init_46.1
theorem dX4_init_48 : decode cX4_init 48 = .ok (.putfield 27, 3) := sdX4_init_46.2.1
theorem dX4_init_51 : decode cX4_init 51 = .ok (.aload_n 0, 1) := sdX4_init_46.2.2.1
theorem dX4_init_52 : decode cX4_init 52 = .ok (.bipush 10, 2) := sdX4_init_46.2.2.2.1
theorem dX4_init_54 : decode cX4_init 54 = .ok (.newarray .int, 2) := sdX4_init_46.2.2.2.2.1
theorem dX4_init_56 : decode cX4_init 56 = .ok (.putfield 30, 3) := sdX4_init_46.2.2.2.2.2.1
theorem dX4_init_59 : decode cX4_init 59 = .ok (.return_, 1) := sdX4_init_46.2.2.2.2.2.2.1
theorem sdX4_clear_0 : dz_Seg cX4_clear [(0, .aload_n 0, 1), (1, .iconst 0, 1), (2, .putfield 33, 3), (5, .aload_n 0, 1), (6, .iconst 0, 1), (7, .putfield 37, 3), (10, .aload_n 0, 1), (11, .iconst 0, 1)] := dz_sg _ 0 (by decide +kernel)
theorem dX4_clear_0 : decode cX4_clear 0 = .ok (.aload_n 0, 1) := sdX4_clear_0.1
theorem dX4_clear_1 : decode cX4_clear 1 = .ok (.iconst 0, 1) := sdX4_clear_0.2.1
theorem dX4_clear_2 : decode cX4_clear 2 = .ok (.putfield 33, 3) := sdX4_clear_0.2.2.1
theorem dX4_clear_5 : decode cX4_clear 5 = .ok (.aload_n 0, 1) := sdX4_clear_0.2.2.2.1
theorem dX4_clear_6 : decode cX4_clear 6 = .ok (.iconst 0, 1) := sdX4_clear_0.2.2.2.2.1
theorem dX4_clear_7 : decode cX4_clear 7 = .ok (.putfield 37, 3) := sdX4_clear_0.2.2.2.2.2.1
theorem dX4_clear_10 : decode cX4_clear 10 = .ok (.aload_n 0, 1) := sdX4_clear_0.2.2.2.2.2.2.1
theorem dX4_clear_11 : decode cX4_clear 11 = .ok (.iconst 0, 1) := sdX4_clear_0.2.2.2.2.2.2.2.1
theorem sdX4_clear_12 : dz_Seg cX4_clear [(12, .putfield 40, 3), (15, .aload_n 0, 1), (16, .iconst 0, 1), (17, .putfield 43, 3), (20, .aload_n 0, 1), (21, .iconst 0, 1), (22, .putfield 46, 3), (25, .aload_n 0, 1)] := dz_sg _ 12 (by decide +kernel)
theorem dX4_clear_12 : decode cX4_clear 12 = .ok (.putfield 40, 3) := sdX4_clear_12.1
theorem dX4_clear_15 : decode cX4_clear 15 = .ok (.aload_n 0, 1) := sdX4_clear_12.2.1
theorem dX4_clear_16 : decode cX4_clear 16 = .ok (.iconst 0, 1) := sdX4_clear_12.2.2.1
theorem dX4_clear_17 : decode cX4_clear 17 = .ok (.putfield 43, 3) := sdX4_clear_12.2.2.2.1
theorem dX4_clear_20 : decode cX4_clear 20 = .ok (.aload_n 0, 1) := sdX4_clear_12.2.2.2.2.1
theorem dX4_clear_21 : decode cX4_clear 21 = .ok (.iconst 0, 1) := sdX4_clear_12.2.2.2.2.2.1
theorem dX4_clear_22 : decode cX4_clear 22 = .ok (.putfield 46, 3) := sdX4_clear_12.2.2.2.2.2.2.1
theorem dX4_clear_25 : decode cX4_clear 25 = .ok (.aload_n 0, 1) := sdX4_clear_12.2.2.2.2.2.2.2.1
theorem sdX4_clear_26 : dz_Seg cX4_clear [(26, .bipush 100, 2), (28, .putfield 49, 3), (31, .aload_n 0, 1), (32, .iconst 0, 1), (33, .putfield 52, 3), (36, .aload_n 0, 1), (37, .getfield 9, 3), (40, .iconst 0, 1)] := dz_sg _ 26 (by decide +kernel)
theorem dX4_clear_26 : decode cX4_clear 26 = .ok (.bipush 100, 2) := sdX4_clear_26.1
theorem dX4_clear_28 : decode cX4_clear 28 = .ok (.putfield 49, 3) := sdX4_clear_26.2.1
theorem dX4_clear_31 : decode cX4_clear 31 = .ok (.aload_n 0, 1) := sdX4_clear_26.2.2.1
theorem dX4_clear_32 : decode cX4_clear 32 = .ok (.iconst 0, 1) := sdX4_clear_26.2.2.2.1
theorem dX4_clear_33 : decode cX4_clear 33 = .ok (.putfield 52, 3) := sdX4_clear_26.2.2.2.2.1
theorem dX4_clear_36 : decode cX4_clear 36 = .ok (.aload_n 0, 1) := sdX4_clear_26.2.2.2.2.2.1
theorem dX4_clear_37 : decode cX4_clear 37 = .ok (.getfield 9, 3) := sdX4_clear_26.2.2.2.2.2.2.1
theorem dX4_clear_40 : decode cX4_clear 40 = .ok (.iconst 0, 1) := sdX4_clear_26.2.2.2.2.2.2.2.1
theorem sdX4_clear_41 : dz_Seg cX4_clear [(41, .invokestatic 55, 3), (44, .aload_n 0, 1), (45, .getfield 15, 3), (48, .iconst 0, 1), (49, .invokestatic 55, 3), (52, .aload_n 0, 1), (53, .getfield 18, 3), (56, .iconst 0, 1)] := dz_sg _ 41 (by decide +kernel)
theorem dX4_clear_41 : decode cX4_clear 41 = .ok (.invokestatic 55, 3) := sdX4_clear_41.1
theorem dX4_clear_44 : decode cX4_clear 44 = .ok (.aload_n 0, 1) := sdX4_clear_41.2.1
theorem dX4_clear_45 : decode cX4_clear 45 = .ok (.getfield 15, 3) := sdX4_clear_41.2.2.1
theorem dX4_clear_48 : decode cX4_clear 48 = .ok (.iconst 0, 1) := sdX4_clear_41.2.2.2.1
theorem dX4_clear_49 : decode cX4_clear 49 = .ok (.invokestatic 55, 3) := sdX4_clear_41.2.2.2.2.1
theorem dX4_clear_52 : decode cX4_clear 52 = .ok (.aload_n 0, 1) := sdX4_clear_41.2.2.2.2.2.1
theorem dX4_clear_53 : decode cX4_clear 53 = .ok (.getfield 18, 3) := sdX4_clear_41.2.2.2.2.2.2.1
theorem dX4_clear_56 : decode cX4_clear 56 = .ok (.iconst 0, 1) := sdX4_clear_41.2.2.2.2.2.2.2.1
theorem sdX4_clear_57 : dz_Seg cX4_clear [(57, .invokestatic 55, 3), (60, .aload_n 0, 1), (61, .getfield 21, 3), (64, .iconst (-1), 1), (65, .invokestatic 55, 3), (68, .aload_n 0, 1), (69, .getfield 24, 3), (72, .iconst 0, 1)] := dz_sg _ 57 (by decide +kernel)
theorem dX4_clear_57 : decode cX4_clear 57 = .ok (.invokestatic 55, 3) := sdX4_clear_57.1
theorem dX4_clear_60 : decode cX4_clear 60 = .ok (.aload_n 0, 1) := sdX4_clear_57.2.1
theorem dX4_clear_61 : decode cX4_clear 61 = .ok (.getfield 21, 3) := sdX4_clear_57.2.2.1
theorem dX4_clear_64 : decode cX4_clear 64 = .ok (.iconst (-1), 1) := sdX4_clear_57.2.2.2.1
theorem dX4_clear_65 : decode cX4_clear 65 = .ok (.invokestatic 55, 3) := sdX4_clear_57.2.2.2.2.1
theorem dX4_clear_68 : decode cX4_clear 68 = .ok (.aload_n 0, 1) := sdX4_clear_57.2.2.2.2.2.1
theorem dX4_clear_69 : decode cX4_clear 69 = .ok (.getfield 24, 3) := sdX4_clear_57.2.2.2.2.2.2.1
theorem dX4_clear_72 : decode cX4_clear 72 = .ok (.iconst 0, 1) := sdX4_clear_57.2.2.2.2.2.2.2.1
theorem sdX4_clear_73 : dz_Seg cX4_clear [(73, .invokestatic 55, 3), (76, .aload_n 0, 1), (77, .getfield 27, 3), (80, .iconst (-1), 1), (81, .invokestatic 55, 3), (84, .aload_n 0, 1), (85, .getfield 30, 3), (88, .iconst (-1), 1)] := dz_sg _ 73 (by decide +kernel)
theorem dX4_clear_73 : decode cX4_clear 73 = .ok (.invokestatic 55, 3) := sdX4_clear_73.1
theorem dX4_clear_76 : decode cX4_clear 76 = .ok (.aload_n 0, 1) := sdX4_clear_73.2.1
theorem dX4_clear_77 : decode cX4_clear 77 = .ok (.getfield 27, 3) := sdX4_clear_73.2.2.1
theorem dX4_clear_80 : decode cX4_clear 80 = .ok (.iconst (-1), 1) := sdX4_clear_73.2.2.2.1
theorem dX4_clear_81 : decode cX4_clear 81 = .ok (.invokestatic 55, 3) := sdX4_clear_73.2.2.2.2.1
theorem dX4_clear_84 : decode cX4_clear 84 = .ok (.aload_n 0, 1) := sdX4_clear_73.2.2.2.2.2.1
theorem dX4_clear_85 : decode cX4_clear 85 = .ok (.getfield 30, 3) := sdX4_clear_73.2.2.2.2.2.2.1
theorem dX4_clear_88 : decode cX4_clear 88 = .ok (.iconst (-1), 1) := sdX4_clear_73.2.2.2.2.2.2.2.1
theorem sdX4_clear_89 : dz_Seg cX4_clear [(89, .invokestatic 55, 3), (92, .return_, 1)] := dz_sg _ 89 (by decide +kernel)
theorem dX4_clear_89 : decode cX4_clear 89 = .ok (.invokestatic 55, 3) := sdX4_clear_89.1
theorem dX4_clear_92 : decode cX4_clear 92 = .ok (.return_, 1) := sdX4_clear_89.2.1
theorem sdX4_take_0 : dz_Seg cX4_take [(0, .aload_n 0, 1), (1, .aload_n 1, 1), (2, .getfield 33, 3), (5, .putfield 33, 3), (8, .aload_n 0, 1), (9, .aload_n 1, 1), (10, .getfield 37, 3), (13, .putfield 37, 3)] := dz_sg _ 0 (by decide +kernel)
theorem dX4_take_0 : decode cX4_take 0 = .ok (.aload_n 0, 1) := sdX4_take_0.1
theorem dX4_take_1 : decode cX4_take 1 = .ok (.aload_n 1, 1) := sdX4_take_0.2.1
theorem dX4_take_2 : decode cX4_take 2 = .ok (.getfield 33, 3) := sdX4_take_0.2.2.1
theorem dX4_take_5 : decode cX4_take 5 = .ok (.putfield 33, 3) := sdX4_take_0.2.2.2.1
theorem dX4_take_8 : decode cX4_take 8 = .ok (.aload_n 0, 1) := sdX4_take_0.2.2.2.2.1
theorem dX4_take_9 : decode cX4_take 9 = .ok (.aload_n 1, 1) := sdX4_take_0.2.2.2.2.2.1
theorem dX4_take_10 : decode cX4_take 10 = .ok (.getfield 37, 3) := sdX4_take_0.2.2.2.2.2.2.1
theorem dX4_take_13 : decode cX4_take 13 = .ok (.putfield 37, 3) := sdX4_take_0.2.2.2.2.2.2.2.1
theorem sdX4_take_16 : dz_Seg cX4_take [(16, .aload_n 0, 1), (17, .aload_n 1, 1), (18, .getfield 40, 3), (21, .putfield 40, 3), (24, .aload_n 0, 1), (25, .aload_n 1, 1), (26, .getfield 43, 3), (29, .putfield 43, 3)] := dz_sg _ 16 (by decide +kernel)
theorem dX4_take_16 : decode cX4_take 16 = .ok (.aload_n 0, 1) := sdX4_take_16.1
theorem dX4_take_17 : decode cX4_take 17 = .ok (.aload_n 1, 1) := sdX4_take_16.2.1
theorem dX4_take_18 : decode cX4_take 18 = .ok (.getfield 40, 3) := sdX4_take_16.2.2.1
theorem dX4_take_21 : decode cX4_take 21 = .ok (.putfield 40, 3) := sdX4_take_16.2.2.2.1
theorem dX4_take_24 : decode cX4_take 24 = .ok (.aload_n 0, 1) := sdX4_take_16.2.2.2.2.1
theorem dX4_take_25 : decode cX4_take 25 = .ok (.aload_n 1, 1) := sdX4_take_16.2.2.2.2.2.1
theorem dX4_take_26 : decode cX4_take 26 = .ok (.getfield 43, 3) := sdX4_take_16.2.2.2.2.2.2.1
theorem dX4_take_29 : decode cX4_take 29 = .ok (.putfield 43, 3) := sdX4_take_16.2.2.2.2.2.2.2.1
theorem sdX4_take_32 : dz_Seg cX4_take [(32, .aload_n 0, 1), (33, .aload_n 1, 1), (34, .getfield 46, 3), (37, .putfield 46, 3), (40, .aload_n 0, 1), (41, .aload_n 1, 1), (42, .getfield 49, 3), (45, .putfield 49, 3)] := dz_sg _ 32 (by decide +kernel)
theorem dX4_take_32 : decode cX4_take 32 = .ok (.aload_n 0, 1) := sdX4_take_32.1
theorem dX4_take_33 : decode cX4_take 33 = .ok (.aload_n 1, 1) := sdX4_take_32.2.1
theorem dX4_take_34 : decode cX4_take 34 = .ok (.getfield 46, 3) := sdX4_take_32.2.2.1
theorem dX4_take_37 : decode cX4_take 37 = .ok (.putfield 46, 3) := sdX4_take_32.2.2.2.1
theorem dX4_take_40 : decode cX4_take 40 = .ok (.aload_n 0, 1) := sdX4_take_32.2.2.2.2.1
theorem dX4_take_41 : decode cX4_take 41 = .ok (.aload_n 1, 1) := sdX4_take_32.2.2.2.2.2.1
theorem dX4_take_42 : decode cX4_take 42 = .ok (.getfield 49, 3) := sdX4_take_32.2.2.2.2.2.2.1
theorem dX4_take_45 : decode cX4_take 45 = .ok (.putfield 49, 3) := sdX4_take_32.2.2.2.2.2.2.2.1
theorem sdX4_take_48 : dz_Seg cX4_take [(48, .aload_n 0, 1), (49, .aload_n 1, 1), (50, .getfield 52, 3), (53, .putfield 52, 3), (56, .aload_n 1, 1), (57, .getfield 9, 3), (60, .aload_n 0, 1), (61, .getfield 9, 3)] := dz_sg _ 48 (by decide +kernel)
theorem dX4_take_48 : decode cX4_take 48 = .ok (.aload_n 0, 1) := sdX4_take_48.1
theorem dX4_take_49 : decode cX4_take 49 = .ok (.aload_n 1, 1) := sdX4_take_48.2.1
theorem dX4_take_50 : decode cX4_take 50 = .ok (.getfield 52, 3) := sdX4_take_48.2.2.1
theorem dX4_take_53 : decode cX4_take 53 = .ok (.putfield 52, 3) := sdX4_take_48.2.2.2.1
theorem dX4_take_56 : decode cX4_take 56 = .ok (.aload_n 1, 1) := sdX4_take_48.2.2.2.2.1
theorem dX4_take_57 : decode cX4_take 57 = .ok (.getfield 9, 3) := sdX4_take_48.2.2.2.2.2.1
theorem dX4_take_60 : decode cX4_take 60 = .ok (.aload_n 0, 1) := sdX4_take_48.2.2.2.2.2.2.1
theorem dX4_take_61 : decode cX4_take 61 = .ok (.getfield 9, 3) := sdX4_take_48.2.2.2.2.2.2.2.1
theorem sdX4_take_64 : dz_Seg cX4_take [(64, .invokestatic 59, 3), (67, .aload_n 1, 1), (68, .getfield 15, 3), (71, .aload_n 0, 1), (72, .getfield 15, 3), (75, .invokestatic 59, 3), (78, .aload_n 1, 1), (79, .getfield 18, 3)] := dz_sg _ 64 (by decide +kernel)
theorem dX4_take_64 : decode cX4_take 64 = .ok (.invokestatic 59, 3) := sdX4_take_64.1
theorem dX4_take_67 : decode cX4_take 67 = .ok (.aload_n 1, 1) := sdX4_take_64.2.1
theorem dX4_take_68 : decode cX4_take 68 = .ok (.getfield 15, 3) := sdX4_take_64.2.2.1
theorem dX4_take_71 : decode cX4_take 71 = .ok (.aload_n 0, 1) := sdX4_take_64.2.2.2.1
theorem dX4_take_72 : decode cX4_take 72 = .ok (.getfield 15, 3) := sdX4_take_64.2.2.2.2.1
theorem dX4_take_75 : decode cX4_take 75 = .ok (.invokestatic 59, 3) := sdX4_take_64.2.2.2.2.2.1
theorem dX4_take_78 : decode cX4_take 78 = .ok (.aload_n 1, 1) := sdX4_take_64.2.2.2.2.2.2.1
theorem dX4_take_79 : decode cX4_take 79 = .ok (.getfield 18, 3) := sdX4_take_64.2.2.2.2.2.2.2.1
theorem sdX4_take_82 : dz_Seg cX4_take [(82, .aload_n 0, 1), (83, .getfield 18, 3), (86, .invokestatic 59, 3), (89, .aload_n 1, 1), (90, .getfield 21, 3), (93, .aload_n 0, 1), (94, .getfield 21, 3), (97, .invokestatic 59, 3)] := dz_sg _ 82 (by decide +kernel)
theorem dX4_take_82 : decode cX4_take 82 = .ok (.aload_n 0, 1) := sdX4_take_82.1
theorem dX4_take_83 : decode cX4_take 83 = .ok (.getfield 18, 3) := sdX4_take_82.2.1
theorem dX4_take_86 : decode cX4_take 86 = .ok (.invokestatic 59, 3) := sdX4_take_82.2.2.1
theorem dX4_take_89 : decode cX4_take 89 = .ok (.aload_n 1, 1) := sdX4_take_82.2.2.2.1
theorem dX4_take_90 : decode cX4_take 90 = .ok (.getfield 21, 3) := sdX4_take_82.2.2.2.2.1
theorem dX4_take_93 : decode cX4_take 93 = .ok (.aload_n 0, 1) := sdX4_take_82.2.2.2.2.2.1
theorem dX4_take_94 : decode cX4_take 94 = .ok (.getfield 21, 3) := sdX4_take_82.2.2.2.2.2.2.1
theorem dX4_take_97 : decode cX4_take 97 = .ok (.invokestatic 59, 3) := sdX4_take_82.2.2.2.2.2.2.2.1
theorem sdX4_take_100 : dz_Seg cX4_take [(100, .aload_n 1, 1), (101, .getfield 24, 3), (104, .aload_n 0, 1), (105, .getfield 24, 3), (108, .invokestatic 59, 3), (111, .aload_n 1, 1), (112, .getfield 27, 3), (115, .aload_n 0, 1)] := dz_sg _ 100 (by decide +kernel)
theorem dX4_take_100 : decode cX4_take 100 = .ok (.aload_n 1, 1) := sdX4_take_100.1
theorem dX4_take_101 : decode cX4_take 101 = .ok (.getfield 24, 3) := sdX4_take_100.2.1
theorem dX4_take_104 : decode cX4_take 104 = .ok (.aload_n 0, 1) := sdX4_take_100.2.2.1
theorem dX4_take_105 : decode cX4_take 105 = .ok (.getfield 24, 3) := sdX4_take_100.2.2.2.1
theorem dX4_take_108 : decode cX4_take 108 = .ok (.invokestatic 59, 3) := sdX4_take_100.2.2.2.2.1
theorem dX4_take_111 : decode cX4_take 111 = .ok (.aload_n 1, 1) := sdX4_take_100.2.2.2.2.2.1
theorem dX4_take_112 : decode cX4_take 112 = .ok (.getfield 27, 3) := sdX4_take_100.2.2.2.2.2.2.1
theorem dX4_take_115 : decode cX4_take 115 = .ok (.aload_n 0, 1) := sdX4_take_100.2.2.2.2.2.2.2.1
theorem sdX4_take_116 : dz_Seg cX4_take [(116, .getfield 27, 3), (119, .invokestatic 59, 3), (122, .aload_n 1, 1), (123, .getfield 30, 3), (126, .aload_n 0, 1), (127, .getfield 30, 3), (130, .invokestatic 59, 3), (133, .return_, 1)] := dz_sg _ 116 (by decide +kernel)
theorem dX4_take_116 : decode cX4_take 116 = .ok (.getfield 27, 3) := sdX4_take_116.1
theorem dX4_take_119 : decode cX4_take 119 = .ok (.invokestatic 59, 3) := sdX4_take_116.2.1
theorem dX4_take_122 : decode cX4_take 122 = .ok (.aload_n 1, 1) := sdX4_take_116.2.2.1
theorem dX4_take_123 : decode cX4_take 123 = .ok (.getfield 30, 3) := sdX4_take_116.2.2.2.1
theorem dX4_take_126 : decode cX4_take 126 = .ok (.aload_n 0, 1) := sdX4_take_116.2.2.2.2.1
theorem dX4_take_127 : decode cX4_take 127 = .ok (.getfield 30, 3) := sdX4_take_116.2.2.2.2.2.1
theorem dX4_take_130 : decode cX4_take 130 = .ok (.invokestatic 59, 3) := sdX4_take_116.2.2.2.2.2.2.1
theorem dX4_take_133 : decode cX4_take 133 = .ok (.return_, 1) := sdX4_take_116.2.2.2.2.2.2.2.1
theorem sdX4_addUnit_0 : dz_Seg cX4_addUnit [(0, .aload_n 0, 1), (1, .getfield 9, 3), (4, .aload_n 0, 1), (5, .getfield 33, 3), (8, .iload_n 1, 1), (9, .invokestatic 63, 3), (12, .aload_n 0, 1), (13, .dup, 1)] := dz_sg _ 0 (by decide +kernel)
theorem dX4_addUnit_0 : decode cX4_addUnit 0 = .ok (.aload_n 0, 1) := sdX4_addUnit_0.1
theorem dX4_addUnit_1 : decode cX4_addUnit 1 = .ok (.getfield 9, 3) := sdX4_addUnit_0.2.1
theorem dX4_addUnit_4 : decode cX4_addUnit 4 = .ok (.aload_n 0, 1) := sdX4_addUnit_0.2.2.1
theorem dX4_addUnit_5 : decode cX4_addUnit 5 = .ok (.getfield 33, 3) := sdX4_addUnit_0.2.2.2.1
theorem dX4_addUnit_8 : decode cX4_addUnit 8 = .ok (.iload_n 1, 1) := sdX4_addUnit_0.2.2.2.2.1
theorem dX4_addUnit_9 : decode cX4_addUnit 9 = .ok (.invokestatic 63, 3) := sdX4_addUnit_0.2.2.2.2.2.1
theorem dX4_addUnit_12 : decode cX4_addUnit 12 = .ok (.aload_n 0, 1) := sdX4_addUnit_0.2.2.2.2.2.2.1
theorem dX4_addUnit_13 : decode cX4_addUnit 13 = .ok (.dup, 1) := sdX4_addUnit_0.2.2.2.2.2.2.2.1
theorem sdX4_addUnit_14 : dz_Seg cX4_addUnit [(14, .getfield 33, 3), (17, .iconst 1, 1), (18, .iadd, 1), (19, .putfield 33, 3), (22, .return_, 1)] := dz_sg _ 14 (by decide +kernel)
theorem dX4_addUnit_14 : decode cX4_addUnit 14 = .ok (.getfield 33, 3) := sdX4_addUnit_14.1
theorem dX4_addUnit_17 : decode cX4_addUnit 17 = .ok (.iconst 1, 1) := sdX4_addUnit_14.2.1
theorem dX4_addUnit_18 : decode cX4_addUnit 18 = .ok (.iadd, 1) := sdX4_addUnit_14.2.2.1
theorem dX4_addUnit_19 : decode cX4_addUnit 19 = .ok (.putfield 33, 3) := sdX4_addUnit_14.2.2.2.1
theorem dX4_addUnit_22 : decode cX4_addUnit 22 = .ok (.return_, 1) := sdX4_addUnit_14.2.2.2.2.1
theorem sdX4_addHunter_0 : dz_Seg cX4_addHunter [(0, .aload_n 0, 1), (1, .getfield 15, 3), (4, .aload_n 0, 1), (5, .getfield 37, 3), (8, .iload_n 1, 1), (9, .invokestatic 63, 3), (12, .aload_n 0, 1), (13, .getfield 18, 3)] := dz_sg _ 0 (by decide +kernel)
theorem dX4_addHunter_0 : decode cX4_addHunter 0 = .ok (.aload_n 0, 1) := sdX4_addHunter_0.1
theorem dX4_addHunter_1 : decode cX4_addHunter 1 = .ok (.getfield 15, 3) := sdX4_addHunter_0.2.1
theorem dX4_addHunter_4 : decode cX4_addHunter 4 = .ok (.aload_n 0, 1) := sdX4_addHunter_0.2.2.1
theorem dX4_addHunter_5 : decode cX4_addHunter 5 = .ok (.getfield 37, 3) := sdX4_addHunter_0.2.2.2.1
theorem dX4_addHunter_8 : decode cX4_addHunter 8 = .ok (.iload_n 1, 1) := sdX4_addHunter_0.2.2.2.2.1
theorem dX4_addHunter_9 : decode cX4_addHunter 9 = .ok (.invokestatic 63, 3) := sdX4_addHunter_0.2.2.2.2.2.1
theorem dX4_addHunter_12 : decode cX4_addHunter 12 = .ok (.aload_n 0, 1) := sdX4_addHunter_0.2.2.2.2.2.2.1
theorem dX4_addHunter_13 : decode cX4_addHunter 13 = .ok (.getfield 18, 3) := sdX4_addHunter_0.2.2.2.2.2.2.2.1
theorem sdX4_addHunter_16 : dz_Seg cX4_addHunter [(16, .aload_n 0, 1), (17, .getfield 37, 3), (20, .iload_n 2, 1), (21, .ifCond .eq 7, 3), (24, .iconst 1, 1), (25, .goto 4, 3), (28, .iconst 0, 1), (29, .invokestatic 63, 3)] := dz_sg _ 16 (by decide +kernel)
theorem dX4_addHunter_16 : decode cX4_addHunter 16 = .ok (.aload_n 0, 1) := sdX4_addHunter_16.1
theorem dX4_addHunter_17 : decode cX4_addHunter 17 = .ok (.getfield 37, 3) := sdX4_addHunter_16.2.1
theorem dX4_addHunter_20 : decode cX4_addHunter 20 = .ok (.iload_n 2, 1) := sdX4_addHunter_16.2.2.1
theorem dX4_addHunter_21 : decode cX4_addHunter 21 = .ok (.ifCond .eq 7, 3) := sdX4_addHunter_16.2.2.2.1
theorem dX4_addHunter_24 : decode cX4_addHunter 24 = .ok (.iconst 1, 1) := sdX4_addHunter_16.2.2.2.2.1
theorem dX4_addHunter_25 : decode cX4_addHunter 25 = .ok (.goto 4, 3) := sdX4_addHunter_16.2.2.2.2.2.1
theorem dX4_addHunter_28 : decode cX4_addHunter 28 = .ok (.iconst 0, 1) := sdX4_addHunter_16.2.2.2.2.2.2.1
theorem dX4_addHunter_29 : decode cX4_addHunter 29 = .ok (.invokestatic 63, 3) := sdX4_addHunter_16.2.2.2.2.2.2.2.1
theorem sdX4_addHunter_32 : dz_Seg cX4_addHunter [(32, .aload_n 0, 1), (33, .dup, 1), (34, .getfield 37, 3), (37, .iconst 1, 1), (38, .iadd, 1), (39, .putfield 37, 3), (42, .return_, 1)] := dz_sg _ 32 (by decide +kernel)
theorem dX4_addHunter_32 : decode cX4_addHunter 32 = .ok (.aload_n 0, 1) := sdX4_addHunter_32.1
theorem dX4_addHunter_33 : decode cX4_addHunter 33 = .ok (.dup, 1) := sdX4_addHunter_32.2.1
theorem dX4_addHunter_34 : decode cX4_addHunter 34 = .ok (.getfield 37, 3) := sdX4_addHunter_32.2.2.1
theorem dX4_addHunter_37 : decode cX4_addHunter 37 = .ok (.iconst 1, 1) := sdX4_addHunter_32.2.2.2.1
theorem dX4_addHunter_38 : decode cX4_addHunter 38 = .ok (.iadd, 1) := sdX4_addHunter_32.2.2.2.2.1
theorem dX4_addHunter_39 : decode cX4_addHunter 39 = .ok (.putfield 37, 3) := sdX4_addHunter_32.2.2.2.2.2.1
theorem dX4_addHunter_42 : decode cX4_addHunter 42 = .ok (.return_, 1) := sdX4_addHunter_32.2.2.2.2.2.2.1
theorem sdX4_addParty_0 : dz_Seg cX4_addParty [(0, .iconst 0, 1), (1, .istore_n 2, 1), (2, .iload_n 2, 1), (3, .aload_n 0, 1), (4, .getfield 37, 3), (7, .if_icmp .ge 30, 3), (10, .iload_n 1, 1), (11, .iload_n 2, 1)] := dz_sg _ 0 (by decide +kernel)
theorem dX4_addParty_0 : decode cX4_addParty 0 = .ok (.iconst 0, 1) := sdX4_addParty_0.1
theorem dX4_addParty_1 : decode cX4_addParty 1 = .ok (.istore_n 2, 1) := sdX4_addParty_0.2.1
theorem dX4_addParty_2 : decode cX4_addParty 2 = .ok (.iload_n 2, 1) := sdX4_addParty_0.2.2.1
theorem dX4_addParty_3 : decode cX4_addParty 3 = .ok (.aload_n 0, 1) := sdX4_addParty_0.2.2.2.1
theorem dX4_addParty_4 : decode cX4_addParty 4 = .ok (.getfield 37, 3) := sdX4_addParty_0.2.2.2.2.1
theorem dX4_addParty_7 : decode cX4_addParty 7 = .ok (.if_icmp .ge 30, 3) := sdX4_addParty_0.2.2.2.2.2.1
theorem dX4_addParty_10 : decode cX4_addParty 10 = .ok (.iload_n 1, 1) := sdX4_addParty_0.2.2.2.2.2.2.1
theorem dX4_addParty_11 : decode cX4_addParty 11 = .ok (.iload_n 2, 1) := sdX4_addParty_0.2.2.2.2.2.2.2.1
theorem sdX4_addParty_12 : dz_Seg cX4_addParty [(12, .ishr, 1), (13, .iconst 1, 1), (14, .iand, 1), (15, .iconst 1, 1), (16, .if_icmp .ne 15, 3), (19, .aload_n 0, 1), (20, .getfield 21, 3), (23, .iload_n 2, 1)] := dz_sg _ 12 (by decide +kernel)
theorem dX4_addParty_12 : decode cX4_addParty 12 = .ok (.ishr, 1) := sdX4_addParty_12.1
theorem dX4_addParty_13 : decode cX4_addParty 13 = .ok (.iconst 1, 1) := sdX4_addParty_12.2.1
theorem dX4_addParty_14 : decode cX4_addParty 14 = .ok (.iand, 1) := sdX4_addParty_12.2.2.1
theorem dX4_addParty_15 : decode cX4_addParty 15 = .ok (.iconst 1, 1) := sdX4_addParty_12.2.2.2.1
theorem dX4_addParty_16 : decode cX4_addParty 16 = .ok (.if_icmp .ne 15, 3) := sdX4_addParty_12.2.2.2.2.1
theorem dX4_addParty_19 : decode cX4_addParty 19 = .ok (.aload_n 0, 1) := sdX4_addParty_12.2.2.2.2.2.1
theorem dX4_addParty_20 : decode cX4_addParty 20 = .ok (.getfield 21, 3) := sdX4_addParty_12.2.2.2.2.2.2.1
theorem dX4_addParty_23 : decode cX4_addParty 23 = .ok (.iload_n 2, 1) := sdX4_addParty_12.2.2.2.2.2.2.2.1
theorem sdX4_addParty_24 : dz_Seg cX4_addParty [(24, .aload_n 0, 1), (25, .getfield 40, 3), (28, .invokestatic 63, 3), (31, .iinc 2 1, 3), (34, .goto (-32), 3), (37, .aload_n 0, 1), (38, .dup, 1), (39, .getfield 40, 3)] := dz_sg _ 24 (by decide +kernel)
theorem dX4_addParty_24 : decode cX4_addParty 24 = .ok (.aload_n 0, 1) := sdX4_addParty_24.1
theorem dX4_addParty_25 : decode cX4_addParty 25 = .ok (.getfield 40, 3) := sdX4_addParty_24.2.1
theorem dX4_addParty_28 : decode cX4_addParty 28 = .ok (.invokestatic 63, 3) := sdX4_addParty_24.2.2.1
theorem dX4_addParty_31 : decode cX4_addParty 31 = .ok (.iinc 2 1, 3) := sdX4_addParty_24.2.2.2.1
theorem dX4_addParty_34 : decode cX4_addParty 34 = .ok (.goto (-32), 3) := sdX4_addParty_24.2.2.2.2.1
theorem dX4_addParty_37 : decode cX4_addParty 37 = .ok (.aload_n 0, 1) := sdX4_addParty_24.2.2.2.2.2.1
theorem dX4_addParty_38 : decode cX4_addParty 38 = .ok (.dup, 1) := sdX4_addParty_24.2.2.2.2.2.2.1
theorem dX4_addParty_39 : decode cX4_addParty 39 = .ok (.getfield 40, 3) := sdX4_addParty_24.2.2.2.2.2.2.2.1
theorem sdX4_addParty_42 : dz_Seg cX4_addParty [(42, .iconst 1, 1), (43, .iadd, 1), (44, .putfield 40, 3), (47, .return_, 1)] := dz_sg _ 42 (by decide +kernel)
theorem dX4_addParty_42 : decode cX4_addParty 42 = .ok (.iconst 1, 1) := sdX4_addParty_42.1
theorem dX4_addParty_43 : decode cX4_addParty 43 = .ok (.iadd, 1) := sdX4_addParty_42.2.1
theorem dX4_addParty_44 : decode cX4_addParty 44 = .ok (.putfield 40, 3) := sdX4_addParty_42.2.2.1
theorem dX4_addParty_47 : decode cX4_addParty 47 = .ok (.return_, 1) := sdX4_addParty_42.2.2.2.1
theorem sdX4_wishFor_0 : dz_Seg cX4_wishFor [(0, .iload_n 2, 1), (1, .iconst (-1), 1), (2, .if_icmp .ne 7, 3), (5, .iconst 0, 1), (6, .goto 4, 3), (9, .iconst 1, 1), (10, .iload_n 3, 1), (11, .iconst (-1), 1)] := dz_sg _ 0 (by decide +kernel)
theorem dX4_wishFor_0 : decode cX4_wishFor 0 = .ok (.iload_n 2, 1) := sdX4_wishFor_0.1
theorem dX4_wishFor_1 : decode cX4_wishFor 1 = .ok (.iconst (-1), 1) := sdX4_wishFor_0.2.1
theorem dX4_wishFor_2 : decode cX4_wishFor 2 = .ok (.if_icmp .ne 7, 3) := sdX4_wishFor_0.2.2.1
theorem dX4_wishFor_5 : decode cX4_wishFor 5 = .ok (.iconst 0, 1) := sdX4_wishFor_0.2.2.2.1
theorem dX4_wishFor_6 : decode cX4_wishFor 6 = .ok (.goto 4, 3) := sdX4_wishFor_0.2.2.2.2.1
theorem dX4_wishFor_9 : decode cX4_wishFor 9 = .ok (.iconst 1, 1) := sdX4_wishFor_0.2.2.2.2.2.1
theorem dX4_wishFor_10 : decode cX4_wishFor 10 = .ok (.iload_n 3, 1) := sdX4_wishFor_0.2.2.2.2.2.2.1
theorem dX4_wishFor_11 : decode cX4_wishFor 11 = .ok (.iconst (-1), 1) := sdX4_wishFor_0.2.2.2.2.2.2.2.1
theorem sdX4_wishFor_12 : dz_Seg cX4_wishFor [(12, .if_icmp .ne 7, 3), (15, .iconst 0, 1), (16, .goto 4, 3), (19, .iconst 1, 1), (20, .iadd, 1), (21, .iload 4, 2), (23, .iconst (-1), 1), (24, .if_icmp .ne 7, 3)] := dz_sg _ 12 (by decide +kernel)
theorem dX4_wishFor_12 : decode cX4_wishFor 12 = .ok (.if_icmp .ne 7, 3) := sdX4_wishFor_12.1
theorem dX4_wishFor_15 : decode cX4_wishFor 15 = .ok (.iconst 0, 1) := sdX4_wishFor_12.2.1
theorem dX4_wishFor_16 : decode cX4_wishFor 16 = .ok (.goto 4, 3) := sdX4_wishFor_12.2.2.1
theorem dX4_wishFor_19 : decode cX4_wishFor 19 = .ok (.iconst 1, 1) := sdX4_wishFor_12.2.2.2.1
theorem dX4_wishFor_20 : decode cX4_wishFor 20 = .ok (.iadd, 1) := sdX4_wishFor_12.2.2.2.2.1
theorem dX4_wishFor_21 : decode cX4_wishFor 21 = .ok (.iload 4, 2) := sdX4_wishFor_12.2.2.2.2.2.1
theorem dX4_wishFor_23 : decode cX4_wishFor 23 = .ok (.iconst (-1), 1) := sdX4_wishFor_12.2.2.2.2.2.2.1
theorem dX4_wishFor_24 : decode cX4_wishFor 24 = .ok (.if_icmp .ne 7, 3) := sdX4_wishFor_12.2.2.2.2.2.2.2.1
theorem sdX4_wishFor_27 : dz_Seg cX4_wishFor [(27, .iconst 0, 1), (28, .goto 4, 3), (31, .iconst 1, 1), (32, .iadd, 1), (33, .istore 5, 2), (35, .iconst 0, 1), (36, .istore 6, 2), (38, .iload 6, 2)] := dz_sg _ 27 (by decide +kernel)
theorem dX4_wishFor_27 : decode cX4_wishFor 27 = .ok (.iconst 0, 1) := sdX4_wishFor_27.1
theorem dX4_wishFor_28 : decode cX4_wishFor 28 = .ok (.goto 4, 3) := sdX4_wishFor_27.2.1
theorem dX4_wishFor_31 : decode cX4_wishFor 31 = .ok (.iconst 1, 1) := sdX4_wishFor_27.2.2.1
theorem dX4_wishFor_32 : decode cX4_wishFor 32 = .ok (.iadd, 1) := sdX4_wishFor_27.2.2.2.1
theorem dX4_wishFor_33 : decode cX4_wishFor 33 = .ok (.istore 5, 2) := sdX4_wishFor_27.2.2.2.2.1
theorem dX4_wishFor_35 : decode cX4_wishFor 35 = .ok (.iconst 0, 1) := sdX4_wishFor_27.2.2.2.2.2.1
theorem dX4_wishFor_36 : decode cX4_wishFor 36 = .ok (.istore 6, 2) := sdX4_wishFor_27.2.2.2.2.2.2.1
theorem dX4_wishFor_38 : decode cX4_wishFor 38 = .ok (.iload 6, 2) := sdX4_wishFor_27.2.2.2.2.2.2.2.1
theorem sdX4_wishFor_40 : dz_Seg cX4_wishFor [(40, .aload_n 0, 1), (41, .getfield 37, 3), (44, .if_icmp .ge 71, 3), (47, .iload_n 1, 1), (48, .iload 6, 2), (50, .ishr, 1), (51, .iconst 1, 1), (52, .iand, 1)] := dz_sg _ 40 (by decide +kernel)
theorem dX4_wishFor_40 : decode cX4_wishFor 40 = .ok (.aload_n 0, 1) := sdX4_wishFor_40.1
theorem dX4_wishFor_41 : decode cX4_wishFor 41 = .ok (.getfield 37, 3) := sdX4_wishFor_40.2.1
theorem dX4_wishFor_44 : decode cX4_wishFor 44 = .ok (.if_icmp .ge 71, 3) := sdX4_wishFor_40.2.2.1
theorem dX4_wishFor_47 : decode cX4_wishFor 47 = .ok (.iload_n 1, 1) := sdX4_wishFor_40.2.2.2.1
theorem dX4_wishFor_48 : decode cX4_wishFor 48 = .ok (.iload 6, 2) := sdX4_wishFor_40.2.2.2.2.1
theorem dX4_wishFor_50 : decode cX4_wishFor 50 = .ok (.ishr, 1) := sdX4_wishFor_40.2.2.2.2.2.1
theorem dX4_wishFor_51 : decode cX4_wishFor 51 = .ok (.iconst 1, 1) := sdX4_wishFor_40.2.2.2.2.2.2.1
theorem dX4_wishFor_52 : decode cX4_wishFor 52 = .ok (.iand, 1) := sdX4_wishFor_40.2.2.2.2.2.2.2.1
theorem sdX4_wishFor_53 : dz_Seg cX4_wishFor [(53, .iconst 1, 1), (54, .if_icmp .ne 55, 3), (57, .aload_n 0, 1), (58, .getfield 24, 3), (61, .iload 6, 2), (63, .iload 5, 2), (65, .invokestatic 63, 3), (68, .aload_n 0, 1)] := dz_sg _ 53 (by decide +kernel)
theorem dX4_wishFor_53 : decode cX4_wishFor 53 = .ok (.iconst 1, 1) := sdX4_wishFor_53.1
theorem dX4_wishFor_54 : decode cX4_wishFor 54 = .ok (.if_icmp .ne 55, 3) := sdX4_wishFor_53.2.1
theorem dX4_wishFor_57 : decode cX4_wishFor 57 = .ok (.aload_n 0, 1) := sdX4_wishFor_53.2.2.1
theorem dX4_wishFor_58 : decode cX4_wishFor 58 = .ok (.getfield 24, 3) := sdX4_wishFor_53.2.2.2.1
theorem dX4_wishFor_61 : decode cX4_wishFor 61 = .ok (.iload 6, 2) := sdX4_wishFor_53.2.2.2.2.1
theorem dX4_wishFor_63 : decode cX4_wishFor 63 = .ok (.iload 5, 2) := sdX4_wishFor_53.2.2.2.2.2.1
theorem dX4_wishFor_65 : decode cX4_wishFor 65 = .ok (.invokestatic 63, 3) := sdX4_wishFor_53.2.2.2.2.2.2.1
theorem dX4_wishFor_68 : decode cX4_wishFor 68 = .ok (.aload_n 0, 1) := sdX4_wishFor_53.2.2.2.2.2.2.2.1
theorem sdX4_wishFor_69 : dz_Seg cX4_wishFor [(69, .getfield 27, 3), (72, .iload 6, 2), (74, .iconst 3, 1), (75, .imul, 1), (76, .iload_n 2, 1), (77, .invokestatic 63, 3), (80, .aload_n 0, 1), (81, .getfield 27, 3)] := dz_sg _ 69 (by decide +kernel)
theorem dX4_wishFor_69 : decode cX4_wishFor 69 = .ok (.getfield 27, 3) := sdX4_wishFor_69.1
theorem dX4_wishFor_72 : decode cX4_wishFor 72 = .ok (.iload 6, 2) := sdX4_wishFor_69.2.1
theorem dX4_wishFor_74 : decode cX4_wishFor 74 = .ok (.iconst 3, 1) := sdX4_wishFor_69.2.2.1
theorem dX4_wishFor_75 : decode cX4_wishFor 75 = .ok (.imul, 1) := sdX4_wishFor_69.2.2.2.1
theorem dX4_wishFor_76 : decode cX4_wishFor 76 = .ok (.iload_n 2, 1) := sdX4_wishFor_69.2.2.2.2.1
theorem dX4_wishFor_77 : decode cX4_wishFor 77 = .ok (.invokestatic 63, 3) := sdX4_wishFor_69.2.2.2.2.2.1
theorem dX4_wishFor_80 : decode cX4_wishFor 80 = .ok (.aload_n 0, 1) := sdX4_wishFor_69.2.2.2.2.2.2.1
theorem dX4_wishFor_81 : decode cX4_wishFor 81 = .ok (.getfield 27, 3) := sdX4_wishFor_69.2.2.2.2.2.2.2.1
theorem sdX4_wishFor_84 : dz_Seg cX4_wishFor [(84, .iload 6, 2), (86, .iconst 3, 1), (87, .imul, 1), (88, .iconst 1, 1), (89, .iadd, 1), (90, .iload_n 3, 1), (91, .invokestatic 63, 3), (94, .aload_n 0, 1)] := dz_sg _ 84 (by decide +kernel)
theorem dX4_wishFor_84 : decode cX4_wishFor 84 = .ok (.iload 6, 2) := sdX4_wishFor_84.1
theorem dX4_wishFor_86 : decode cX4_wishFor 86 = .ok (.iconst 3, 1) := sdX4_wishFor_84.2.1
theorem dX4_wishFor_87 : decode cX4_wishFor 87 = .ok (.imul, 1) := sdX4_wishFor_84.2.2.1
theorem dX4_wishFor_88 : decode cX4_wishFor 88 = .ok (.iconst 1, 1) := sdX4_wishFor_84.2.2.2.1
theorem dX4_wishFor_89 : decode cX4_wishFor 89 = .ok (.iadd, 1) := sdX4_wishFor_84.2.2.2.2.1
theorem dX4_wishFor_90 : decode cX4_wishFor 90 = .ok (.iload_n 3, 1) := sdX4_wishFor_84.2.2.2.2.2.1
theorem dX4_wishFor_91 : decode cX4_wishFor 91 = .ok (.invokestatic 63, 3) := sdX4_wishFor_84.2.2.2.2.2.2.1
theorem dX4_wishFor_94 : decode cX4_wishFor 94 = .ok (.aload_n 0, 1) := sdX4_wishFor_84.2.2.2.2.2.2.2.1
theorem sdX4_wishFor_95 : dz_Seg cX4_wishFor [(95, .getfield 27, 3), (98, .iload 6, 2), (100, .iconst 3, 1), (101, .imul, 1), (102, .iconst 2, 1), (103, .iadd, 1), (104, .iload 4, 2), (106, .invokestatic 63, 3)] := dz_sg _ 95 (by decide +kernel)
theorem dX4_wishFor_95 : decode cX4_wishFor 95 = .ok (.getfield 27, 3) := sdX4_wishFor_95.1
theorem dX4_wishFor_98 : decode cX4_wishFor 98 = .ok (.iload 6, 2) := sdX4_wishFor_95.2.1
theorem dX4_wishFor_100 : decode cX4_wishFor 100 = .ok (.iconst 3, 1) := sdX4_wishFor_95.2.2.1
theorem dX4_wishFor_101 : decode cX4_wishFor 101 = .ok (.imul, 1) := sdX4_wishFor_95.2.2.2.1
theorem dX4_wishFor_102 : decode cX4_wishFor 102 = .ok (.iconst 2, 1) := sdX4_wishFor_95.2.2.2.2.1
theorem dX4_wishFor_103 : decode cX4_wishFor 103 = .ok (.iadd, 1) := sdX4_wishFor_95.2.2.2.2.2.1
theorem dX4_wishFor_104 : decode cX4_wishFor 104 = .ok (.iload 4, 2) := sdX4_wishFor_95.2.2.2.2.2.2.1
theorem dX4_wishFor_106 : decode cX4_wishFor 106 = .ok (.invokestatic 63, 3) := sdX4_wishFor_95.2.2.2.2.2.2.2.1
theorem sdX4_wishFor_109 : dz_Seg cX4_wishFor [(109, .iinc 6 1, 3), (112, .goto (-74), 3), (115, .return_, 1)] := dz_sg _ 109 (by decide +kernel)
theorem dX4_wishFor_109 : decode cX4_wishFor 109 = .ok (.iinc 6 1, 3) := sdX4_wishFor_109.1
theorem dX4_wishFor_112 : decode cX4_wishFor 112 = .ok (.goto (-74), 3) := sdX4_wishFor_109.2.1
theorem dX4_wishFor_115 : decode cX4_wishFor 115 = .ok (.return_, 1) := sdX4_wishFor_109.2.2.1
theorem sdX5_init_0 : dz_Seg cX5_init [(0, .aload_n 0, 1), (1, .invokespecial 3, 3), (4, .aload_n 0, 1), (5, .bipush 10, 2), (7, .newarray .int, 2), (9, .putfield 9, 3), (12, .aload_n 0, 1), (13, .bipush 10, 2)] := dz_sg _ 0 (by decide +kernel)
theorem dX5_init_0 : decode cX5_init 0 = .ok (.aload_n 0, 1) := sdX5_init_0.1
theorem dX5_init_1 : decode cX5_init 1 = .ok (.invokespecial 3, 3) := sdX5_init_0.2.1
theorem dX5_init_4 : decode cX5_init 4 = .ok (.aload_n 0, 1) := sdX5_init_0.2.2.1
theorem dX5_init_5 : decode cX5_init 5 = .ok (.bipush 10, 2) := sdX5_init_0.2.2.2.1
theorem dX5_init_7 : decode cX5_init 7 = .ok (.newarray .int, 2) := sdX5_init_0.2.2.2.2.1
theorem dX5_init_9 : decode cX5_init 9 = .ok (.putfield 9, 3) := sdX5_init_0.2.2.2.2.2.1
theorem dX5_init_12 : decode cX5_init 12 = .ok (.aload_n 0, 1) := sdX5_init_0.2.2.2.2.2.2.1
theorem dX5_init_13 : decode cX5_init 13 = .ok (.bipush 10, 2) := sdX5_init_0.2.2.2.2.2.2.2.1
theorem sdX5_init_15 : dz_Seg cX5_init [(15, .newarray .int, 2), (17, .putfield 15, 3), (20, .aload_n 0, 1), (21, .bipush 10, 2), (23, .newarray .int, 2), (25, .putfield 18, 3), (28, .aload_n 0, 1), (29, .iconst 5, 1)] := dz_sg _ 15 (by decide +kernel)
theorem dX5_init_15 : decode cX5_init 15 = .ok (.newarray .int, 2) := sdX5_init_15.1
theorem dX5_init_17 : decode cX5_init 17 = .ok (.putfield 15, 3) := sdX5_init_15.2.1
theorem dX5_init_20 : decode cX5_init 20 = .ok (.aload_n 0, 1) := sdX5_init_15.2.2.1
theorem dX5_init_21 : decode cX5_init 21 = .ok (.bipush 10, 2) := sdX5_init_15.2.2.2.1
theorem dX5_init_23 : decode cX5_init 23 = .ok (.newarray .int, 2) := sdX5_init_15.2.2.2.2.1
theorem dX5_init_25 : decode cX5_init 25 = .ok (.putfield 18, 3) := sdX5_init_15.2.2.2.2.2.1
theorem dX5_init_28 : decode cX5_init 28 = .ok (.aload_n 0, 1) := sdX5_init_15.2.2.2.2.2.2.1
theorem dX5_init_29 : decode cX5_init 29 = .ok (.iconst 5, 1) := sdX5_init_15.2.2.2.2.2.2.2.1
theorem sdX5_init_30 : dz_Seg cX5_init [(30, .newarray .int, 2), (32, .putfield 21, 3), (35, .aload_n 0, 1), (36, .iconst 5, 1), (37, .newarray .int, 2), (39, .putfield 24, 3), (42, .aload_n 0, 1), (43, .iconst 5, 1)] := dz_sg _ 30 (by decide +kernel)
theorem dX5_init_30 : decode cX5_init 30 = .ok (.newarray .int, 2) := sdX5_init_30.1
theorem dX5_init_32 : decode cX5_init 32 = .ok (.putfield 21, 3) := sdX5_init_30.2.1
theorem dX5_init_35 : decode cX5_init 35 = .ok (.aload_n 0, 1) := sdX5_init_30.2.2.1
theorem dX5_init_36 : decode cX5_init 36 = .ok (.iconst 5, 1) := sdX5_init_30.2.2.2.1
theorem dX5_init_37 : decode cX5_init 37 = .ok (.newarray .int, 2) := sdX5_init_30.2.2.2.2.1
theorem dX5_init_39 : decode cX5_init 39 = .ok (.putfield 24, 3) := sdX5_init_30.2.2.2.2.2.1
theorem dX5_init_42 : decode cX5_init 42 = .ok (.aload_n 0, 1) := sdX5_init_30.2.2.2.2.2.2.1
theorem dX5_init_43 : decode cX5_init 43 = .ok (.iconst 5, 1) := sdX5_init_30.2.2.2.2.2.2.2.1
theorem sdX5_init_44 : dz_Seg cX5_init [(44, .newarray .int, 2), (46, .putfield 27, 3), (49, .aload_n 0, 1), (50, .bipush 10, 2), (52, .newarray .int, 2), (54, .putfield 30, 3), (57, .return_, 1)] := dz_sg _ 44 (by decide +kernel)
theorem dX5_init_44 : decode cX5_init 44 = .ok (.newarray .int, 2) := sdX5_init_44.1
theorem dX5_init_46 : decode cX5_init 46 = .ok (.putfield 27, 3) := sdX5_init_44.2.1
theorem dX5_init_49 : decode cX5_init 49 = .ok (.aload_n 0, 1) := sdX5_init_44.2.2.1
theorem dX5_init_50 : decode cX5_init 50 = .ok (.bipush 10, 2) := sdX5_init_44.2.2.2.1
theorem dX5_init_52 : decode cX5_init 52 = .ok (.newarray .int, 2) := sdX5_init_44.2.2.2.2.1
theorem dX5_init_54 : decode cX5_init 54 = .ok (.putfield 30, 3) := sdX5_init_44.2.2.2.2.2.1
theorem dX5_init_57 : decode cX5_init 57 = .ok (.return_, 1) := sdX5_init_44.2.2.2.2.2.2.1
theorem sdX5_bySeed_0 : dz_Seg cX5_bySeed [(0, .aload_n 0, 1), (1, .aload_n 1, 1), (2, .iload_n 2, 1), (3, .invokevirtual 33, 3), (6, .aload_n 0, 1), (7, .aload_n 1, 1), (8, .invokevirtual 37, 3), (11, .return_, 1)] := dz_sg _ 0 (by decide +kernel)
theorem dX5_bySeed_0 : decode cX5_bySeed 0 = .ok (.aload_n 0, 1) := sdX5_bySeed_0.1
theorem dX5_bySeed_1 : decode cX5_bySeed 1 = .ok (.aload_n 1, 1) := sdX5_bySeed_0.2.1
theorem dX5_bySeed_2 : decode cX5_bySeed 2 = .ok (.iload_n 2, 1) := sdX5_bySeed_0.2.2.1
theorem dX5_bySeed_3 : decode cX5_bySeed 3 = .ok (.invokevirtual 33, 3) := sdX5_bySeed_0.2.2.2.1
theorem dX5_bySeed_6 : decode cX5_bySeed 6 = .ok (.aload_n 0, 1) := sdX5_bySeed_0.2.2.2.2.1
theorem dX5_bySeed_7 : decode cX5_bySeed 7 = .ok (.aload_n 1, 1) := sdX5_bySeed_0.2.2.2.2.2.1
theorem dX5_bySeed_8 : decode cX5_bySeed 8 = .ok (.invokevirtual 37, 3) := sdX5_bySeed_0.2.2.2.2.2.2.1
theorem dX5_bySeed_11 : decode cX5_bySeed 11 = .ok (.return_, 1) := sdX5_bySeed_0.2.2.2.2.2.2.2.1
theorem sdX5_lineUp_0 : dz_Seg cX5_lineUp [(0, .iload_n 2, 1), (1, .i2l, 1), (2, .lstore_n 3, 1), (3, .aload_n 1, 1), (4, .getfield 41, 3), (7, .istore 5, 2), (9, .iconst 1, 1), (10, .aload_n 1, 1)] := dz_sg _ 0 (by decide +kernel)
theorem dX5_lineUp_0 : decode cX5_lineUp 0 = .ok (.iload_n 2, 1) := sdX5_lineUp_0.1
theorem dX5_lineUp_1 : decode cX5_lineUp 1 = .ok (.i2l, 1) := sdX5_lineUp_0.2.1
theorem dX5_lineUp_2 : decode cX5_lineUp 2 = .ok (.lstore_n 3, 1) := sdX5_lineUp_0.2.2.1
theorem dX5_lineUp_3 : decode cX5_lineUp 3 = .ok (.aload_n 1, 1) := sdX5_lineUp_0.2.2.2.1
theorem dX5_lineUp_4 : decode cX5_lineUp 4 = .ok (.getfield 41, 3) := sdX5_lineUp_0.2.2.2.2.1
theorem dX5_lineUp_7 : decode cX5_lineUp 7 = .ok (.istore 5, 2) := sdX5_lineUp_0.2.2.2.2.2.1
theorem dX5_lineUp_9 : decode cX5_lineUp 9 = .ok (.iconst 1, 1) := sdX5_lineUp_0.2.2.2.2.2.2.1
theorem dX5_lineUp_10 : decode cX5_lineUp 10 = .ok (.aload_n 1, 1) := sdX5_lineUp_0.2.2.2.2.2.2.2.1
theorem sdX5_lineUp_11 : dz_Seg cX5_lineUp [(11, .getfield 47, 3), (14, .ishl, 1), (15, .iconst 1, 1), (16, .isub, 1), (17, .istore 6, 2), (19, .iconst 0, 1), (20, .istore 7, 2), (22, .iload 7, 2)] := dz_sg _ 11 (by decide +kernel)
theorem dX5_lineUp_11 : decode cX5_lineUp 11 = .ok (.getfield 47, 3) := sdX5_lineUp_11.1
theorem dX5_lineUp_14 : decode cX5_lineUp 14 = .ok (.ishl, 1) := sdX5_lineUp_11.2.1
theorem dX5_lineUp_15 : decode cX5_lineUp 15 = .ok (.iconst 1, 1) := sdX5_lineUp_11.2.2.1
theorem dX5_lineUp_16 : decode cX5_lineUp 16 = .ok (.isub, 1) := sdX5_lineUp_11.2.2.2.1
theorem dX5_lineUp_17 : decode cX5_lineUp 17 = .ok (.istore 6, 2) := sdX5_lineUp_11.2.2.2.2.1
theorem dX5_lineUp_19 : decode cX5_lineUp 19 = .ok (.iconst 0, 1) := sdX5_lineUp_11.2.2.2.2.2.1
theorem dX5_lineUp_20 : decode cX5_lineUp 20 = .ok (.istore 7, 2) := sdX5_lineUp_11.2.2.2.2.2.2.1
theorem dX5_lineUp_22 : decode cX5_lineUp 22 = .ok (.iload 7, 2) := sdX5_lineUp_11.2.2.2.2.2.2.2.1
theorem sdX5_lineUp_24 : dz_Seg cX5_lineUp [(24, .aload_n 1, 1), (25, .getfield 47, 3), (28, .if_icmp .ge 82, 3), (31, .iload 5, 2), (33, .ifCond .le 77, 3), (36, .ldc2_w 50, 3), (39, .lload_n 3, 1), (40, .lmul, 1)] := dz_sg _ 24 (by decide +kernel)
theorem dX5_lineUp_24 : decode cX5_lineUp 24 = .ok (.aload_n 1, 1) := sdX5_lineUp_24.1
theorem dX5_lineUp_25 : decode cX5_lineUp 25 = .ok (.getfield 47, 3) := sdX5_lineUp_24.2.1
theorem dX5_lineUp_28 : decode cX5_lineUp 28 = .ok (.if_icmp .ge 82, 3) := sdX5_lineUp_24.2.2.1
theorem dX5_lineUp_31 : decode cX5_lineUp 31 = .ok (.iload 5, 2) := sdX5_lineUp_24.2.2.2.1
theorem dX5_lineUp_33 : decode cX5_lineUp 33 = .ok (.ifCond .le 77, 3) := sdX5_lineUp_24.2.2.2.2.1
theorem dX5_lineUp_36 : decode cX5_lineUp 36 = .ok (.ldc2_w 50, 3) := sdX5_lineUp_24.2.2.2.2.2.1
theorem dX5_lineUp_39 : decode cX5_lineUp 39 = .ok (.lload_n 3, 1) := sdX5_lineUp_24.2.2.2.2.2.2.1
theorem dX5_lineUp_40 : decode cX5_lineUp 40 = .ok (.lmul, 1) := sdX5_lineUp_24.2.2.2.2.2.2.2.1
theorem sdX5_lineUp_41 : dz_Seg cX5_lineUp [(41, .ldc2_w 52, 3), (44, .ladd, 1), (45, .ldc2_w 54, 3), (48, .lrem, 1), (49, .lstore_n 3, 1), (50, .aload_n 1, 1), (51, .iload 6, 2), (53, .lload_n 3, 1)] := dz_sg _ 41 (by decide +kernel)
theorem dX5_lineUp_41 : decode cX5_lineUp 41 = .ok (.ldc2_w 52, 3) := sdX5_lineUp_41.1
theorem dX5_lineUp_44 : decode cX5_lineUp 44 = .ok (.ladd, 1) := sdX5_lineUp_41.2.1
theorem dX5_lineUp_45 : decode cX5_lineUp 45 = .ok (.ldc2_w 54, 3) := sdX5_lineUp_41.2.2.1
theorem dX5_lineUp_48 : decode cX5_lineUp 48 = .ok (.lrem, 1) := sdX5_lineUp_41.2.2.2.1
theorem dX5_lineUp_49 : decode cX5_lineUp 49 = .ok (.lstore_n 3, 1) := sdX5_lineUp_41.2.2.2.2.1
theorem dX5_lineUp_50 : decode cX5_lineUp 50 = .ok (.aload_n 1, 1) := sdX5_lineUp_41.2.2.2.2.2.1
theorem dX5_lineUp_51 : decode cX5_lineUp 51 = .ok (.iload 6, 2) := sdX5_lineUp_41.2.2.2.2.2.2.1
theorem dX5_lineUp_53 : decode cX5_lineUp 53 = .ok (.lload_n 3, 1) := sdX5_lineUp_41.2.2.2.2.2.2.2.1
theorem sdX5_lineUp_54 : dz_Seg cX5_lineUp [(54, .ldc2_w 56, 3), (57, .ldiv, 1), (58, .iload 5, 2), (60, .i2l, 1), (61, .lrem, 1), (62, .l2i, 1), (63, .invokestatic 58, 3), (66, .istore 8, 2)] := dz_sg _ 54 (by decide +kernel)
theorem dX5_lineUp_54 : decode cX5_lineUp 54 = .ok (.ldc2_w 56, 3) := sdX5_lineUp_54.1
theorem dX5_lineUp_57 : decode cX5_lineUp 57 = .ok (.ldiv, 1) := sdX5_lineUp_54.2.1
theorem dX5_lineUp_58 : decode cX5_lineUp 58 = .ok (.iload 5, 2) := sdX5_lineUp_54.2.2.1
theorem dX5_lineUp_60 : decode cX5_lineUp 60 = .ok (.i2l, 1) := sdX5_lineUp_54.2.2.2.1
theorem dX5_lineUp_61 : decode cX5_lineUp 61 = .ok (.lrem, 1) := sdX5_lineUp_54.2.2.2.2.1
theorem dX5_lineUp_62 : decode cX5_lineUp 62 = .ok (.l2i, 1) := sdX5_lineUp_54.2.2.2.2.2.1
theorem dX5_lineUp_63 : decode cX5_lineUp 63 = .ok (.invokestatic 58, 3) := sdX5_lineUp_54.2.2.2.2.2.2.1
theorem dX5_lineUp_66 : decode cX5_lineUp 66 = .ok (.istore 8, 2) := sdX5_lineUp_54.2.2.2.2.2.2.2.1
theorem sdX5_lineUp_68 : dz_Seg cX5_lineUp [(68, .aload_n 0, 1), (69, .getfield 9, 3), (72, .iload 7, 2), (74, .iload 8, 2), (76, .invokestatic 62, 3), (79, .iload 6, 2), (81, .iconst 1, 1), (82, .iload 8, 2)] := dz_sg _ 68 (by decide +kernel)
theorem dX5_lineUp_68 : decode cX5_lineUp 68 = .ok (.aload_n 0, 1) := sdX5_lineUp_68.1
theorem dX5_lineUp_69 : decode cX5_lineUp 69 = .ok (.getfield 9, 3) := sdX5_lineUp_68.2.1
theorem dX5_lineUp_72 : decode cX5_lineUp 72 = .ok (.iload 7, 2) := sdX5_lineUp_68.2.2.1
theorem dX5_lineUp_74 : decode cX5_lineUp 74 = .ok (.iload 8, 2) := sdX5_lineUp_68.2.2.2.1
theorem dX5_lineUp_76 : decode cX5_lineUp 76 = .ok (.invokestatic 62, 3) := sdX5_lineUp_68.2.2.2.2.1
theorem dX5_lineUp_79 : decode cX5_lineUp 79 = .ok (.iload 6, 2) := sdX5_lineUp_68.2.2.2.2.2.1
theorem dX5_lineUp_81 : decode cX5_lineUp 81 = .ok (.iconst 1, 1) := sdX5_lineUp_68.2.2.2.2.2.2.1
theorem dX5_lineUp_82 : decode cX5_lineUp 82 = .ok (.iload 8, 2) := sdX5_lineUp_68.2.2.2.2.2.2.2.1
theorem sdX5_lineUp_84 : dz_Seg cX5_lineUp [(84, .ishl, 1), (85, .iconst (-1), 1), (86, .ixor, 1), (87, .iand, 1), (88, .istore 6, 2), (90, .iload 5, 2), (92, .aload_n 1, 1), (93, .getfield 66, 3)] := dz_sg _ 84 (by decide +kernel)
theorem dX5_lineUp_84 : decode cX5_lineUp 84 = .ok (.ishl, 1) := sdX5_lineUp_84.1
theorem dX5_lineUp_85 : decode cX5_lineUp 85 = .ok (.iconst (-1), 1) := sdX5_lineUp_84.2.1
theorem dX5_lineUp_86 : decode cX5_lineUp 86 = .ok (.ixor, 1) := sdX5_lineUp_84.2.2.1
theorem dX5_lineUp_87 : decode cX5_lineUp 87 = .ok (.iand, 1) := sdX5_lineUp_84.2.2.2.1
theorem dX5_lineUp_88 : decode cX5_lineUp 88 = .ok (.istore 6, 2) := sdX5_lineUp_84.2.2.2.2.1
theorem dX5_lineUp_90 : decode cX5_lineUp 90 = .ok (.iload 5, 2) := sdX5_lineUp_84.2.2.2.2.2.1
theorem dX5_lineUp_92 : decode cX5_lineUp 92 = .ok (.aload_n 1, 1) := sdX5_lineUp_84.2.2.2.2.2.2.1
theorem dX5_lineUp_93 : decode cX5_lineUp 93 = .ok (.getfield 66, 3) := sdX5_lineUp_84.2.2.2.2.2.2.2.1
theorem sdX5_lineUp_96 : dz_Seg cX5_lineUp [(96, .iload 8, 2), (98, .invokestatic 69, 3), (101, .isub, 1), (102, .istore 5, 2), (104, .iinc 7 1, 3), (107, .goto (-85), 3), (110, .return_, 1)] := dz_sg _ 96 (by decide +kernel)
theorem dX5_lineUp_96 : decode cX5_lineUp 96 = .ok (.iload 8, 2) := sdX5_lineUp_96.1
theorem dX5_lineUp_98 : decode cX5_lineUp 98 = .ok (.invokestatic 69, 3) := sdX5_lineUp_96.2.1
theorem dX5_lineUp_101 : decode cX5_lineUp 101 = .ok (.isub, 1) := sdX5_lineUp_96.2.2.1
theorem dX5_lineUp_102 : decode cX5_lineUp 102 = .ok (.istore 5, 2) := sdX5_lineUp_96.2.2.2.1
theorem dX5_lineUp_104 : decode cX5_lineUp 104 = .ok (.iinc 7 1, 3) := sdX5_lineUp_96.2.2.2.2.1
theorem dX5_lineUp_107 : decode cX5_lineUp 107 = .ok (.goto (-85), 3) := sdX5_lineUp_96.2.2.2.2.2.1
theorem dX5_lineUp_110 : decode cX5_lineUp 110 = .ok (.return_, 1) := sdX5_lineUp_96.2.2.2.2.2.2.1
theorem sdX5_holderOf_0 : dz_Seg cX5_holderOf [(0, .iconst 0, 1), (1, .istore_n 3, 1), (2, .iconst 0, 1), (3, .istore 4, 2), (5, .iload 4, 2), (7, .aload_n 0, 1), (8, .getfield 47, 3), (11, .if_icmp .ge 39, 3)] := dz_sg _ 0 (by decide +kernel)
theorem dX5_holderOf_0 : decode cX5_holderOf 0 = .ok (.iconst 0, 1) := sdX5_holderOf_0.1
theorem dX5_holderOf_1 : decode cX5_holderOf 1 = .ok (.istore_n 3, 1) := sdX5_holderOf_0.2.1
theorem dX5_holderOf_2 : decode cX5_holderOf 2 = .ok (.iconst 0, 1) := sdX5_holderOf_0.2.2.1
theorem dX5_holderOf_3 : decode cX5_holderOf 3 = .ok (.istore 4, 2) := sdX5_holderOf_0.2.2.2.1
theorem dX5_holderOf_5 : decode cX5_holderOf 5 = .ok (.iload 4, 2) := sdX5_holderOf_0.2.2.2.2.1
theorem dX5_holderOf_7 : decode cX5_holderOf 7 = .ok (.aload_n 0, 1) := sdX5_holderOf_0.2.2.2.2.2.1
theorem dX5_holderOf_8 : decode cX5_holderOf 8 = .ok (.getfield 47, 3) := sdX5_holderOf_0.2.2.2.2.2.2.1
theorem dX5_holderOf_11 : decode cX5_holderOf 11 = .ok (.if_icmp .ge 39, 3) := sdX5_holderOf_0.2.2.2.2.2.2.2.1
theorem sdX5_holderOf_14 : dz_Seg cX5_holderOf [(14, .iload_n 1, 1), (15, .iload 4, 2), (17, .ishr, 1), (18, .iconst 1, 1), (19, .iand, 1), (20, .iconst 1, 1), (21, .if_icmp .ne 23, 3), (24, .iload_n 3, 1)] := dz_sg _ 14 (by decide +kernel)
theorem dX5_holderOf_14 : decode cX5_holderOf 14 = .ok (.iload_n 1, 1) := sdX5_holderOf_14.1
theorem dX5_holderOf_15 : decode cX5_holderOf 15 = .ok (.iload 4, 2) := sdX5_holderOf_14.2.1
theorem dX5_holderOf_17 : decode cX5_holderOf 17 = .ok (.ishr, 1) := sdX5_holderOf_14.2.2.1
theorem dX5_holderOf_18 : decode cX5_holderOf 18 = .ok (.iconst 1, 1) := sdX5_holderOf_14.2.2.2.1
theorem dX5_holderOf_19 : decode cX5_holderOf 19 = .ok (.iand, 1) := sdX5_holderOf_14.2.2.2.2.1
theorem dX5_holderOf_20 : decode cX5_holderOf 20 = .ok (.iconst 1, 1) := sdX5_holderOf_14.2.2.2.2.2.1
theorem dX5_holderOf_21 : decode cX5_holderOf 21 = .ok (.if_icmp .ne 23, 3) := sdX5_holderOf_14.2.2.2.2.2.2.1
theorem dX5_holderOf_24 : decode cX5_holderOf 24 = .ok (.iload_n 3, 1) := sdX5_holderOf_14.2.2.2.2.2.2.2.1
theorem sdX5_holderOf_25 : dz_Seg cX5_holderOf [(25, .aload_n 0, 1), (26, .getfield 66, 3), (29, .iload 4, 2), (31, .invokestatic 69, 3), (34, .iadd, 1), (35, .istore_n 3, 1), (36, .iload_n 3, 1), (37, .iload_n 2, 1)] := dz_sg _ 25 (by decide +kernel)
theorem dX5_holderOf_25 : decode cX5_holderOf 25 = .ok (.aload_n 0, 1) := sdX5_holderOf_25.1
theorem dX5_holderOf_26 : decode cX5_holderOf 26 = .ok (.getfield 66, 3) := sdX5_holderOf_25.2.1
theorem dX5_holderOf_29 : decode cX5_holderOf 29 = .ok (.iload 4, 2) := sdX5_holderOf_25.2.2.1
theorem dX5_holderOf_31 : decode cX5_holderOf 31 = .ok (.invokestatic 69, 3) := sdX5_holderOf_25.2.2.2.1
theorem dX5_holderOf_34 : decode cX5_holderOf 34 = .ok (.iadd, 1) := sdX5_holderOf_25.2.2.2.2.1
theorem dX5_holderOf_35 : decode cX5_holderOf 35 = .ok (.istore_n 3, 1) := sdX5_holderOf_25.2.2.2.2.2.1
theorem dX5_holderOf_36 : decode cX5_holderOf 36 = .ok (.iload_n 3, 1) := sdX5_holderOf_25.2.2.2.2.2.2.1
theorem dX5_holderOf_37 : decode cX5_holderOf 37 = .ok (.iload_n 2, 1) := sdX5_holderOf_25.2.2.2.2.2.2.2.1
theorem sdX5_holderOf_38 : dz_Seg cX5_holderOf [(38, .if_icmp .le 6, 3), (41, .iload 4, 2), (43, .ireturn, 1), (44, .iinc 4 1, 3), (47, .goto (-42), 3), (50, .iconst 0, 1), (51, .ireturn, 1)] := dz_sg _ 38 (by decide +kernel)
theorem dX5_holderOf_38 : decode cX5_holderOf 38 = .ok (.if_icmp .le 6, 3) := sdX5_holderOf_38.1
theorem dX5_holderOf_41 : decode cX5_holderOf 41 = .ok (.iload 4, 2) := sdX5_holderOf_38.2.1
theorem dX5_holderOf_43 : decode cX5_holderOf 43 = .ok (.ireturn, 1) := sdX5_holderOf_38.2.2.1
theorem dX5_holderOf_44 : decode cX5_holderOf 44 = .ok (.iinc 4 1, 3) := sdX5_holderOf_38.2.2.2.1
theorem dX5_holderOf_47 : decode cX5_holderOf 47 = .ok (.goto (-42), 3) := sdX5_holderOf_38.2.2.2.2.1
theorem dX5_holderOf_50 : decode cX5_holderOf 50 = .ok (.iconst 0, 1) := sdX5_holderOf_38.2.2.2.2.2.1
theorem dX5_holderOf_51 : decode cX5_holderOf 51 = .ok (.ireturn, 1) := sdX5_holderOf_38.2.2.2.2.2.2.1
theorem sdX5_settle_0 : dz_Seg cX5_settle [(0, .iconst 0, 1), (1, .istore_n 2, 1), (2, .iload_n 2, 1), (3, .aload_n 1, 1), (4, .getfield 47, 3), (7, .if_icmp .ge 27, 3), (10, .aload_n 0, 1), (11, .getfield 15, 3)] := dz_sg _ 0 (by decide +kernel)
theorem dX5_settle_0 : decode cX5_settle 0 = .ok (.iconst 0, 1) := sdX5_settle_0.1
theorem dX5_settle_1 : decode cX5_settle 1 = .ok (.istore_n 2, 1) := sdX5_settle_0.2.1
theorem dX5_settle_2 : decode cX5_settle 2 = .ok (.iload_n 2, 1) := sdX5_settle_0.2.2.1
theorem dX5_settle_3 : decode cX5_settle 3 = .ok (.aload_n 1, 1) := sdX5_settle_0.2.2.2.1
theorem dX5_settle_4 : decode cX5_settle 4 = .ok (.getfield 47, 3) := sdX5_settle_0.2.2.2.2.1
theorem dX5_settle_7 : decode cX5_settle 7 = .ok (.if_icmp .ge 27, 3) := sdX5_settle_0.2.2.2.2.2.1
theorem dX5_settle_10 : decode cX5_settle 10 = .ok (.aload_n 0, 1) := sdX5_settle_0.2.2.2.2.2.2.1
theorem dX5_settle_11 : decode cX5_settle 11 = .ok (.getfield 15, 3) := sdX5_settle_0.2.2.2.2.2.2.2.1
theorem sdX5_settle_14 : dz_Seg cX5_settle [(14, .iload_n 2, 1), (15, .iconst (-1), 1), (16, .invokestatic 62, 3), (19, .aload_n 0, 1), (20, .getfield 18, 3), (23, .iload_n 2, 1), (24, .iconst 0, 1), (25, .invokestatic 62, 3)] := dz_sg _ 14 (by decide +kernel)
theorem dX5_settle_14 : decode cX5_settle 14 = .ok (.iload_n 2, 1) := sdX5_settle_14.1
theorem dX5_settle_15 : decode cX5_settle 15 = .ok (.iconst (-1), 1) := sdX5_settle_14.2.1
theorem dX5_settle_16 : decode cX5_settle 16 = .ok (.invokestatic 62, 3) := sdX5_settle_14.2.2.1
theorem dX5_settle_19 : decode cX5_settle 19 = .ok (.aload_n 0, 1) := sdX5_settle_14.2.2.2.1
theorem dX5_settle_20 : decode cX5_settle 20 = .ok (.getfield 18, 3) := sdX5_settle_14.2.2.2.2.1
theorem dX5_settle_23 : decode cX5_settle 23 = .ok (.iload_n 2, 1) := sdX5_settle_14.2.2.2.2.2.1
theorem dX5_settle_24 : decode cX5_settle 24 = .ok (.iconst 0, 1) := sdX5_settle_14.2.2.2.2.2.2.1
theorem dX5_settle_25 : decode cX5_settle 25 = .ok (.invokestatic 62, 3) := sdX5_settle_14.2.2.2.2.2.2.2.1
theorem sdX5_settle_28 : dz_Seg cX5_settle [(28, .iinc 2 1, 3), (31, .goto (-29), 3), (34, .iconst 0, 1), (35, .istore_n 2, 1), (36, .iload_n 2, 1), (37, .aload_n 1, 1), (38, .getfield 73, 3), (41, .if_icmp .ge 57, 3)] := dz_sg _ 28 (by decide +kernel)
theorem dX5_settle_28 : decode cX5_settle 28 = .ok (.iinc 2 1, 3) := sdX5_settle_28.1
theorem dX5_settle_31 : decode cX5_settle 31 = .ok (.goto (-29), 3) := sdX5_settle_28.2.1
theorem dX5_settle_34 : decode cX5_settle 34 = .ok (.iconst 0, 1) := sdX5_settle_28.2.2.1
theorem dX5_settle_35 : decode cX5_settle 35 = .ok (.istore_n 2, 1) := sdX5_settle_28.2.2.2.1
theorem dX5_settle_36 : decode cX5_settle 36 = .ok (.iload_n 2, 1) := sdX5_settle_28.2.2.2.2.1
theorem dX5_settle_37 : decode cX5_settle 37 = .ok (.aload_n 1, 1) := sdX5_settle_28.2.2.2.2.2.1
theorem dX5_settle_38 : decode cX5_settle 38 = .ok (.getfield 73, 3) := sdX5_settle_28.2.2.2.2.2.2.1
theorem dX5_settle_41 : decode cX5_settle 41 = .ok (.if_icmp .ge 57, 3) := sdX5_settle_28.2.2.2.2.2.2.2.1
theorem sdX5_settle_44 : dz_Seg cX5_settle [(44, .aload_n 0, 1), (45, .getfield 21, 3), (48, .iload_n 2, 1), (49, .aload_n 1, 1), (50, .getfield 76, 3), (53, .iload_n 2, 1), (54, .invokestatic 69, 3), (57, .invokestatic 62, 3)] := dz_sg _ 44 (by decide +kernel)
theorem dX5_settle_44 : decode cX5_settle 44 = .ok (.aload_n 0, 1) := sdX5_settle_44.1
theorem dX5_settle_45 : decode cX5_settle 45 = .ok (.getfield 21, 3) := sdX5_settle_44.2.1
theorem dX5_settle_48 : decode cX5_settle 48 = .ok (.iload_n 2, 1) := sdX5_settle_44.2.2.1
theorem dX5_settle_49 : decode cX5_settle 49 = .ok (.aload_n 1, 1) := sdX5_settle_44.2.2.2.1
theorem dX5_settle_50 : decode cX5_settle 50 = .ok (.getfield 76, 3) := sdX5_settle_44.2.2.2.2.1
theorem dX5_settle_53 : decode cX5_settle 53 = .ok (.iload_n 2, 1) := sdX5_settle_44.2.2.2.2.2.1
theorem dX5_settle_54 : decode cX5_settle 54 = .ok (.invokestatic 69, 3) := sdX5_settle_44.2.2.2.2.2.2.1
theorem dX5_settle_57 : decode cX5_settle 57 = .ok (.invokestatic 62, 3) := sdX5_settle_44.2.2.2.2.2.2.2.1
theorem sdX5_settle_60 : dz_Seg cX5_settle [(60, .aload_n 0, 1), (61, .getfield 27, 3), (64, .iload_n 2, 1), (65, .aload_n 1, 1), (66, .getfield 79, 3), (69, .iload_n 2, 1), (70, .invokestatic 69, 3), (73, .invokestatic 62, 3)] := dz_sg _ 60 (by decide +kernel)
theorem dX5_settle_60 : decode cX5_settle 60 = .ok (.aload_n 0, 1) := sdX5_settle_60.1
theorem dX5_settle_61 : decode cX5_settle 61 = .ok (.getfield 27, 3) := sdX5_settle_60.2.1
theorem dX5_settle_64 : decode cX5_settle 64 = .ok (.iload_n 2, 1) := sdX5_settle_60.2.2.1
theorem dX5_settle_65 : decode cX5_settle 65 = .ok (.aload_n 1, 1) := sdX5_settle_60.2.2.2.1
theorem dX5_settle_66 : decode cX5_settle 66 = .ok (.getfield 79, 3) := sdX5_settle_60.2.2.2.2.1
theorem dX5_settle_69 : decode cX5_settle 69 = .ok (.iload_n 2, 1) := sdX5_settle_60.2.2.2.2.2.1
theorem dX5_settle_70 : decode cX5_settle 70 = .ok (.invokestatic 69, 3) := sdX5_settle_60.2.2.2.2.2.2.1
theorem dX5_settle_73 : decode cX5_settle 73 = .ok (.invokestatic 62, 3) := sdX5_settle_60.2.2.2.2.2.2.2.1
theorem sdX5_settle_76 : dz_Seg cX5_settle [(76, .aload_n 0, 1), (77, .getfield 24, 3), (80, .iload_n 2, 1), (81, .aload_n 1, 1), (82, .getfield 82, 3), (85, .iload_n 2, 1), (86, .invokestatic 69, 3), (89, .invokestatic 62, 3)] := dz_sg _ 76 (by decide +kernel)
theorem dX5_settle_76 : decode cX5_settle 76 = .ok (.aload_n 0, 1) := sdX5_settle_76.1
theorem dX5_settle_77 : decode cX5_settle 77 = .ok (.getfield 24, 3) := sdX5_settle_76.2.1
theorem dX5_settle_80 : decode cX5_settle 80 = .ok (.iload_n 2, 1) := sdX5_settle_76.2.2.1
theorem dX5_settle_81 : decode cX5_settle 81 = .ok (.aload_n 1, 1) := sdX5_settle_76.2.2.2.1
theorem dX5_settle_82 : decode cX5_settle 82 = .ok (.getfield 82, 3) := sdX5_settle_76.2.2.2.2.1
theorem dX5_settle_85 : decode cX5_settle 85 = .ok (.iload_n 2, 1) := sdX5_settle_76.2.2.2.2.2.1
theorem dX5_settle_86 : decode cX5_settle 86 = .ok (.invokestatic 69, 3) := sdX5_settle_76.2.2.2.2.2.2.1
theorem dX5_settle_89 : decode cX5_settle 89 = .ok (.invokestatic 62, 3) := sdX5_settle_76.2.2.2.2.2.2.2.1
theorem sdX5_settle_92 : dz_Seg cX5_settle [(92, .iinc 2 1, 3), (95, .goto (-59), 3), (98, .aload_n 1, 1), (99, .getfield 85, 3), (102, .ifCond .eq 8, 3), (105, .aload_n 0, 1), (106, .aload_n 1, 1), (107, .invokevirtual 89, 3)] := dz_sg _ 92 (by decide +kernel)
theorem dX5_settle_92 : decode cX5_settle 92 = .ok (.iinc 2 1, 3) := sdX5_settle_92.1
theorem dX5_settle_95 : decode cX5_settle 95 = .ok (.goto (-59), 3) := sdX5_settle_92.2.1
theorem dX5_settle_98 : decode cX5_settle 98 = .ok (.aload_n 1, 1) := sdX5_settle_92.2.2.1
theorem dX5_settle_99 : decode cX5_settle 99 = .ok (.getfield 85, 3) := sdX5_settle_92.2.2.2.1
theorem dX5_settle_102 : decode cX5_settle 102 = .ok (.ifCond .eq 8, 3) := sdX5_settle_92.2.2.2.2.1
theorem dX5_settle_105 : decode cX5_settle 105 = .ok (.aload_n 0, 1) := sdX5_settle_92.2.2.2.2.2.1
theorem dX5_settle_106 : decode cX5_settle 106 = .ok (.aload_n 1, 1) := sdX5_settle_92.2.2.2.2.2.2.1
theorem dX5_settle_107 : decode cX5_settle 107 = .ok (.invokevirtual 89, 3) := sdX5_settle_92.2.2.2.2.2.2.2.1
theorem sdX5_settle_110 : dz_Seg cX5_settle [(110, .aload_n 0, 1), (111, .aload_n 1, 1), (112, .invokevirtual 92, 3), (115, .return_, 1)] := dz_sg _ 110 (by decide +kernel)
theorem dX5_settle_110 : decode cX5_settle 110 = .ok (.aload_n 0, 1) := sdX5_settle_110.1
theorem dX5_settle_111 : decode cX5_settle 111 = .ok (.aload_n 1, 1) := sdX5_settle_110.2.1
theorem dX5_settle_112 : decode cX5_settle 112 = .ok (.invokevirtual 92, 3) := sdX5_settle_110.2.2.1
theorem dX5_settle_115 : decode cX5_settle 115 = .ok (.return_, 1) := sdX5_settle_110.2.2.2.1
theorem sdX5_firstRound_0 : dz_Seg cX5_firstRound [(0, .aload_n 0, 1), (1, .aload_n 1, 1), (2, .invokevirtual 95, 3), (5, .iconst 0, 1), (6, .istore_n 2, 1), (7, .iload_n 2, 1), (8, .aload_n 1, 1), (9, .getfield 47, 3)] := dz_sg _ 0 (by decide +kernel)
theorem dX5_firstRound_0 : decode cX5_firstRound 0 = .ok (.aload_n 0, 1) := sdX5_firstRound_0.1
theorem dX5_firstRound_1 : decode cX5_firstRound 1 = .ok (.aload_n 1, 1) := sdX5_firstRound_0.2.1
theorem dX5_firstRound_2 : decode cX5_firstRound 2 = .ok (.invokevirtual 95, 3) := sdX5_firstRound_0.2.2.1
theorem dX5_firstRound_5 : decode cX5_firstRound 5 = .ok (.iconst 0, 1) := sdX5_firstRound_0.2.2.2.1
theorem dX5_firstRound_6 : decode cX5_firstRound 6 = .ok (.istore_n 2, 1) := sdX5_firstRound_0.2.2.2.2.1
theorem dX5_firstRound_7 : decode cX5_firstRound 7 = .ok (.iload_n 2, 1) := sdX5_firstRound_0.2.2.2.2.2.1
theorem dX5_firstRound_8 : decode cX5_firstRound 8 = .ok (.aload_n 1, 1) := sdX5_firstRound_0.2.2.2.2.2.2.1
theorem dX5_firstRound_9 : decode cX5_firstRound 9 = .ok (.getfield 47, 3) := sdX5_firstRound_0.2.2.2.2.2.2.2.1
theorem sdX5_firstRound_12 : dz_Seg cX5_firstRound [(12, .if_icmp .ge 85, 3), (15, .aload_n 0, 1), (16, .getfield 30, 3), (19, .iload_n 2, 1), (20, .invokestatic 69, 3), (23, .istore_n 3, 1), (24, .aload_n 1, 1), (25, .iload_n 3, 1)] := dz_sg _ 12 (by decide +kernel)
theorem dX5_firstRound_12 : decode cX5_firstRound 12 = .ok (.if_icmp .ge 85, 3) := sdX5_firstRound_12.1
theorem dX5_firstRound_15 : decode cX5_firstRound 15 = .ok (.aload_n 0, 1) := sdX5_firstRound_12.2.1
theorem dX5_firstRound_16 : decode cX5_firstRound 16 = .ok (.getfield 30, 3) := sdX5_firstRound_12.2.2.1
theorem dX5_firstRound_19 : decode cX5_firstRound 19 = .ok (.iload_n 2, 1) := sdX5_firstRound_12.2.2.2.1
theorem dX5_firstRound_20 : decode cX5_firstRound 20 = .ok (.invokestatic 69, 3) := sdX5_firstRound_12.2.2.2.2.1
theorem dX5_firstRound_23 : decode cX5_firstRound 23 = .ok (.istore_n 3, 1) := sdX5_firstRound_12.2.2.2.2.2.1
theorem dX5_firstRound_24 : decode cX5_firstRound 24 = .ok (.aload_n 1, 1) := sdX5_firstRound_12.2.2.2.2.2.2.1
theorem dX5_firstRound_25 : decode cX5_firstRound 25 = .ok (.iload_n 3, 1) := sdX5_firstRound_12.2.2.2.2.2.2.2.1
theorem sdX5_firstRound_26 : dz_Seg cX5_firstRound [(26, .iconst 0, 1), (27, .invokevirtual 98, 3), (30, .istore 4, 2), (32, .iload 4, 2), (34, .iconst (-1), 1), (35, .if_icmp .eq 56, 3), (38, .aload_n 1, 1), (39, .iload_n 3, 1)] := dz_sg _ 26 (by decide +kernel)
theorem dX5_firstRound_26 : decode cX5_firstRound 26 = .ok (.iconst 0, 1) := sdX5_firstRound_26.1
theorem dX5_firstRound_27 : decode cX5_firstRound 27 = .ok (.invokevirtual 98, 3) := sdX5_firstRound_26.2.1
theorem dX5_firstRound_30 : decode cX5_firstRound 30 = .ok (.istore 4, 2) := sdX5_firstRound_26.2.2.1
theorem dX5_firstRound_32 : decode cX5_firstRound 32 = .ok (.iload 4, 2) := sdX5_firstRound_26.2.2.2.1
theorem dX5_firstRound_34 : decode cX5_firstRound 34 = .ok (.iconst (-1), 1) := sdX5_firstRound_26.2.2.2.2.1
theorem dX5_firstRound_35 : decode cX5_firstRound 35 = .ok (.if_icmp .eq 56, 3) := sdX5_firstRound_26.2.2.2.2.2.1
theorem dX5_firstRound_38 : decode cX5_firstRound 38 = .ok (.aload_n 1, 1) := sdX5_firstRound_26.2.2.2.2.2.2.1
theorem dX5_firstRound_39 : decode cX5_firstRound 39 = .ok (.iload_n 3, 1) := sdX5_firstRound_26.2.2.2.2.2.2.2.1
theorem sdX5_firstRound_40 : dz_Seg cX5_firstRound [(40, .aload_n 0, 1), (41, .getfield 27, 3), (44, .iload 4, 2), (46, .invokestatic 69, 3), (49, .aload_n 0, 1), (50, .getfield 24, 3), (53, .iload 4, 2), (55, .invokestatic 69, 3)] := dz_sg _ 40 (by decide +kernel)
theorem dX5_firstRound_40 : decode cX5_firstRound 40 = .ok (.aload_n 0, 1) := sdX5_firstRound_40.1
theorem dX5_firstRound_41 : decode cX5_firstRound 41 = .ok (.getfield 27, 3) := sdX5_firstRound_40.2.1
theorem dX5_firstRound_44 : decode cX5_firstRound 44 = .ok (.iload 4, 2) := sdX5_firstRound_40.2.2.1
theorem dX5_firstRound_46 : decode cX5_firstRound 46 = .ok (.invokestatic 69, 3) := sdX5_firstRound_40.2.2.2.1
theorem dX5_firstRound_49 : decode cX5_firstRound 49 = .ok (.aload_n 0, 1) := sdX5_firstRound_40.2.2.2.2.1
theorem dX5_firstRound_50 : decode cX5_firstRound 50 = .ok (.getfield 24, 3) := sdX5_firstRound_40.2.2.2.2.2.1
theorem dX5_firstRound_53 : decode cX5_firstRound 53 = .ok (.iload 4, 2) := sdX5_firstRound_40.2.2.2.2.2.2.1
theorem dX5_firstRound_55 : decode cX5_firstRound 55 = .ok (.invokestatic 69, 3) := sdX5_firstRound_40.2.2.2.2.2.2.2.1
theorem sdX5_firstRound_58 : dz_Seg cX5_firstRound [(58, .invokevirtual 102, 3), (61, .ifCond .eq 30, 3), (64, .aload_n 0, 1), (65, .getfield 27, 3), (68, .iload 4, 2), (70, .aload_n 1, 1), (71, .getfield 106, 3), (74, .iload_n 3, 1)] := dz_sg _ 58 (by decide +kernel)
theorem dX5_firstRound_58 : decode cX5_firstRound 58 = .ok (.invokevirtual 102, 3) := sdX5_firstRound_58.1
theorem dX5_firstRound_61 : decode cX5_firstRound 61 = .ok (.ifCond .eq 30, 3) := sdX5_firstRound_58.2.1
theorem dX5_firstRound_64 : decode cX5_firstRound 64 = .ok (.aload_n 0, 1) := sdX5_firstRound_58.2.2.1
theorem dX5_firstRound_65 : decode cX5_firstRound 65 = .ok (.getfield 27, 3) := sdX5_firstRound_58.2.2.2.1
theorem dX5_firstRound_68 : decode cX5_firstRound 68 = .ok (.iload 4, 2) := sdX5_firstRound_58.2.2.2.2.1
theorem dX5_firstRound_70 : decode cX5_firstRound 70 = .ok (.aload_n 1, 1) := sdX5_firstRound_58.2.2.2.2.2.1
theorem dX5_firstRound_71 : decode cX5_firstRound 71 = .ok (.getfield 106, 3) := sdX5_firstRound_58.2.2.2.2.2.2.1
theorem dX5_firstRound_74 : decode cX5_firstRound 74 = .ok (.iload_n 3, 1) := sdX5_firstRound_58.2.2.2.2.2.2.2.1
theorem sdX5_firstRound_75 : dz_Seg cX5_firstRound [(75, .invokestatic 69, 3), (78, .ineg, 1), (79, .invokestatic 109, 3), (82, .aload_n 0, 1), (83, .aload_n 1, 1), (84, .iload_n 3, 1), (85, .iload 4, 2), (87, .iconst 1, 1)] := dz_sg _ 75 (by decide +kernel)
theorem dX5_firstRound_75 : decode cX5_firstRound 75 = .ok (.invokestatic 69, 3) := sdX5_firstRound_75.1
theorem dX5_firstRound_78 : decode cX5_firstRound 78 = .ok (.ineg, 1) := sdX5_firstRound_75.2.1
theorem dX5_firstRound_79 : decode cX5_firstRound 79 = .ok (.invokestatic 109, 3) := sdX5_firstRound_75.2.2.1
theorem dX5_firstRound_82 : decode cX5_firstRound 82 = .ok (.aload_n 0, 1) := sdX5_firstRound_75.2.2.2.1
theorem dX5_firstRound_83 : decode cX5_firstRound 83 = .ok (.aload_n 1, 1) := sdX5_firstRound_75.2.2.2.2.1
theorem dX5_firstRound_84 : decode cX5_firstRound 84 = .ok (.iload_n 3, 1) := sdX5_firstRound_75.2.2.2.2.2.1
theorem dX5_firstRound_85 : decode cX5_firstRound 85 = .ok (.iload 4, 2) := sdX5_firstRound_75.2.2.2.2.2.2.1
theorem dX5_firstRound_87 : decode cX5_firstRound 87 = .ok (.iconst 1, 1) := sdX5_firstRound_75.2.2.2.2.2.2.2.1
theorem sdX5_firstRound_88 : dz_Seg cX5_firstRound [(88, .invokevirtual 112, 3), (91, .iinc 2 1, 3), (94, .goto (-87), 3), (97, .return_, 1)] := dz_sg _ 88 (by decide +kernel)
theorem dX5_firstRound_88 : decode cX5_firstRound 88 = .ok (.invokevirtual 112, 3) := sdX5_firstRound_88.1
theorem dX5_firstRound_91 : decode cX5_firstRound 91 = .ok (.iinc 2 1, 3) := sdX5_firstRound_88.2.1
theorem dX5_firstRound_94 : decode cX5_firstRound 94 = .ok (.goto (-87), 3) := sdX5_firstRound_88.2.2.1
theorem dX5_firstRound_97 : decode cX5_firstRound 97 = .ok (.return_, 1) := sdX5_firstRound_88.2.2.2.1
theorem sdX5_rank_0 : dz_Seg cX5_rank [(0, .iconst 0, 1), (1, .istore_n 2, 1), (2, .iload_n 2, 1), (3, .aload_n 1, 1), (4, .getfield 47, 3), (7, .if_icmp .ge 95, 3), (10, .aload_n 0, 1), (11, .getfield 9, 3)] := dz_sg _ 0 (by decide +kernel)
theorem dX5_rank_0 : decode cX5_rank 0 = .ok (.iconst 0, 1) := sdX5_rank_0.1
theorem dX5_rank_1 : decode cX5_rank 1 = .ok (.istore_n 2, 1) := sdX5_rank_0.2.1
theorem dX5_rank_2 : decode cX5_rank 2 = .ok (.iload_n 2, 1) := sdX5_rank_0.2.2.1
theorem dX5_rank_3 : decode cX5_rank 3 = .ok (.aload_n 1, 1) := sdX5_rank_0.2.2.2.1
theorem dX5_rank_4 : decode cX5_rank 4 = .ok (.getfield 47, 3) := sdX5_rank_0.2.2.2.2.1
theorem dX5_rank_7 : decode cX5_rank 7 = .ok (.if_icmp .ge 95, 3) := sdX5_rank_0.2.2.2.2.2.1
theorem dX5_rank_10 : decode cX5_rank 10 = .ok (.aload_n 0, 1) := sdX5_rank_0.2.2.2.2.2.2.1
theorem dX5_rank_11 : decode cX5_rank 11 = .ok (.getfield 9, 3) := sdX5_rank_0.2.2.2.2.2.2.2.1
theorem sdX5_rank_14 : dz_Seg cX5_rank [(14, .iload_n 2, 1), (15, .invokestatic 69, 3), (18, .istore_n 3, 1), (19, .aload_n 1, 1), (20, .getfield 116, 3), (23, .iload_n 3, 1), (24, .invokestatic 69, 3), (27, .istore 4, 2)] := dz_sg _ 14 (by decide +kernel)
theorem dX5_rank_14 : decode cX5_rank 14 = .ok (.iload_n 2, 1) := sdX5_rank_14.1
theorem dX5_rank_15 : decode cX5_rank 15 = .ok (.invokestatic 69, 3) := sdX5_rank_14.2.1
theorem dX5_rank_18 : decode cX5_rank 18 = .ok (.istore_n 3, 1) := sdX5_rank_14.2.2.1
theorem dX5_rank_19 : decode cX5_rank 19 = .ok (.aload_n 1, 1) := sdX5_rank_14.2.2.2.1
theorem dX5_rank_20 : decode cX5_rank 20 = .ok (.getfield 116, 3) := sdX5_rank_14.2.2.2.2.1
theorem dX5_rank_23 : decode cX5_rank 23 = .ok (.iload_n 3, 1) := sdX5_rank_14.2.2.2.2.2.1
theorem dX5_rank_24 : decode cX5_rank 24 = .ok (.invokestatic 69, 3) := sdX5_rank_14.2.2.2.2.2.2.1
theorem dX5_rank_27 : decode cX5_rank 27 = .ok (.istore 4, 2) := sdX5_rank_14.2.2.2.2.2.2.2.1
theorem sdX5_rank_29 : dz_Seg cX5_rank [(29, .iload_n 2, 1), (30, .istore 5, 2), (32, .iload 5, 2), (34, .ifCond .le 52, 3), (37, .aload_n 1, 1), (38, .getfield 116, 3), (41, .aload_n 0, 1), (42, .getfield 30, 3)] := dz_sg _ 29 (by decide +kernel)
theorem dX5_rank_29 : decode cX5_rank 29 = .ok (.iload_n 2, 1) := sdX5_rank_29.1
theorem dX5_rank_30 : decode cX5_rank 30 = .ok (.istore 5, 2) := sdX5_rank_29.2.1
theorem dX5_rank_32 : decode cX5_rank 32 = .ok (.iload 5, 2) := sdX5_rank_29.2.2.1
theorem dX5_rank_34 : decode cX5_rank 34 = .ok (.ifCond .le 52, 3) := sdX5_rank_29.2.2.2.1
theorem dX5_rank_37 : decode cX5_rank 37 = .ok (.aload_n 1, 1) := sdX5_rank_29.2.2.2.2.1
theorem dX5_rank_38 : decode cX5_rank 38 = .ok (.getfield 116, 3) := sdX5_rank_29.2.2.2.2.2.1
theorem dX5_rank_41 : decode cX5_rank 41 = .ok (.aload_n 0, 1) := sdX5_rank_29.2.2.2.2.2.2.1
theorem dX5_rank_42 : decode cX5_rank 42 = .ok (.getfield 30, 3) := sdX5_rank_29.2.2.2.2.2.2.2.1
theorem sdX5_rank_45 : dz_Seg cX5_rank [(45, .iload 5, 2), (47, .iconst 1, 1), (48, .isub, 1), (49, .invokestatic 69, 3), (52, .invokestatic 69, 3), (55, .iload 4, 2), (57, .if_icmp .ge 29, 3), (60, .aload_n 0, 1)] := dz_sg _ 45 (by decide +kernel)
theorem dX5_rank_45 : decode cX5_rank 45 = .ok (.iload 5, 2) := sdX5_rank_45.1
theorem dX5_rank_47 : decode cX5_rank 47 = .ok (.iconst 1, 1) := sdX5_rank_45.2.1
theorem dX5_rank_48 : decode cX5_rank 48 = .ok (.isub, 1) := sdX5_rank_45.2.2.1
theorem dX5_rank_49 : decode cX5_rank 49 = .ok (.invokestatic 69, 3) := sdX5_rank_45.2.2.2.1
theorem dX5_rank_52 : decode cX5_rank 52 = .ok (.invokestatic 69, 3) := sdX5_rank_45.2.2.2.2.1
theorem dX5_rank_55 : decode cX5_rank 55 = .ok (.iload 4, 2) := sdX5_rank_45.2.2.2.2.2.1
theorem dX5_rank_57 : decode cX5_rank 57 = .ok (.if_icmp .ge 29, 3) := sdX5_rank_45.2.2.2.2.2.2.1
theorem dX5_rank_60 : decode cX5_rank 60 = .ok (.aload_n 0, 1) := sdX5_rank_45.2.2.2.2.2.2.2.1
theorem sdX5_rank_61 : dz_Seg cX5_rank [(61, .getfield 30, 3), (64, .iload 5, 2), (66, .aload_n 0, 1), (67, .getfield 30, 3), (70, .iload 5, 2), (72, .iconst 1, 1), (73, .isub, 1), (74, .invokestatic 69, 3)] := dz_sg _ 61 (by decide +kernel)
theorem dX5_rank_61 : decode cX5_rank 61 = .ok (.getfield 30, 3) := sdX5_rank_61.1
theorem dX5_rank_64 : decode cX5_rank 64 = .ok (.iload 5, 2) := sdX5_rank_61.2.1
theorem dX5_rank_66 : decode cX5_rank 66 = .ok (.aload_n 0, 1) := sdX5_rank_61.2.2.1
theorem dX5_rank_67 : decode cX5_rank 67 = .ok (.getfield 30, 3) := sdX5_rank_61.2.2.2.1
theorem dX5_rank_70 : decode cX5_rank 70 = .ok (.iload 5, 2) := sdX5_rank_61.2.2.2.2.1
theorem dX5_rank_72 : decode cX5_rank 72 = .ok (.iconst 1, 1) := sdX5_rank_61.2.2.2.2.2.1
theorem dX5_rank_73 : decode cX5_rank 73 = .ok (.isub, 1) := sdX5_rank_61.2.2.2.2.2.2.1
theorem dX5_rank_74 : decode cX5_rank 74 = .ok (.invokestatic 69, 3) := sdX5_rank_61.2.2.2.2.2.2.2.1
theorem sdX5_rank_77 : dz_Seg cX5_rank [(77, .invokestatic 62, 3), (80, .iinc 5 (-1), 3), (83, .goto (-51), 3), (86, .aload_n 0, 1), (87, .getfield 30, 3), (90, .iload 5, 2), (92, .iload_n 3, 1), (93, .invokestatic 62, 3)] := dz_sg _ 77 (by decide +kernel)
theorem dX5_rank_77 : decode cX5_rank 77 = .ok (.invokestatic 62, 3) := sdX5_rank_77.1
theorem dX5_rank_80 : decode cX5_rank 80 = .ok (.iinc 5 (-1), 3) := sdX5_rank_77.2.1
theorem dX5_rank_83 : decode cX5_rank 83 = .ok (.goto (-51), 3) := sdX5_rank_77.2.2.1
theorem dX5_rank_86 : decode cX5_rank 86 = .ok (.aload_n 0, 1) := sdX5_rank_77.2.2.2.1
theorem dX5_rank_87 : decode cX5_rank 87 = .ok (.getfield 30, 3) := sdX5_rank_77.2.2.2.2.1
theorem dX5_rank_90 : decode cX5_rank 90 = .ok (.iload 5, 2) := sdX5_rank_77.2.2.2.2.2.1
theorem dX5_rank_92 : decode cX5_rank 92 = .ok (.iload_n 3, 1) := sdX5_rank_77.2.2.2.2.2.2.1
theorem dX5_rank_93 : decode cX5_rank 93 = .ok (.invokestatic 62, 3) := sdX5_rank_77.2.2.2.2.2.2.2.1
theorem sdX5_rank_96 : dz_Seg cX5_rank [(96, .iinc 2 1, 3), (99, .goto (-97), 3), (102, .return_, 1)] := dz_sg _ 96 (by decide +kernel)
theorem dX5_rank_96 : decode cX5_rank 96 = .ok (.iinc 2 1, 3) := sdX5_rank_96.1
theorem dX5_rank_99 : decode cX5_rank 99 = .ok (.goto (-97), 3) := sdX5_rank_96.2.1
theorem dX5_rank_102 : decode cX5_rank 102 = .ok (.return_, 1) := sdX5_rank_96.2.2.1
theorem sdX5_secondRound_0 : dz_Seg cX5_secondRound [(0, .iconst 0, 1), (1, .istore_n 2, 1), (2, .iload_n 2, 1), (3, .aload_n 1, 1), (4, .getfield 47, 3), (7, .if_icmp .ge 107, 3), (10, .aload_n 0, 1), (11, .getfield 9, 3)] := dz_sg _ 0 (by decide +kernel)
theorem dX5_secondRound_0 : decode cX5_secondRound 0 = .ok (.iconst 0, 1) := sdX5_secondRound_0.1
theorem dX5_secondRound_1 : decode cX5_secondRound 1 = .ok (.istore_n 2, 1) := sdX5_secondRound_0.2.1
theorem dX5_secondRound_2 : decode cX5_secondRound 2 = .ok (.iload_n 2, 1) := sdX5_secondRound_0.2.2.1
theorem dX5_secondRound_3 : decode cX5_secondRound 3 = .ok (.aload_n 1, 1) := sdX5_secondRound_0.2.2.2.1
theorem dX5_secondRound_4 : decode cX5_secondRound 4 = .ok (.getfield 47, 3) := sdX5_secondRound_0.2.2.2.2.1
theorem dX5_secondRound_7 : decode cX5_secondRound 7 = .ok (.if_icmp .ge 107, 3) := sdX5_secondRound_0.2.2.2.2.2.1
theorem dX5_secondRound_10 : decode cX5_secondRound 10 = .ok (.aload_n 0, 1) := sdX5_secondRound_0.2.2.2.2.2.2.1
theorem dX5_secondRound_11 : decode cX5_secondRound 11 = .ok (.getfield 9, 3) := sdX5_secondRound_0.2.2.2.2.2.2.2.1
theorem sdX5_secondRound_14 : dz_Seg cX5_secondRound [(14, .iload_n 2, 1), (15, .invokestatic 69, 3), (18, .istore_n 3, 1), (19, .aload_n 0, 1), (20, .getfield 15, 3), (23, .iload_n 3, 1), (24, .invokestatic 69, 3), (27, .iconst (-1), 1)] := dz_sg _ 14 (by decide +kernel)
theorem dX5_secondRound_14 : decode cX5_secondRound 14 = .ok (.iload_n 2, 1) := sdX5_secondRound_14.1
theorem dX5_secondRound_15 : decode cX5_secondRound 15 = .ok (.invokestatic 69, 3) := sdX5_secondRound_14.2.1
theorem dX5_secondRound_18 : decode cX5_secondRound 18 = .ok (.istore_n 3, 1) := sdX5_secondRound_14.2.2.1
theorem dX5_secondRound_19 : decode cX5_secondRound 19 = .ok (.aload_n 0, 1) := sdX5_secondRound_14.2.2.2.1
theorem dX5_secondRound_20 : decode cX5_secondRound 20 = .ok (.getfield 15, 3) := sdX5_secondRound_14.2.2.2.2.1
theorem dX5_secondRound_23 : decode cX5_secondRound 23 = .ok (.iload_n 3, 1) := sdX5_secondRound_14.2.2.2.2.2.1
theorem dX5_secondRound_24 : decode cX5_secondRound 24 = .ok (.invokestatic 69, 3) := sdX5_secondRound_14.2.2.2.2.2.2.1
theorem dX5_secondRound_27 : decode cX5_secondRound 27 = .ok (.iconst (-1), 1) := sdX5_secondRound_14.2.2.2.2.2.2.2.1
theorem sdX5_secondRound_28 : dz_Seg cX5_secondRound [(28, .if_icmp .ne 14, 3), (31, .aload_n 1, 1), (32, .getfield 119, 3), (35, .iload_n 3, 1), (36, .invokestatic 69, 3), (39, .goto 4, 3), (42, .iconst 0, 1), (43, .istore 4, 2)] := dz_sg _ 28 (by decide +kernel)
theorem dX5_secondRound_28 : decode cX5_secondRound 28 = .ok (.if_icmp .ne 14, 3) := sdX5_secondRound_28.1
theorem dX5_secondRound_31 : decode cX5_secondRound 31 = .ok (.aload_n 1, 1) := sdX5_secondRound_28.2.1
theorem dX5_secondRound_32 : decode cX5_secondRound 32 = .ok (.getfield 119, 3) := sdX5_secondRound_28.2.2.1
theorem dX5_secondRound_35 : decode cX5_secondRound 35 = .ok (.iload_n 3, 1) := sdX5_secondRound_28.2.2.2.1
theorem dX5_secondRound_36 : decode cX5_secondRound 36 = .ok (.invokestatic 69, 3) := sdX5_secondRound_28.2.2.2.2.1
theorem dX5_secondRound_39 : decode cX5_secondRound 39 = .ok (.goto 4, 3) := sdX5_secondRound_28.2.2.2.2.2.1
theorem dX5_secondRound_42 : decode cX5_secondRound 42 = .ok (.iconst 0, 1) := sdX5_secondRound_28.2.2.2.2.2.2.1
theorem dX5_secondRound_43 : decode cX5_secondRound 43 = .ok (.istore 4, 2) := sdX5_secondRound_28.2.2.2.2.2.2.2.1
theorem sdX5_secondRound_45 : dz_Seg cX5_secondRound [(45, .iconst 0, 1), (46, .istore 5, 2), (48, .iload 5, 2), (50, .iload 4, 2), (52, .if_icmp .ge 56, 3), (55, .aload_n 1, 1), (56, .iload_n 3, 1), (57, .iload 5, 2)] := dz_sg _ 45 (by decide +kernel)
theorem dX5_secondRound_45 : decode cX5_secondRound 45 = .ok (.iconst 0, 1) := sdX5_secondRound_45.1
theorem dX5_secondRound_46 : decode cX5_secondRound 46 = .ok (.istore 5, 2) := sdX5_secondRound_45.2.1
theorem dX5_secondRound_48 : decode cX5_secondRound 48 = .ok (.iload 5, 2) := sdX5_secondRound_45.2.2.1
theorem dX5_secondRound_50 : decode cX5_secondRound 50 = .ok (.iload 4, 2) := sdX5_secondRound_45.2.2.2.1
theorem dX5_secondRound_52 : decode cX5_secondRound 52 = .ok (.if_icmp .ge 56, 3) := sdX5_secondRound_45.2.2.2.2.1
theorem dX5_secondRound_55 : decode cX5_secondRound 55 = .ok (.aload_n 1, 1) := sdX5_secondRound_45.2.2.2.2.2.1
theorem dX5_secondRound_56 : decode cX5_secondRound 56 = .ok (.iload_n 3, 1) := sdX5_secondRound_45.2.2.2.2.2.2.1
theorem dX5_secondRound_57 : decode cX5_secondRound 57 = .ok (.iload 5, 2) := sdX5_secondRound_45.2.2.2.2.2.2.2.1
theorem sdX5_secondRound_59 : dz_Seg cX5_secondRound [(59, .invokevirtual 98, 3), (62, .istore 6, 2), (64, .aload_n 1, 1), (65, .iload_n 3, 1), (66, .aload_n 0, 1), (67, .getfield 21, 3), (70, .iload 6, 2), (72, .invokestatic 69, 3)] := dz_sg _ 59 (by decide +kernel)
theorem dX5_secondRound_59 : decode cX5_secondRound 59 = .ok (.invokevirtual 98, 3) := sdX5_secondRound_59.1
theorem dX5_secondRound_62 : decode cX5_secondRound 62 = .ok (.istore 6, 2) := sdX5_secondRound_59.2.1
theorem dX5_secondRound_64 : decode cX5_secondRound 64 = .ok (.aload_n 1, 1) := sdX5_secondRound_59.2.2.1
theorem dX5_secondRound_65 : decode cX5_secondRound 65 = .ok (.iload_n 3, 1) := sdX5_secondRound_59.2.2.2.1
theorem dX5_secondRound_66 : decode cX5_secondRound 66 = .ok (.aload_n 0, 1) := sdX5_secondRound_59.2.2.2.2.1
theorem dX5_secondRound_67 : decode cX5_secondRound 67 = .ok (.getfield 21, 3) := sdX5_secondRound_59.2.2.2.2.2.1
theorem dX5_secondRound_70 : decode cX5_secondRound 70 = .ok (.iload 6, 2) := sdX5_secondRound_59.2.2.2.2.2.2.1
theorem dX5_secondRound_72 : decode cX5_secondRound 72 = .ok (.invokestatic 69, 3) := sdX5_secondRound_59.2.2.2.2.2.2.2.1
theorem sdX5_secondRound_75 : dz_Seg cX5_secondRound [(75, .aload_n 0, 1), (76, .getfield 24, 3), (79, .iload 6, 2), (81, .invokestatic 69, 3), (84, .invokevirtual 102, 3), (87, .ifCond .eq 15, 3), (90, .aload_n 0, 1), (91, .aload_n 1, 1)] := dz_sg _ 75 (by decide +kernel)
theorem dX5_secondRound_75 : decode cX5_secondRound 75 = .ok (.aload_n 0, 1) := sdX5_secondRound_75.1
theorem dX5_secondRound_76 : decode cX5_secondRound 76 = .ok (.getfield 24, 3) := sdX5_secondRound_75.2.1
theorem dX5_secondRound_79 : decode cX5_secondRound 79 = .ok (.iload 6, 2) := sdX5_secondRound_75.2.2.1
theorem dX5_secondRound_81 : decode cX5_secondRound 81 = .ok (.invokestatic 69, 3) := sdX5_secondRound_75.2.2.2.1
theorem dX5_secondRound_84 : decode cX5_secondRound 84 = .ok (.invokevirtual 102, 3) := sdX5_secondRound_75.2.2.2.2.1
theorem dX5_secondRound_87 : decode cX5_secondRound 87 = .ok (.ifCond .eq 15, 3) := sdX5_secondRound_75.2.2.2.2.2.1
theorem dX5_secondRound_90 : decode cX5_secondRound 90 = .ok (.aload_n 0, 1) := sdX5_secondRound_75.2.2.2.2.2.2.1
theorem dX5_secondRound_91 : decode cX5_secondRound 91 = .ok (.aload_n 1, 1) := sdX5_secondRound_75.2.2.2.2.2.2.2.1
theorem sdX5_secondRound_92 : dz_Seg cX5_secondRound [(92, .iload_n 3, 1), (93, .iload 6, 2), (95, .iconst 2, 1), (96, .invokevirtual 112, 3), (99, .goto 9, 3), (102, .iinc 5 1, 3), (105, .goto (-57), 3), (108, .iinc 2 1, 3)] := dz_sg _ 92 (by decide +kernel)
theorem dX5_secondRound_92 : decode cX5_secondRound 92 = .ok (.iload_n 3, 1) := sdX5_secondRound_92.1
theorem dX5_secondRound_93 : decode cX5_secondRound 93 = .ok (.iload 6, 2) := sdX5_secondRound_92.2.1
theorem dX5_secondRound_95 : decode cX5_secondRound 95 = .ok (.iconst 2, 1) := sdX5_secondRound_92.2.2.1
theorem dX5_secondRound_96 : decode cX5_secondRound 96 = .ok (.invokevirtual 112, 3) := sdX5_secondRound_92.2.2.2.1
theorem dX5_secondRound_99 : decode cX5_secondRound 99 = .ok (.goto 9, 3) := sdX5_secondRound_92.2.2.2.2.1
theorem dX5_secondRound_102 : decode cX5_secondRound 102 = .ok (.iinc 5 1, 3) := sdX5_secondRound_92.2.2.2.2.2.1
theorem dX5_secondRound_105 : decode cX5_secondRound 105 = .ok (.goto (-57), 3) := sdX5_secondRound_92.2.2.2.2.2.2.1
theorem dX5_secondRound_108 : decode cX5_secondRound 108 = .ok (.iinc 2 1, 3) := sdX5_secondRound_92.2.2.2.2.2.2.2.1
theorem sdX5_secondRound_111 : dz_Seg cX5_secondRound [(111, .goto (-109), 3), (114, .return_, 1)] := dz_sg _ 111 (by decide +kernel)
theorem dX5_secondRound_111 : decode cX5_secondRound 111 = .ok (.goto (-109), 3) := sdX5_secondRound_111.1
theorem dX5_secondRound_114 : decode cX5_secondRound 114 = .ok (.return_, 1) := sdX5_secondRound_111.2.1
theorem sdX5_hold_0 : dz_Seg cX5_hold [(0, .aload_n 0, 1), (1, .getfield 15, 3), (4, .iload_n 2, 1), (5, .iload_n 3, 1), (6, .invokestatic 62, 3), (9, .aload_n 0, 1), (10, .getfield 18, 3), (13, .iload_n 2, 1)] := dz_sg _ 0 (by decide +kernel)
theorem dX5_hold_0 : decode cX5_hold 0 = .ok (.aload_n 0, 1) := sdX5_hold_0.1
theorem dX5_hold_1 : decode cX5_hold 1 = .ok (.getfield 15, 3) := sdX5_hold_0.2.1
theorem dX5_hold_4 : decode cX5_hold 4 = .ok (.iload_n 2, 1) := sdX5_hold_0.2.2.1
theorem dX5_hold_5 : decode cX5_hold 5 = .ok (.iload_n 3, 1) := sdX5_hold_0.2.2.2.1
theorem dX5_hold_6 : decode cX5_hold 6 = .ok (.invokestatic 62, 3) := sdX5_hold_0.2.2.2.2.1
theorem dX5_hold_9 : decode cX5_hold 9 = .ok (.aload_n 0, 1) := sdX5_hold_0.2.2.2.2.2.1
theorem dX5_hold_10 : decode cX5_hold 10 = .ok (.getfield 18, 3) := sdX5_hold_0.2.2.2.2.2.2.1
theorem dX5_hold_13 : decode cX5_hold 13 = .ok (.iload_n 2, 1) := sdX5_hold_0.2.2.2.2.2.2.2.1
theorem sdX5_hold_14 : dz_Seg cX5_hold [(14, .iload 4, 2), (16, .invokestatic 62, 3), (19, .aload_n 0, 1), (20, .getfield 21, 3), (23, .iload_n 3, 1), (24, .aload_n 1, 1), (25, .getfield 106, 3), (28, .iload_n 2, 1)] := dz_sg _ 14 (by decide +kernel)
theorem dX5_hold_14 : decode cX5_hold 14 = .ok (.iload 4, 2) := sdX5_hold_14.1
theorem dX5_hold_16 : decode cX5_hold 16 = .ok (.invokestatic 62, 3) := sdX5_hold_14.2.1
theorem dX5_hold_19 : decode cX5_hold 19 = .ok (.aload_n 0, 1) := sdX5_hold_14.2.2.1
theorem dX5_hold_20 : decode cX5_hold 20 = .ok (.getfield 21, 3) := sdX5_hold_14.2.2.2.1
theorem dX5_hold_23 : decode cX5_hold 23 = .ok (.iload_n 3, 1) := sdX5_hold_14.2.2.2.2.1
theorem dX5_hold_24 : decode cX5_hold 24 = .ok (.aload_n 1, 1) := sdX5_hold_14.2.2.2.2.2.1
theorem dX5_hold_25 : decode cX5_hold 25 = .ok (.getfield 106, 3) := sdX5_hold_14.2.2.2.2.2.2.1
theorem dX5_hold_28 : decode cX5_hold 28 = .ok (.iload_n 2, 1) := sdX5_hold_14.2.2.2.2.2.2.2.1
theorem sdX5_hold_29 : dz_Seg cX5_hold [(29, .invokestatic 69, 3), (32, .ineg, 1), (33, .invokestatic 109, 3), (36, .aload_n 0, 1), (37, .getfield 24, 3), (40, .iload_n 3, 1), (41, .aload_n 1, 1), (42, .getfield 122, 3)] := dz_sg _ 29 (by decide +kernel)
theorem dX5_hold_29 : decode cX5_hold 29 = .ok (.invokestatic 69, 3) := sdX5_hold_29.1
theorem dX5_hold_32 : decode cX5_hold 32 = .ok (.ineg, 1) := sdX5_hold_29.2.1
theorem dX5_hold_33 : decode cX5_hold 33 = .ok (.invokestatic 109, 3) := sdX5_hold_29.2.2.1
theorem dX5_hold_36 : decode cX5_hold 36 = .ok (.aload_n 0, 1) := sdX5_hold_29.2.2.2.1
theorem dX5_hold_37 : decode cX5_hold 37 = .ok (.getfield 24, 3) := sdX5_hold_29.2.2.2.2.1
theorem dX5_hold_40 : decode cX5_hold 40 = .ok (.iload_n 3, 1) := sdX5_hold_29.2.2.2.2.2.1
theorem dX5_hold_41 : decode cX5_hold 41 = .ok (.aload_n 1, 1) := sdX5_hold_29.2.2.2.2.2.2.1
theorem dX5_hold_42 : decode cX5_hold 42 = .ok (.getfield 122, 3) := sdX5_hold_29.2.2.2.2.2.2.2.1
theorem sdX5_hold_45 : dz_Seg cX5_hold [(45, .iload_n 2, 1), (46, .invokestatic 69, 3), (49, .ineg, 1), (50, .invokestatic 109, 3), (53, .return_, 1)] := dz_sg _ 45 (by decide +kernel)
theorem dX5_hold_45 : decode cX5_hold 45 = .ok (.iload_n 2, 1) := sdX5_hold_45.1
theorem dX5_hold_46 : decode cX5_hold 46 = .ok (.invokestatic 69, 3) := sdX5_hold_45.2.1
theorem dX5_hold_49 : decode cX5_hold 49 = .ok (.ineg, 1) := sdX5_hold_45.2.2.1
theorem dX5_hold_50 : decode cX5_hold 50 = .ok (.invokestatic 109, 3) := sdX5_hold_45.2.2.2.1
theorem dX5_hold_53 : decode cX5_hold 53 = .ok (.return_, 1) := sdX5_hold_45.2.2.2.2.1
theorem sdX5_hasFirst_0 : dz_Seg cX5_hasFirst [(0, .aload_n 0, 1), (1, .getfield 15, 3), (4, .iload_n 2, 1), (5, .invokestatic 69, 3), (8, .iconst (-1), 1), (9, .if_icmp .eq 24, 3), (12, .aload_n 0, 1), (13, .getfield 15, 3)] := dz_sg _ 0 (by decide +kernel)
theorem dX5_hasFirst_0 : decode cX5_hasFirst 0 = .ok (.aload_n 0, 1) := sdX5_hasFirst_0.1
theorem dX5_hasFirst_1 : decode cX5_hasFirst 1 = .ok (.getfield 15, 3) := sdX5_hasFirst_0.2.1
theorem dX5_hasFirst_4 : decode cX5_hasFirst 4 = .ok (.iload_n 2, 1) := sdX5_hasFirst_0.2.2.1
theorem dX5_hasFirst_5 : decode cX5_hasFirst 5 = .ok (.invokestatic 69, 3) := sdX5_hasFirst_0.2.2.2.1
theorem dX5_hasFirst_8 : decode cX5_hasFirst 8 = .ok (.iconst (-1), 1) := sdX5_hasFirst_0.2.2.2.2.1
theorem dX5_hasFirst_9 : decode cX5_hasFirst 9 = .ok (.if_icmp .eq 24, 3) := sdX5_hasFirst_0.2.2.2.2.2.1
theorem dX5_hasFirst_12 : decode cX5_hasFirst 12 = .ok (.aload_n 0, 1) := sdX5_hasFirst_0.2.2.2.2.2.2.1
theorem dX5_hasFirst_13 : decode cX5_hasFirst 13 = .ok (.getfield 15, 3) := sdX5_hasFirst_0.2.2.2.2.2.2.2.1
theorem sdX5_hasFirst_16 : dz_Seg cX5_hasFirst [(16, .iload_n 2, 1), (17, .invokestatic 69, 3), (20, .aload_n 1, 1), (21, .iload_n 2, 1), (22, .iconst 0, 1), (23, .invokevirtual 98, 3), (26, .if_icmp .ne 7, 3), (29, .iconst 1, 1)] := dz_sg _ 16 (by decide +kernel)
theorem dX5_hasFirst_16 : decode cX5_hasFirst 16 = .ok (.iload_n 2, 1) := sdX5_hasFirst_16.1
theorem dX5_hasFirst_17 : decode cX5_hasFirst 17 = .ok (.invokestatic 69, 3) := sdX5_hasFirst_16.2.1
theorem dX5_hasFirst_20 : decode cX5_hasFirst 20 = .ok (.aload_n 1, 1) := sdX5_hasFirst_16.2.2.1
theorem dX5_hasFirst_21 : decode cX5_hasFirst 21 = .ok (.iload_n 2, 1) := sdX5_hasFirst_16.2.2.2.1
theorem dX5_hasFirst_22 : decode cX5_hasFirst 22 = .ok (.iconst 0, 1) := sdX5_hasFirst_16.2.2.2.2.1
theorem dX5_hasFirst_23 : decode cX5_hasFirst 23 = .ok (.invokevirtual 98, 3) := sdX5_hasFirst_16.2.2.2.2.2.1
theorem dX5_hasFirst_26 : decode cX5_hasFirst 26 = .ok (.if_icmp .ne 7, 3) := sdX5_hasFirst_16.2.2.2.2.2.2.1
theorem dX5_hasFirst_29 : decode cX5_hasFirst 29 = .ok (.iconst 1, 1) := sdX5_hasFirst_16.2.2.2.2.2.2.2.1
theorem sdX5_hasFirst_30 : dz_Seg cX5_hasFirst [(30, .goto 4, 3), (33, .iconst 0, 1), (34, .ireturn, 1)] := dz_sg _ 30 (by decide +kernel)
theorem dX5_hasFirst_30 : decode cX5_hasFirst 30 = .ok (.goto 4, 3) := sdX5_hasFirst_30.1
theorem dX5_hasFirst_33 : decode cX5_hasFirst 33 = .ok (.iconst 0, 1) := sdX5_hasFirst_30.2.1
theorem dX5_hasFirst_34 : decode cX5_hasFirst 34 = .ok (.ireturn, 1) := sdX5_hasFirst_30.2.2.1
theorem sdX5_holders_0 : dz_Seg cX5_holders [(0, .iconst 0, 1), (1, .istore_n 3, 1), (2, .iconst 0, 1), (3, .istore 4, 2), (5, .iload 4, 2), (7, .aload_n 1, 1), (8, .getfield 47, 3), (11, .if_icmp .ge 30, 3)] := dz_sg _ 0 (by decide +kernel)
theorem dX5_holders_0 : decode cX5_holders 0 = .ok (.iconst 0, 1) := sdX5_holders_0.1
theorem dX5_holders_1 : decode cX5_holders 1 = .ok (.istore_n 3, 1) := sdX5_holders_0.2.1
theorem dX5_holders_2 : decode cX5_holders 2 = .ok (.iconst 0, 1) := sdX5_holders_0.2.2.1
theorem dX5_holders_3 : decode cX5_holders 3 = .ok (.istore 4, 2) := sdX5_holders_0.2.2.2.1
theorem dX5_holders_5 : decode cX5_holders 5 = .ok (.iload 4, 2) := sdX5_holders_0.2.2.2.2.1
theorem dX5_holders_7 : decode cX5_holders 7 = .ok (.aload_n 1, 1) := sdX5_holders_0.2.2.2.2.2.1
theorem dX5_holders_8 : decode cX5_holders 8 = .ok (.getfield 47, 3) := sdX5_holders_0.2.2.2.2.2.2.1
theorem dX5_holders_11 : decode cX5_holders 11 = .ok (.if_icmp .ge 30, 3) := sdX5_holders_0.2.2.2.2.2.2.2.1
theorem sdX5_holders_14 : dz_Seg cX5_holders [(14, .iload_n 3, 1), (15, .aload_n 0, 1), (16, .getfield 15, 3), (19, .iload 4, 2), (21, .invokestatic 69, 3), (24, .iload_n 2, 1), (25, .if_icmp .ne 7, 3), (28, .iconst 1, 1)] := dz_sg _ 14 (by decide +kernel)
theorem dX5_holders_14 : decode cX5_holders 14 = .ok (.iload_n 3, 1) := sdX5_holders_14.1
theorem dX5_holders_15 : decode cX5_holders 15 = .ok (.aload_n 0, 1) := sdX5_holders_14.2.1
theorem dX5_holders_16 : decode cX5_holders 16 = .ok (.getfield 15, 3) := sdX5_holders_14.2.2.1
theorem dX5_holders_19 : decode cX5_holders 19 = .ok (.iload 4, 2) := sdX5_holders_14.2.2.2.1
theorem dX5_holders_21 : decode cX5_holders 21 = .ok (.invokestatic 69, 3) := sdX5_holders_14.2.2.2.2.1
theorem dX5_holders_24 : decode cX5_holders 24 = .ok (.iload_n 2, 1) := sdX5_holders_14.2.2.2.2.2.1
theorem dX5_holders_25 : decode cX5_holders 25 = .ok (.if_icmp .ne 7, 3) := sdX5_holders_14.2.2.2.2.2.2.1
theorem dX5_holders_28 : decode cX5_holders 28 = .ok (.iconst 1, 1) := sdX5_holders_14.2.2.2.2.2.2.2.1
theorem sdX5_holders_29 : dz_Seg cX5_holders [(29, .goto 4, 3), (32, .iconst 0, 1), (33, .iadd, 1), (34, .istore_n 3, 1), (35, .iinc 4 1, 3), (38, .goto (-33), 3), (41, .iload_n 3, 1), (42, .ireturn, 1)] := dz_sg _ 29 (by decide +kernel)
theorem dX5_holders_29 : decode cX5_holders 29 = .ok (.goto 4, 3) := sdX5_holders_29.1
theorem dX5_holders_32 : decode cX5_holders 32 = .ok (.iconst 0, 1) := sdX5_holders_29.2.1
theorem dX5_holders_33 : decode cX5_holders 33 = .ok (.iadd, 1) := sdX5_holders_29.2.2.1
theorem dX5_holders_34 : decode cX5_holders 34 = .ok (.istore_n 3, 1) := sdX5_holders_29.2.2.2.1
theorem dX5_holders_35 : decode cX5_holders 35 = .ok (.iinc 4 1, 3) := sdX5_holders_29.2.2.2.2.1
theorem dX5_holders_38 : decode cX5_holders 38 = .ok (.goto (-33), 3) := sdX5_holders_29.2.2.2.2.2.1
theorem dX5_holders_41 : decode cX5_holders 41 = .ok (.iload_n 3, 1) := sdX5_holders_29.2.2.2.2.2.2.1
theorem dX5_holders_42 : decode cX5_holders 42 = .ok (.ireturn, 1) := sdX5_holders_29.2.2.2.2.2.2.2.1
theorem sdX5_fewestPoints_0 : dz_Seg cX5_fewestPoints [(0, .iconst (-1), 1), (1, .istore_n 3, 1), (2, .iconst 0, 1), (3, .istore 4, 2), (5, .iload 4, 2), (7, .aload_n 1, 1), (8, .getfield 47, 3), (11, .if_icmp .ge 50, 3)] := dz_sg _ 0 (by decide +kernel)
theorem dX5_fewestPoints_0 : decode cX5_fewestPoints 0 = .ok (.iconst (-1), 1) := sdX5_fewestPoints_0.1
theorem dX5_fewestPoints_1 : decode cX5_fewestPoints 1 = .ok (.istore_n 3, 1) := sdX5_fewestPoints_0.2.1
theorem dX5_fewestPoints_2 : decode cX5_fewestPoints 2 = .ok (.iconst 0, 1) := sdX5_fewestPoints_0.2.2.1
theorem dX5_fewestPoints_3 : decode cX5_fewestPoints 3 = .ok (.istore 4, 2) := sdX5_fewestPoints_0.2.2.2.1
theorem dX5_fewestPoints_5 : decode cX5_fewestPoints 5 = .ok (.iload 4, 2) := sdX5_fewestPoints_0.2.2.2.2.1
theorem dX5_fewestPoints_7 : decode cX5_fewestPoints 7 = .ok (.aload_n 1, 1) := sdX5_fewestPoints_0.2.2.2.2.2.1
theorem dX5_fewestPoints_8 : decode cX5_fewestPoints 8 = .ok (.getfield 47, 3) := sdX5_fewestPoints_0.2.2.2.2.2.2.1
theorem dX5_fewestPoints_11 : decode cX5_fewestPoints 11 = .ok (.if_icmp .ge 50, 3) := sdX5_fewestPoints_0.2.2.2.2.2.2.2.1
theorem sdX5_fewestPoints_14 : dz_Seg cX5_fewestPoints [(14, .aload_n 0, 1), (15, .getfield 15, 3), (18, .iload 4, 2), (20, .invokestatic 69, 3), (23, .iload_n 2, 1), (24, .if_icmp .ne 31, 3), (27, .iload_n 3, 1), (28, .iconst (-1), 1)] := dz_sg _ 14 (by decide +kernel)
theorem dX5_fewestPoints_14 : decode cX5_fewestPoints 14 = .ok (.aload_n 0, 1) := sdX5_fewestPoints_14.1
theorem dX5_fewestPoints_15 : decode cX5_fewestPoints 15 = .ok (.getfield 15, 3) := sdX5_fewestPoints_14.2.1
theorem dX5_fewestPoints_18 : decode cX5_fewestPoints 18 = .ok (.iload 4, 2) := sdX5_fewestPoints_14.2.2.1
theorem dX5_fewestPoints_20 : decode cX5_fewestPoints 20 = .ok (.invokestatic 69, 3) := sdX5_fewestPoints_14.2.2.2.1
theorem dX5_fewestPoints_23 : decode cX5_fewestPoints 23 = .ok (.iload_n 2, 1) := sdX5_fewestPoints_14.2.2.2.2.1
theorem dX5_fewestPoints_24 : decode cX5_fewestPoints 24 = .ok (.if_icmp .ne 31, 3) := sdX5_fewestPoints_14.2.2.2.2.2.1
theorem dX5_fewestPoints_27 : decode cX5_fewestPoints 27 = .ok (.iload_n 3, 1) := sdX5_fewestPoints_14.2.2.2.2.2.2.1
theorem dX5_fewestPoints_28 : decode cX5_fewestPoints 28 = .ok (.iconst (-1), 1) := sdX5_fewestPoints_14.2.2.2.2.2.2.2.1
theorem sdX5_fewestPoints_29 : dz_Seg cX5_fewestPoints [(29, .if_icmp .eq 16, 3), (32, .aload_n 1, 1), (33, .getfield 116, 3), (36, .iload 4, 2), (38, .invokestatic 69, 3), (41, .iload_n 3, 1), (42, .if_icmp .ge 13, 3), (45, .aload_n 1, 1)] := dz_sg _ 29 (by decide +kernel)
theorem dX5_fewestPoints_29 : decode cX5_fewestPoints 29 = .ok (.if_icmp .eq 16, 3) := sdX5_fewestPoints_29.1
theorem dX5_fewestPoints_32 : decode cX5_fewestPoints 32 = .ok (.aload_n 1, 1) := sdX5_fewestPoints_29.2.1
theorem dX5_fewestPoints_33 : decode cX5_fewestPoints 33 = .ok (.getfield 116, 3) := sdX5_fewestPoints_29.2.2.1
theorem dX5_fewestPoints_36 : decode cX5_fewestPoints 36 = .ok (.iload 4, 2) := sdX5_fewestPoints_29.2.2.2.1
theorem dX5_fewestPoints_38 : decode cX5_fewestPoints 38 = .ok (.invokestatic 69, 3) := sdX5_fewestPoints_29.2.2.2.2.1
theorem dX5_fewestPoints_41 : decode cX5_fewestPoints 41 = .ok (.iload_n 3, 1) := sdX5_fewestPoints_29.2.2.2.2.2.1
theorem dX5_fewestPoints_42 : decode cX5_fewestPoints 42 = .ok (.if_icmp .ge 13, 3) := sdX5_fewestPoints_29.2.2.2.2.2.2.1
theorem dX5_fewestPoints_45 : decode cX5_fewestPoints 45 = .ok (.aload_n 1, 1) := sdX5_fewestPoints_29.2.2.2.2.2.2.2.1
theorem sdX5_fewestPoints_46 : dz_Seg cX5_fewestPoints [(46, .getfield 116, 3), (49, .iload 4, 2), (51, .invokestatic 69, 3), (54, .istore_n 3, 1), (55, .iinc 4 1, 3), (58, .goto (-53), 3), (61, .iload_n 3, 1), (62, .ireturn, 1)] := dz_sg _ 46 (by decide +kernel)
theorem dX5_fewestPoints_46 : decode cX5_fewestPoints 46 = .ok (.getfield 116, 3) := sdX5_fewestPoints_46.1
theorem dX5_fewestPoints_49 : decode cX5_fewestPoints 49 = .ok (.iload 4, 2) := sdX5_fewestPoints_46.2.1
theorem dX5_fewestPoints_51 : decode cX5_fewestPoints 51 = .ok (.invokestatic 69, 3) := sdX5_fewestPoints_46.2.2.1
theorem dX5_fewestPoints_54 : decode cX5_fewestPoints 54 = .ok (.istore_n 3, 1) := sdX5_fewestPoints_46.2.2.2.1
theorem dX5_fewestPoints_55 : decode cX5_fewestPoints 55 = .ok (.iinc 4 1, 3) := sdX5_fewestPoints_46.2.2.2.2.1
theorem dX5_fewestPoints_58 : decode cX5_fewestPoints 58 = .ok (.goto (-53), 3) := sdX5_fewestPoints_46.2.2.2.2.2.1
theorem dX5_fewestPoints_61 : decode cX5_fewestPoints 61 = .ok (.iload_n 3, 1) := sdX5_fewestPoints_46.2.2.2.2.2.2.1
theorem dX5_fewestPoints_62 : decode cX5_fewestPoints 62 = .ok (.ireturn, 1) := sdX5_fewestPoints_46.2.2.2.2.2.2.2.1
theorem sdX5_scoreBehind_0 : dz_Seg cX5_scoreBehind [(0, .aload_n 1, 1), (1, .getfield 119, 3), (4, .iload_n 2, 1), (5, .invokestatic 69, 3), (8, .ifCond .ne 5, 3), (11, .iload_n 3, 1), (12, .ireturn, 1), (13, .aload_n 0, 1)] := dz_sg _ 0 (by decide +kernel)
theorem dX5_scoreBehind_0 : decode cX5_scoreBehind 0 = .ok (.aload_n 1, 1) := sdX5_scoreBehind_0.1
theorem dX5_scoreBehind_1 : decode cX5_scoreBehind 1 = .ok (.getfield 119, 3) := sdX5_scoreBehind_0.2.1
theorem dX5_scoreBehind_4 : decode cX5_scoreBehind 4 = .ok (.iload_n 2, 1) := sdX5_scoreBehind_0.2.2.1
theorem dX5_scoreBehind_5 : decode cX5_scoreBehind 5 = .ok (.invokestatic 69, 3) := sdX5_scoreBehind_0.2.2.2.1
theorem dX5_scoreBehind_8 : decode cX5_scoreBehind 8 = .ok (.ifCond .ne 5, 3) := sdX5_scoreBehind_0.2.2.2.2.1
theorem dX5_scoreBehind_11 : decode cX5_scoreBehind 11 = .ok (.iload_n 3, 1) := sdX5_scoreBehind_0.2.2.2.2.2.1
theorem dX5_scoreBehind_12 : decode cX5_scoreBehind 12 = .ok (.ireturn, 1) := sdX5_scoreBehind_0.2.2.2.2.2.2.1
theorem dX5_scoreBehind_13 : decode cX5_scoreBehind 13 = .ok (.aload_n 0, 1) := sdX5_scoreBehind_0.2.2.2.2.2.2.2.1
theorem sdX5_scoreBehind_14 : dz_Seg cX5_scoreBehind [(14, .getfield 15, 3), (17, .iload_n 2, 1), (18, .invokestatic 69, 3), (21, .iconst (-1), 1), (22, .if_icmp .ne 12, 3), (25, .iload_n 3, 1), (26, .iconst 1, 1), (27, .iadd, 1)] := dz_sg _ 14 (by decide +kernel)
theorem dX5_scoreBehind_14 : decode cX5_scoreBehind 14 = .ok (.getfield 15, 3) := sdX5_scoreBehind_14.1
theorem dX5_scoreBehind_17 : decode cX5_scoreBehind 17 = .ok (.iload_n 2, 1) := sdX5_scoreBehind_14.2.1
theorem dX5_scoreBehind_18 : decode cX5_scoreBehind 18 = .ok (.invokestatic 69, 3) := sdX5_scoreBehind_14.2.2.1
theorem dX5_scoreBehind_21 : decode cX5_scoreBehind 21 = .ok (.iconst (-1), 1) := sdX5_scoreBehind_14.2.2.2.1
theorem dX5_scoreBehind_22 : decode cX5_scoreBehind 22 = .ok (.if_icmp .ne 12, 3) := sdX5_scoreBehind_14.2.2.2.2.1
theorem dX5_scoreBehind_25 : decode cX5_scoreBehind 25 = .ok (.iload_n 3, 1) := sdX5_scoreBehind_14.2.2.2.2.2.1
theorem dX5_scoreBehind_26 : decode cX5_scoreBehind 26 = .ok (.iconst 1, 1) := sdX5_scoreBehind_14.2.2.2.2.2.2.1
theorem dX5_scoreBehind_27 : decode cX5_scoreBehind 27 = .ok (.iadd, 1) := sdX5_scoreBehind_14.2.2.2.2.2.2.2.1
theorem sdX5_scoreBehind_28 : dz_Seg cX5_scoreBehind [(28, .bipush 20, 2), (30, .invokestatic 128, 3), (33, .ireturn, 1), (34, .aload_n 0, 1), (35, .aload_n 1, 1), (36, .iload_n 2, 1), (37, .invokevirtual 133, 3), (40, .ifCond .eq 7, 3)] := dz_sg _ 28 (by decide +kernel)
theorem dX5_scoreBehind_28 : decode cX5_scoreBehind 28 = .ok (.bipush 20, 2) := sdX5_scoreBehind_28.1
theorem dX5_scoreBehind_30 : decode cX5_scoreBehind 30 = .ok (.invokestatic 128, 3) := sdX5_scoreBehind_28.2.1
theorem dX5_scoreBehind_33 : decode cX5_scoreBehind 33 = .ok (.ireturn, 1) := sdX5_scoreBehind_28.2.2.1
theorem dX5_scoreBehind_34 : decode cX5_scoreBehind 34 = .ok (.aload_n 0, 1) := sdX5_scoreBehind_28.2.2.2.1
theorem dX5_scoreBehind_35 : decode cX5_scoreBehind 35 = .ok (.aload_n 1, 1) := sdX5_scoreBehind_28.2.2.2.2.1
theorem dX5_scoreBehind_36 : decode cX5_scoreBehind 36 = .ok (.iload_n 2, 1) := sdX5_scoreBehind_28.2.2.2.2.2.1
theorem dX5_scoreBehind_37 : decode cX5_scoreBehind 37 = .ok (.invokevirtual 133, 3) := sdX5_scoreBehind_28.2.2.2.2.2.2.1
theorem dX5_scoreBehind_40 : decode cX5_scoreBehind 40 = .ok (.ifCond .eq 7, 3) := sdX5_scoreBehind_28.2.2.2.2.2.2.2.1
theorem sdX5_scoreBehind_43 : dz_Seg cX5_scoreBehind [(43, .iconst 0, 1), (44, .goto 4, 3), (47, .iload_n 3, 1), (48, .ireturn, 1)] := dz_sg _ 43 (by decide +kernel)
theorem dX5_scoreBehind_43 : decode cX5_scoreBehind 43 = .ok (.iconst 0, 1) := sdX5_scoreBehind_43.1
theorem dX5_scoreBehind_44 : decode cX5_scoreBehind 44 = .ok (.goto 4, 3) := sdX5_scoreBehind_43.2.1
theorem dX5_scoreBehind_47 : decode cX5_scoreBehind 47 = .ok (.iload_n 3, 1) := sdX5_scoreBehind_43.2.2.1
theorem dX5_scoreBehind_48 : decode cX5_scoreBehind 48 = .ok (.ireturn, 1) := sdX5_scoreBehind_43.2.2.2.1
theorem sdX6_init_0 : dz_Seg cX6_init [(0, .aload_n 0, 1), (1, .invokespecial 3, 3), (4, .aload_n 0, 1), (5, .bipush 10, 2), (7, .newarray .int, 2), (9, .putfield 9, 3), (12, .aload_n 0, 1), (13, .bipush 10, 2)] := dz_sg _ 0 (by decide +kernel)
theorem dX6_init_0 : decode cX6_init 0 = .ok (.aload_n 0, 1) := sdX6_init_0.1
theorem dX6_init_1 : decode cX6_init 1 = .ok (.invokespecial 3, 3) := sdX6_init_0.2.1
theorem dX6_init_4 : decode cX6_init 4 = .ok (.aload_n 0, 1) := sdX6_init_0.2.2.1
theorem dX6_init_5 : decode cX6_init 5 = .ok (.bipush 10, 2) := sdX6_init_0.2.2.2.1
theorem dX6_init_7 : decode cX6_init 7 = .ok (.newarray .int, 2) := sdX6_init_0.2.2.2.2.1
theorem dX6_init_9 : decode cX6_init 9 = .ok (.putfield 9, 3) := sdX6_init_0.2.2.2.2.2.1
theorem dX6_init_12 : decode cX6_init 12 = .ok (.aload_n 0, 1) := sdX6_init_0.2.2.2.2.2.2.1
theorem dX6_init_13 : decode cX6_init 13 = .ok (.bipush 10, 2) := sdX6_init_0.2.2.2.2.2.2.2.1
theorem sdX6_init_15 : dz_Seg cX6_init [(15, .newarray .int, 2), (17, .putfield 15, 3), (20, .aload_n 0, 1), (21, .bipush 10, 2), (23, .newarray .int, 2), (25, .putfield 18, 3), (28, .aload_n 0, 1), (29, .new 21, 3)] := dz_sg _ 15 (by decide +kernel)
theorem dX6_init_15 : decode cX6_init 15 = .ok (.newarray .int, 2) := sdX6_init_15.1
theorem dX6_init_17 : decode cX6_init 17 = .ok (.putfield 15, 3) := sdX6_init_15.2.1
theorem dX6_init_20 : decode cX6_init 20 = .ok (.aload_n 0, 1) := sdX6_init_15.2.2.1
theorem dX6_init_21 : decode cX6_init 21 = .ok (.bipush 10, 2) := sdX6_init_15.2.2.2.1
theorem dX6_init_23 : decode cX6_init 23 = .ok (.newarray .int, 2) := sdX6_init_15.2.2.2.2.1
theorem dX6_init_25 : decode cX6_init 25 = .ok (.putfield 18, 3) := sdX6_init_15.2.2.2.2.2.1
theorem dX6_init_28 : decode cX6_init 28 = .ok (.aload_n 0, 1) := sdX6_init_15.2.2.2.2.2.2.1
theorem dX6_init_29 : decode cX6_init 29 = .ok (.new 21, 3) := sdX6_init_15.2.2.2.2.2.2.2.1
theorem sdX6_init_32 : dz_Seg cX6_init [(32, .dup, 1), (33, .invokespecial 23, 3), (36, .putfield 24, 3), (39, .aload_n 0, 1), (40, .new 28, 3), (43, .dup, 1), (44, .invokespecial 30, 3), (47, .putfield 31, 3)] := dz_sg _ 32 (by decide +kernel)
theorem dX6_init_32 : decode cX6_init 32 = .ok (.dup, 1) := sdX6_init_32.1
theorem dX6_init_33 : decode cX6_init 33 = .ok (.invokespecial 23, 3) := sdX6_init_32.2.1
theorem dX6_init_36 : decode cX6_init 36 = .ok (.putfield 24, 3) := sdX6_init_32.2.2.1
theorem dX6_init_39 : decode cX6_init 39 = .ok (.aload_n 0, 1) := sdX6_init_32.2.2.2.1
theorem dX6_init_40 : decode cX6_init 40 = .ok (.new 28, 3) := sdX6_init_32.2.2.2.2.1
theorem dX6_init_43 : decode cX6_init 43 = .ok (.dup, 1) := sdX6_init_32.2.2.2.2.2.1
theorem dX6_init_44 : decode cX6_init 44 = .ok (.invokespecial 30, 3) := sdX6_init_32.2.2.2.2.2.2.1
theorem dX6_init_47 : decode cX6_init 47 = .ok (.putfield 31, 3) := sdX6_init_32.2.2.2.2.2.2.2.1
theorem sdX6_init_50 : dz_Seg cX6_init [(50, .aload_n 0, 1), (51, .new 35, 3), (54, .dup, 1), (55, .invokespecial 37, 3), (58, .putfield 38, 3), (61, .return_, 1)] := dz_sg _ 50 (by decide +kernel)
theorem dX6_init_50 : decode cX6_init 50 = .ok (.aload_n 0, 1) := sdX6_init_50.1
theorem dX6_init_51 : decode cX6_init 51 = .ok (.new 35, 3) := sdX6_init_50.2.1
theorem dX6_init_54 : decode cX6_init 54 = .ok (.dup, 1) := sdX6_init_50.2.2.1
theorem dX6_init_55 : decode cX6_init 55 = .ok (.invokespecial 37, 3) := sdX6_init_50.2.2.2.1
theorem dX6_init_58 : decode cX6_init 58 = .ok (.putfield 38, 3) := sdX6_init_50.2.2.2.2.1
theorem dX6_init_61 : decode cX6_init 61 = .ok (.return_, 1) := sdX6_init_50.2.2.2.2.2.1
theorem sdX7_init_0 : dz_Seg cX7_init [(0, .aload_n 0, 1), (1, .invokespecial 1, 3), (4, .aload_n 0, 1), (5, .sipush 700, 3), (8, .newarray .int, 2), (10, .putfield 9, 3), (13, .aload_n 0, 1), (14, .bipush 50, 2)] := dz_sg _ 0 (by decide +kernel)
theorem dX7_init_0 : decode cX7_init 0 = .ok (.aload_n 0, 1) := sdX7_init_0.1
theorem dX7_init_1 : decode cX7_init 1 = .ok (.invokespecial 1, 3) := sdX7_init_0.2.1
theorem dX7_init_4 : decode cX7_init 4 = .ok (.aload_n 0, 1) := sdX7_init_0.2.2.1
theorem dX7_init_5 : decode cX7_init 5 = .ok (.sipush 700, 3) := sdX7_init_0.2.2.2.1
theorem dX7_init_8 : decode cX7_init 8 = .ok (.newarray .int, 2) := sdX7_init_0.2.2.2.2.1
theorem dX7_init_10 : decode cX7_init 10 = .ok (.putfield 9, 3) := sdX7_init_0.2.2.2.2.2.1
theorem dX7_init_13 : decode cX7_init 13 = .ok (.aload_n 0, 1) := sdX7_init_0.2.2.2.2.2.2.1
theorem dX7_init_14 : decode cX7_init 14 = .ok (.bipush 50, 2) := sdX7_init_0.2.2.2.2.2.2.2.1
theorem sdX7_init_16 : dz_Seg cX7_init [(16, .newarray .int, 2), (18, .putfield 13, 3), (21, .aload_n 0, 1), (22, .new 16, 3), (25, .dup, 1), (26, .invokespecial 18, 3), (29, .putfield 19, 3), (32, .aload_n 0, 1)] := dz_sg _ 16 (by decide +kernel)
theorem dX7_init_16 : decode cX7_init 16 = .ok (.newarray .int, 2) := sdX7_init_16.1
theorem dX7_init_18 : decode cX7_init 18 = .ok (.putfield 13, 3) := sdX7_init_16.2.1
theorem dX7_init_21 : decode cX7_init 21 = .ok (.aload_n 0, 1) := sdX7_init_16.2.2.1
theorem dX7_init_22 : decode cX7_init 22 = .ok (.new 16, 3) := sdX7_init_16.2.2.2.1
theorem dX7_init_25 : decode cX7_init 25 = .ok (.dup, 1) := sdX7_init_16.2.2.2.2.1
theorem dX7_init_26 : decode cX7_init 26 = .ok (.invokespecial 18, 3) := sdX7_init_16.2.2.2.2.2.1
theorem dX7_init_29 : decode cX7_init 29 = .ok (.putfield 19, 3) := sdX7_init_16.2.2.2.2.2.2.1
theorem dX7_init_32 : decode cX7_init 32 = .ok (.aload_n 0, 1) := sdX7_init_16.2.2.2.2.2.2.2.1
theorem sdX7_init_33 : dz_Seg cX7_init [(33, .new 23, 3), (36, .dup, 1), (37, .invokespecial 25, 3), (40, .putfield 26, 3), (43, .aload_n 0, 1), (44, .new 30, 3), (47, .dup, 1), (48, .invokespecial 32, 3)] := dz_sg _ 33 (by decide +kernel)
theorem dX7_init_33 : decode cX7_init 33 = .ok (.new 23, 3) := sdX7_init_33.1
theorem dX7_init_36 : decode cX7_init 36 = .ok (.dup, 1) := sdX7_init_33.2.1
theorem dX7_init_37 : decode cX7_init 37 = .ok (.invokespecial 25, 3) := sdX7_init_33.2.2.1
theorem dX7_init_40 : decode cX7_init 40 = .ok (.putfield 26, 3) := sdX7_init_33.2.2.2.1
theorem dX7_init_43 : decode cX7_init 43 = .ok (.aload_n 0, 1) := sdX7_init_33.2.2.2.2.1
theorem dX7_init_44 : decode cX7_init 44 = .ok (.new 30, 3) := sdX7_init_33.2.2.2.2.2.1
theorem dX7_init_47 : decode cX7_init 47 = .ok (.dup, 1) := sdX7_init_33.2.2.2.2.2.2.1
theorem dX7_init_48 : decode cX7_init 48 = .ok (.invokespecial 32, 3) := sdX7_init_33.2.2.2.2.2.2.2.1
theorem sdX7_init_51 : dz_Seg cX7_init [(51, .putfield 33, 3), (54, .aload_n 0, 1), (55, .new 37, 3), (58, .dup, 1), (59, .invokespecial 39, 3), (62, .putfield 40, 3), (65, .aload_n 0, 1), (66, .new 44, 3)] := dz_sg _ 51 (by decide +kernel)
theorem dX7_init_51 : decode cX7_init 51 = .ok (.putfield 33, 3) := sdX7_init_51.1
theorem dX7_init_54 : decode cX7_init 54 = .ok (.aload_n 0, 1) := sdX7_init_51.2.1
theorem dX7_init_55 : decode cX7_init 55 = .ok (.new 37, 3) := sdX7_init_51.2.2.1
theorem dX7_init_58 : decode cX7_init 58 = .ok (.dup, 1) := sdX7_init_51.2.2.2.1
theorem dX7_init_59 : decode cX7_init 59 = .ok (.invokespecial 39, 3) := sdX7_init_51.2.2.2.2.1
theorem dX7_init_62 : decode cX7_init 62 = .ok (.putfield 40, 3) := sdX7_init_51.2.2.2.2.2.1
theorem dX7_init_65 : decode cX7_init 65 = .ok (.aload_n 0, 1) := sdX7_init_51.2.2.2.2.2.2.1
theorem dX7_init_66 : decode cX7_init 66 = .ok (.new 44, 3) := sdX7_init_51.2.2.2.2.2.2.2.1
theorem sdX7_init_69 : dz_Seg cX7_init [(69, .dup, 1), (70, .invokespecial 46, 3), (73, .putfield 47, 3), (76, .aload_n 0, 1), (77, .new 51, 3), (80, .dup, 1), (81, .invokespecial 53, 3), (84, .putfield 54, 3)] := dz_sg _ 69 (by decide +kernel)
theorem dX7_init_69 : decode cX7_init 69 = .ok (.dup, 1) := sdX7_init_69.1
theorem dX7_init_70 : decode cX7_init 70 = .ok (.invokespecial 46, 3) := sdX7_init_69.2.1
theorem dX7_init_73 : decode cX7_init 73 = .ok (.putfield 47, 3) := sdX7_init_69.2.2.1
theorem dX7_init_76 : decode cX7_init 76 = .ok (.aload_n 0, 1) := sdX7_init_69.2.2.2.1
theorem dX7_init_77 : decode cX7_init 77 = .ok (.new 51, 3) := sdX7_init_69.2.2.2.2.1
theorem dX7_init_80 : decode cX7_init 80 = .ok (.dup, 1) := sdX7_init_69.2.2.2.2.2.1
theorem dX7_init_81 : decode cX7_init 81 = .ok (.invokespecial 53, 3) := sdX7_init_69.2.2.2.2.2.2.1
theorem dX7_init_84 : decode cX7_init 84 = .ok (.putfield 54, 3) := sdX7_init_69.2.2.2.2.2.2.2.1
theorem sdX7_init_87 : dz_Seg cX7_init [(87, .aload_n 0, 1), (88, .new 58, 3), (91, .dup, 1), (92, .invokespecial 60, 3), (95, .putfield 61, 3), (98, .aload_n 0, 1), (99, .new 23, 3), (102, .dup, 1)] := dz_sg _ 87 (by decide +kernel)
theorem dX7_init_87 : decode cX7_init 87 = .ok (.aload_n 0, 1) := sdX7_init_87.1
theorem dX7_init_88 : decode cX7_init 88 = .ok (.new 58, 3) := sdX7_init_87.2.1
theorem dX7_init_91 : decode cX7_init 91 = .ok (.dup, 1) := sdX7_init_87.2.2.1
theorem dX7_init_92 : decode cX7_init 92 = .ok (.invokespecial 60, 3) := sdX7_init_87.2.2.2.1
theorem dX7_init_95 : decode cX7_init 95 = .ok (.putfield 61, 3) := sdX7_init_87.2.2.2.2.1
theorem dX7_init_98 : decode cX7_init 98 = .ok (.aload_n 0, 1) := sdX7_init_87.2.2.2.2.2.1
theorem dX7_init_99 : decode cX7_init 99 = .ok (.new 23, 3) := sdX7_init_87.2.2.2.2.2.2.1
theorem dX7_init_102 : decode cX7_init 102 = .ok (.dup, 1) := sdX7_init_87.2.2.2.2.2.2.2.1
theorem sdX7_init_103 : dz_Seg cX7_init [(103, .invokespecial 25, 3), (106, .putfield 65, 3), (109, .aload_n 0, 1), (110, .new 37, 3), (113, .dup, 1), (114, .invokespecial 39, 3), (117, .putfield 68, 3), (120, .aload_n 0, 1)] := dz_sg _ 103 (by decide +kernel)
theorem dX7_init_103 : decode cX7_init 103 = .ok (.invokespecial 25, 3) := sdX7_init_103.1
theorem dX7_init_106 : decode cX7_init 106 = .ok (.putfield 65, 3) := sdX7_init_103.2.1
theorem dX7_init_109 : decode cX7_init 109 = .ok (.aload_n 0, 1) := sdX7_init_103.2.2.1
theorem dX7_init_110 : decode cX7_init 110 = .ok (.new 37, 3) := sdX7_init_103.2.2.2.1
theorem dX7_init_113 : decode cX7_init 113 = .ok (.dup, 1) := sdX7_init_103.2.2.2.2.1
theorem dX7_init_114 : decode cX7_init 114 = .ok (.invokespecial 39, 3) := sdX7_init_103.2.2.2.2.2.1
theorem dX7_init_117 : decode cX7_init 117 = .ok (.putfield 68, 3) := sdX7_init_103.2.2.2.2.2.2.1
theorem dX7_init_120 : decode cX7_init 120 = .ok (.aload_n 0, 1) := sdX7_init_103.2.2.2.2.2.2.2.1
theorem sdX7_init_121 : dz_Seg cX7_init [(121, .new 44, 3), (124, .dup, 1), (125, .invokespecial 46, 3), (128, .putfield 71, 3), (131, .aload_n 0, 1), (132, .new 51, 3), (135, .dup, 1), (136, .invokespecial 53, 3)] := dz_sg _ 121 (by decide +kernel)
theorem dX7_init_121 : decode cX7_init 121 = .ok (.new 44, 3) := sdX7_init_121.1
theorem dX7_init_124 : decode cX7_init 124 = .ok (.dup, 1) := sdX7_init_121.2.1
theorem dX7_init_125 : decode cX7_init 125 = .ok (.invokespecial 46, 3) := sdX7_init_121.2.2.1
theorem dX7_init_128 : decode cX7_init 128 = .ok (.putfield 71, 3) := sdX7_init_121.2.2.2.1
theorem dX7_init_131 : decode cX7_init 131 = .ok (.aload_n 0, 1) := sdX7_init_121.2.2.2.2.1
theorem dX7_init_132 : decode cX7_init 132 = .ok (.new 51, 3) := sdX7_init_121.2.2.2.2.2.1
theorem dX7_init_135 : decode cX7_init 135 = .ok (.dup, 1) := sdX7_init_121.2.2.2.2.2.2.1
theorem dX7_init_136 : decode cX7_init 136 = .ok (.invokespecial 53, 3) := sdX7_init_121.2.2.2.2.2.2.2.1
theorem sdX7_init_139 : dz_Seg cX7_init [(139, .putfield 74, 3), (142, .aload_n 0, 1), (143, .getfield 26, 3), (146, .invokevirtual 77, 3), (149, .aload_n 0, 1), (150, .getfield 40, 3), (153, .aload_n 0, 1), (154, .getfield 26, 3)] := dz_sg _ 139 (by decide +kernel)
theorem dX7_init_139 : decode cX7_init 139 = .ok (.putfield 74, 3) := sdX7_init_139.1
theorem dX7_init_142 : decode cX7_init 142 = .ok (.aload_n 0, 1) := sdX7_init_139.2.1
theorem dX7_init_143 : decode cX7_init 143 = .ok (.getfield 26, 3) := sdX7_init_139.2.2.1
theorem dX7_init_146 : decode cX7_init 146 = .ok (.invokevirtual 77, 3) := sdX7_init_139.2.2.2.1
theorem dX7_init_149 : decode cX7_init 149 = .ok (.aload_n 0, 1) := sdX7_init_139.2.2.2.2.1
theorem dX7_init_150 : decode cX7_init 150 = .ok (.getfield 40, 3) := sdX7_init_139.2.2.2.2.2.1
theorem dX7_init_153 : decode cX7_init 153 = .ok (.aload_n 0, 1) := sdX7_init_139.2.2.2.2.2.2.1
theorem dX7_init_154 : decode cX7_init 154 = .ok (.getfield 26, 3) := sdX7_init_139.2.2.2.2.2.2.2.1
theorem sdX7_init_157 : dz_Seg cX7_init [(157, .invokevirtual 80, 3), (160, .aload_n 0, 1), (161, .iconst (-1), 1), (162, .putfield 84, 3), (165, .return_, 1)] := dz_sg _ 157 (by decide +kernel)
theorem dX7_init_157 : decode cX7_init 157 = .ok (.invokevirtual 80, 3) := sdX7_init_157.1
theorem dX7_init_160 : decode cX7_init 160 = .ok (.aload_n 0, 1) := sdX7_init_157.2.1
theorem dX7_init_161 : decode cX7_init 161 = .ok (.iconst (-1), 1) := sdX7_init_157.2.2.1
theorem dX7_init_162 : decode cX7_init 162 = .ok (.putfield 84, 3) := sdX7_init_157.2.2.2.1
theorem dX7_init_165 : decode cX7_init 165 = .ok (.return_, 1) := sdX7_init_157.2.2.2.2.1
theorem sdX7_status_0 : dz_Seg cX7_status [(0, .aload_n 0, 1), (1, .getfield 88, 3), (4, .ireturn, 1)] := dz_sg _ 0 (by decide +kernel)
theorem dX7_status_0 : decode cX7_status 0 = .ok (.aload_n 0, 1) := sdX7_status_0.1
theorem dX7_status_1 : decode cX7_status 1 = .ok (.getfield 88, 3) := sdX7_status_0.2.1
theorem dX7_status_4 : decode cX7_status 4 = .ok (.ireturn, 1) := sdX7_status_0.2.2.1
theorem sdX7_feed_0 : dz_Seg cX7_feed [(0, .aload_n 0, 1), (1, .getfield 91, 3), (4, .bipush 20, 2), (6, .iadd, 1), (7, .sipush 700, 3), (10, .if_icmp .le 5, 3), (13, .iconst (-1), 1), (14, .ireturn, 1)] := dz_sg _ 0 (by decide +kernel)
theorem dX7_feed_0 : decode cX7_feed 0 = .ok (.aload_n 0, 1) := sdX7_feed_0.1
theorem dX7_feed_1 : decode cX7_feed 1 = .ok (.getfield 91, 3) := sdX7_feed_0.2.1
theorem dX7_feed_4 : decode cX7_feed 4 = .ok (.bipush 20, 2) := sdX7_feed_0.2.2.1
theorem dX7_feed_6 : decode cX7_feed 6 = .ok (.iadd, 1) := sdX7_feed_0.2.2.2.1
theorem dX7_feed_7 : decode cX7_feed 7 = .ok (.sipush 700, 3) := sdX7_feed_0.2.2.2.2.1
theorem dX7_feed_10 : decode cX7_feed 10 = .ok (.if_icmp .le 5, 3) := sdX7_feed_0.2.2.2.2.2.1
theorem dX7_feed_13 : decode cX7_feed 13 = .ok (.iconst (-1), 1) := sdX7_feed_0.2.2.2.2.2.2.1
theorem dX7_feed_14 : decode cX7_feed 14 = .ok (.ireturn, 1) := sdX7_feed_0.2.2.2.2.2.2.2.1
theorem sdX7_feed_15 : dz_Seg cX7_feed [(15, .aload_n 0, 1), (16, .iload_n 1, 1), (17, .invokevirtual 94, 3), (20, .aload_n 0, 1), (21, .iload_n 2, 1), (22, .invokevirtual 94, 3), (25, .aload_n 0, 1), (26, .iload_n 3, 1)] := dz_sg _ 15 (by decide +kernel)
theorem dX7_feed_15 : decode cX7_feed 15 = .ok (.aload_n 0, 1) := sdX7_feed_15.1
theorem dX7_feed_16 : decode cX7_feed 16 = .ok (.iload_n 1, 1) := sdX7_feed_15.2.1
theorem dX7_feed_17 : decode cX7_feed 17 = .ok (.invokevirtual 94, 3) := sdX7_feed_15.2.2.1
theorem dX7_feed_20 : decode cX7_feed 20 = .ok (.aload_n 0, 1) := sdX7_feed_15.2.2.2.1
theorem dX7_feed_21 : decode cX7_feed 21 = .ok (.iload_n 2, 1) := sdX7_feed_15.2.2.2.2.1
theorem dX7_feed_22 : decode cX7_feed 22 = .ok (.invokevirtual 94, 3) := sdX7_feed_15.2.2.2.2.2.1
theorem dX7_feed_25 : decode cX7_feed 25 = .ok (.aload_n 0, 1) := sdX7_feed_15.2.2.2.2.2.2.1
theorem dX7_feed_26 : decode cX7_feed 26 = .ok (.iload_n 3, 1) := sdX7_feed_15.2.2.2.2.2.2.2.1
theorem sdX7_feed_27 : dz_Seg cX7_feed [(27, .invokevirtual 94, 3), (30, .aload_n 0, 1), (31, .iload 4, 2), (33, .invokevirtual 94, 3), (36, .aload_n 0, 1), (37, .iload 5, 2), (39, .invokevirtual 94, 3), (42, .aload_n 0, 1)] := dz_sg _ 27 (by decide +kernel)
theorem dX7_feed_27 : decode cX7_feed 27 = .ok (.invokevirtual 94, 3) := sdX7_feed_27.1
theorem dX7_feed_30 : decode cX7_feed 30 = .ok (.aload_n 0, 1) := sdX7_feed_27.2.1
theorem dX7_feed_31 : decode cX7_feed 31 = .ok (.iload 4, 2) := sdX7_feed_27.2.2.1
theorem dX7_feed_33 : decode cX7_feed 33 = .ok (.invokevirtual 94, 3) := sdX7_feed_27.2.2.2.1
theorem dX7_feed_36 : decode cX7_feed 36 = .ok (.aload_n 0, 1) := sdX7_feed_27.2.2.2.2.1
theorem dX7_feed_37 : decode cX7_feed 37 = .ok (.iload 5, 2) := sdX7_feed_27.2.2.2.2.2.1
theorem dX7_feed_39 : decode cX7_feed 39 = .ok (.invokevirtual 94, 3) := sdX7_feed_27.2.2.2.2.2.2.1
theorem dX7_feed_42 : decode cX7_feed 42 = .ok (.aload_n 0, 1) := sdX7_feed_27.2.2.2.2.2.2.2.1
theorem sdX7_feed_43 : dz_Seg cX7_feed [(43, .getfield 91, 3), (46, .ireturn, 1)] := dz_sg _ 43 (by decide +kernel)
theorem dX7_feed_43 : decode cX7_feed 43 = .ok (.getfield 91, 3) := sdX7_feed_43.1
theorem dX7_feed_46 : decode cX7_feed 46 = .ok (.ireturn, 1) := sdX7_feed_43.2.1
theorem sdX7_append_0 : dz_Seg cX7_append [(0, .bipush 24, 2), (2, .istore_n 2, 1), (3, .iload_n 2, 1), (4, .ifCond .lt 37, 3), (7, .aload_n 0, 1), (8, .getfield 9, 3), (11, .aload_n 0, 1), (12, .getfield 91, 3)] := dz_sg _ 0 (by decide +kernel)
theorem dX7_append_0 : decode cX7_append 0 = .ok (.bipush 24, 2) := sdX7_append_0.1
theorem dX7_append_2 : decode cX7_append 2 = .ok (.istore_n 2, 1) := sdX7_append_0.2.1
theorem dX7_append_3 : decode cX7_append 3 = .ok (.iload_n 2, 1) := sdX7_append_0.2.2.1
theorem dX7_append_4 : decode cX7_append 4 = .ok (.ifCond .lt 37, 3) := sdX7_append_0.2.2.2.1
theorem dX7_append_7 : decode cX7_append 7 = .ok (.aload_n 0, 1) := sdX7_append_0.2.2.2.2.1
theorem dX7_append_8 : decode cX7_append 8 = .ok (.getfield 9, 3) := sdX7_append_0.2.2.2.2.2.1
theorem dX7_append_11 : decode cX7_append 11 = .ok (.aload_n 0, 1) := sdX7_append_0.2.2.2.2.2.2.1
theorem dX7_append_12 : decode cX7_append 12 = .ok (.getfield 91, 3) := sdX7_append_0.2.2.2.2.2.2.2.1
theorem sdX7_append_15 : dz_Seg cX7_append [(15, .iload_n 1, 1), (16, .iload_n 2, 1), (17, .iushr, 1), (18, .sipush 255, 3), (21, .iand, 1), (22, .invokestatic 98, 3), (25, .aload_n 0, 1), (26, .dup, 1)] := dz_sg _ 15 (by decide +kernel)
theorem dX7_append_15 : decode cX7_append 15 = .ok (.iload_n 1, 1) := sdX7_append_15.1
theorem dX7_append_16 : decode cX7_append 16 = .ok (.iload_n 2, 1) := sdX7_append_15.2.1
theorem dX7_append_17 : decode cX7_append 17 = .ok (.iushr, 1) := sdX7_append_15.2.2.1
theorem dX7_append_18 : decode cX7_append 18 = .ok (.sipush 255, 3) := sdX7_append_15.2.2.2.1
theorem dX7_append_21 : decode cX7_append 21 = .ok (.iand, 1) := sdX7_append_15.2.2.2.2.1
theorem dX7_append_22 : decode cX7_append 22 = .ok (.invokestatic 98, 3) := sdX7_append_15.2.2.2.2.2.1
theorem dX7_append_25 : decode cX7_append 25 = .ok (.aload_n 0, 1) := sdX7_append_15.2.2.2.2.2.2.1
theorem dX7_append_26 : decode cX7_append 26 = .ok (.dup, 1) := sdX7_append_15.2.2.2.2.2.2.2.1
theorem sdX7_append_27 : dz_Seg cX7_append [(27, .getfield 91, 3), (30, .iconst 1, 1), (31, .iadd, 1), (32, .putfield 91, 3), (35, .iinc 2 (-8), 3), (38, .goto (-35), 3), (41, .return_, 1)] := dz_sg _ 27 (by decide +kernel)
theorem dX7_append_27 : decode cX7_append 27 = .ok (.getfield 91, 3) := sdX7_append_27.1
theorem dX7_append_30 : decode cX7_append 30 = .ok (.iconst 1, 1) := sdX7_append_27.2.1
theorem dX7_append_31 : decode cX7_append 31 = .ok (.iadd, 1) := sdX7_append_27.2.2.1
theorem dX7_append_32 : decode cX7_append 32 = .ok (.putfield 91, 3) := sdX7_append_27.2.2.2.1
theorem dX7_append_35 : decode cX7_append 35 = .ok (.iinc 2 (-8), 3) := sdX7_append_27.2.2.2.2.1
theorem dX7_append_38 : decode cX7_append 38 = .ok (.goto (-35), 3) := sdX7_append_27.2.2.2.2.2.1
theorem dX7_append_41 : decode cX7_append 41 = .ok (.return_, 1) := sdX7_append_27.2.2.2.2.2.2.1
theorem sdX7_load_0 : dz_Seg cX7_load [(0, .iload_n 1, 1), (1, .ifCond .lt 11, 3), (4, .iload_n 1, 1), (5, .aload_n 0, 1), (6, .getfield 91, 3), (9, .if_icmp .le 9, 3), (12, .aload_n 0, 1), (13, .iconst 1, 1)] := dz_sg _ 0 (by decide +kernel)
theorem dX7_load_0 : decode cX7_load 0 = .ok (.iload_n 1, 1) := sdX7_load_0.1
theorem dX7_load_1 : decode cX7_load 1 = .ok (.ifCond .lt 11, 3) := sdX7_load_0.2.1
theorem dX7_load_4 : decode cX7_load 4 = .ok (.iload_n 1, 1) := sdX7_load_0.2.2.1
theorem dX7_load_5 : decode cX7_load 5 = .ok (.aload_n 0, 1) := sdX7_load_0.2.2.2.1
theorem dX7_load_6 : decode cX7_load 6 = .ok (.getfield 91, 3) := sdX7_load_0.2.2.2.2.1
theorem dX7_load_9 : decode cX7_load 9 = .ok (.if_icmp .le 9, 3) := sdX7_load_0.2.2.2.2.2.1
theorem dX7_load_12 : decode cX7_load 12 = .ok (.aload_n 0, 1) := sdX7_load_0.2.2.2.2.2.2.1
theorem dX7_load_13 : decode cX7_load 13 = .ok (.iconst 1, 1) := sdX7_load_0.2.2.2.2.2.2.2.1
theorem sdX7_load_14 : dz_Seg cX7_load [(14, .invokevirtual 102, 3), (17, .ireturn, 1), (18, .aload_n 0, 1), (19, .getfield 19, 3), (22, .aload_n 0, 1), (23, .getfield 9, 3), (26, .iload_n 1, 1), (27, .invokevirtual 106, 3)] := dz_sg _ 14 (by decide +kernel)
theorem dX7_load_14 : decode cX7_load 14 = .ok (.invokevirtual 102, 3) := sdX7_load_14.1
theorem dX7_load_17 : decode cX7_load 17 = .ok (.ireturn, 1) := sdX7_load_14.2.1
theorem dX7_load_18 : decode cX7_load 18 = .ok (.aload_n 0, 1) := sdX7_load_14.2.2.1
theorem dX7_load_19 : decode cX7_load 19 = .ok (.getfield 19, 3) := sdX7_load_14.2.2.2.1
theorem dX7_load_22 : decode cX7_load 22 = .ok (.aload_n 0, 1) := sdX7_load_14.2.2.2.2.1
theorem dX7_load_23 : decode cX7_load 23 = .ok (.getfield 9, 3) := sdX7_load_14.2.2.2.2.2.1
theorem dX7_load_26 : decode cX7_load 26 = .ok (.iload_n 1, 1) := sdX7_load_14.2.2.2.2.2.2.1
theorem dX7_load_27 : decode cX7_load 27 = .ok (.invokevirtual 106, 3) := sdX7_load_14.2.2.2.2.2.2.2.1
theorem sdX7_load_30 : dz_Seg cX7_load [(30, .istore_n 2, 1), (31, .aload_n 0, 1), (32, .iconst 0, 1), (33, .putfield 91, 3), (36, .iload_n 2, 1), (37, .ifCond .ne 10, 3), (40, .aload_n 0, 1), (41, .bipush 9, 2)] := dz_sg _ 30 (by decide +kernel)
theorem dX7_load_30 : decode cX7_load 30 = .ok (.istore_n 2, 1) := sdX7_load_30.1
theorem dX7_load_31 : decode cX7_load 31 = .ok (.aload_n 0, 1) := sdX7_load_30.2.1
theorem dX7_load_32 : decode cX7_load 32 = .ok (.iconst 0, 1) := sdX7_load_30.2.2.1
theorem dX7_load_33 : decode cX7_load 33 = .ok (.putfield 91, 3) := sdX7_load_30.2.2.2.1
theorem dX7_load_36 : decode cX7_load 36 = .ok (.iload_n 2, 1) := sdX7_load_30.2.2.2.2.1
theorem dX7_load_37 : decode cX7_load 37 = .ok (.ifCond .ne 10, 3) := sdX7_load_30.2.2.2.2.2.1
theorem dX7_load_40 : decode cX7_load 40 = .ok (.aload_n 0, 1) := sdX7_load_30.2.2.2.2.2.2.1
theorem dX7_load_41 : decode cX7_load 41 = .ok (.bipush 9, 2) := sdX7_load_30.2.2.2.2.2.2.2.1
theorem sdX7_load_43 : dz_Seg cX7_load [(43, .invokevirtual 102, 3), (46, .ireturn, 1), (47, .aload_n 0, 1), (48, .getfield 26, 3), (51, .aload_n 0, 1), (52, .getfield 19, 3), (55, .getfield 110, 3), (58, .invokevirtual 113, 3)] := dz_sg _ 43 (by decide +kernel)
theorem dX7_load_43 : decode cX7_load 43 = .ok (.invokevirtual 102, 3) := sdX7_load_43.1
theorem dX7_load_46 : decode cX7_load 46 = .ok (.ireturn, 1) := sdX7_load_43.2.1
theorem dX7_load_47 : decode cX7_load 47 = .ok (.aload_n 0, 1) := sdX7_load_43.2.2.1
theorem dX7_load_48 : decode cX7_load 48 = .ok (.getfield 26, 3) := sdX7_load_43.2.2.2.1
theorem dX7_load_51 : decode cX7_load 51 = .ok (.aload_n 0, 1) := sdX7_load_43.2.2.2.2.1
theorem dX7_load_52 : decode cX7_load 52 = .ok (.getfield 19, 3) := sdX7_load_43.2.2.2.2.2.1
theorem dX7_load_55 : decode cX7_load 55 = .ok (.getfield 110, 3) := sdX7_load_43.2.2.2.2.2.2.1
theorem dX7_load_58 : decode cX7_load 58 = .ok (.invokevirtual 113, 3) := sdX7_load_43.2.2.2.2.2.2.2.1
theorem sdX7_load_61 : dz_Seg cX7_load [(61, .aload_n 0, 1), (62, .getfield 33, 3), (65, .invokevirtual 116, 3), (68, .aload_n 0, 1), (69, .aload_n 0, 1), (70, .getfield 26, 3), (73, .getfield 119, 3), (76, .invokevirtual 122, 3)] := dz_sg _ 61 (by decide +kernel)
theorem dX7_load_61 : decode cX7_load 61 = .ok (.aload_n 0, 1) := sdX7_load_61.1
theorem dX7_load_62 : decode cX7_load 62 = .ok (.getfield 33, 3) := sdX7_load_61.2.1
theorem dX7_load_65 : decode cX7_load 65 = .ok (.invokevirtual 116, 3) := sdX7_load_61.2.2.1
theorem dX7_load_68 : decode cX7_load 68 = .ok (.aload_n 0, 1) := sdX7_load_61.2.2.2.1
theorem dX7_load_69 : decode cX7_load 69 = .ok (.aload_n 0, 1) := sdX7_load_61.2.2.2.2.1
theorem dX7_load_70 : decode cX7_load 70 = .ok (.getfield 26, 3) := sdX7_load_61.2.2.2.2.2.1
theorem dX7_load_73 : decode cX7_load 73 = .ok (.getfield 119, 3) := sdX7_load_61.2.2.2.2.2.2.1
theorem dX7_load_76 : decode cX7_load 76 = .ok (.invokevirtual 122, 3) := sdX7_load_61.2.2.2.2.2.2.2.1
theorem sdX7_load_79 : dz_Seg cX7_load [(79, .ireturn, 1)] := dz_sg _ 79 (by decide +kernel)
theorem dX7_load_79 : decode cX7_load 79 = .ok (.ireturn, 1) := sdX7_load_79.1
theorem sdX7_many_0 : dz_Seg cX7_many [(0, .iload_n 1, 1)] := dz_sg _ 0 (by decide +kernel)
theorem dX7_many_0 : decode cX7_many 0 = .ok (.iload_n 1, 1) := sdX7_many_0.1
theorem dX7_many_1 : decode cX7_many 1 = .ok (.tableswitch 197 0 10 #[59, 71, 83, 95, 107, 119, 131, 143, 155, 167, 182], 59) := by decide +kernel
theorem sdX7_many_60 : dz_Seg cX7_many [(60, .aload_n 0, 1), (61, .aload_n 0, 1), (62, .getfield 26, 3), (65, .getfield 131, 3), (68, .invokevirtual 134, 3), (71, .ireturn, 1), (72, .aload_n 0, 1), (73, .aload_n 0, 1)] := dz_sg _ 60 (by decide +kernel)
theorem dX7_many_60 : decode cX7_many 60 = .ok (.aload_n 0, 1) := sdX7_many_60.1
theorem dX7_many_61 : decode cX7_many 61 = .ok (.aload_n 0, 1) := sdX7_many_60.2.1
theorem dX7_many_62 : decode cX7_many 62 = .ok (.getfield 26, 3) := sdX7_many_60.2.2.1
theorem dX7_many_65 : decode cX7_many 65 = .ok (.getfield 131, 3) := sdX7_many_60.2.2.2.1
theorem dX7_many_68 : decode cX7_many 68 = .ok (.invokevirtual 134, 3) := sdX7_many_60.2.2.2.2.1
theorem dX7_many_71 : decode cX7_many 71 = .ok (.ireturn, 1) := sdX7_many_60.2.2.2.2.2.1
theorem dX7_many_72 : decode cX7_many 72 = .ok (.aload_n 0, 1) := sdX7_many_60.2.2.2.2.2.2.1
theorem dX7_many_73 : decode cX7_many 73 = .ok (.aload_n 0, 1) := sdX7_many_60.2.2.2.2.2.2.2.1
theorem sdX7_many_74 : dz_Seg cX7_many [(74, .getfield 26, 3), (77, .getfield 119, 3), (80, .invokevirtual 134, 3), (83, .ireturn, 1), (84, .aload_n 0, 1), (85, .aload_n 0, 1), (86, .getfield 26, 3), (89, .getfield 137, 3)] := dz_sg _ 74 (by decide +kernel)
theorem dX7_many_74 : decode cX7_many 74 = .ok (.getfield 26, 3) := sdX7_many_74.1
theorem dX7_many_77 : decode cX7_many 77 = .ok (.getfield 119, 3) := sdX7_many_74.2.1
theorem dX7_many_80 : decode cX7_many 80 = .ok (.invokevirtual 134, 3) := sdX7_many_74.2.2.1
theorem dX7_many_83 : decode cX7_many 83 = .ok (.ireturn, 1) := sdX7_many_74.2.2.2.1
theorem dX7_many_84 : decode cX7_many 84 = .ok (.aload_n 0, 1) := sdX7_many_74.2.2.2.2.1
theorem dX7_many_85 : decode cX7_many 85 = .ok (.aload_n 0, 1) := sdX7_many_74.2.2.2.2.2.1
theorem dX7_many_86 : decode cX7_many 86 = .ok (.getfield 26, 3) := sdX7_many_74.2.2.2.2.2.2.1
theorem dX7_many_89 : decode cX7_many 89 = .ok (.getfield 137, 3) := sdX7_many_74.2.2.2.2.2.2.2.1
theorem sdX7_many_92 : dz_Seg cX7_many [(92, .invokevirtual 134, 3), (95, .ireturn, 1), (96, .aload_n 0, 1), (97, .aload_n 0, 1), (98, .getfield 40, 3), (101, .getfield 140, 3), (104, .invokevirtual 134, 3), (107, .ireturn, 1)] := dz_sg _ 92 (by decide +kernel)
theorem dX7_many_92 : decode cX7_many 92 = .ok (.invokevirtual 134, 3) := sdX7_many_92.1
theorem dX7_many_95 : decode cX7_many 95 = .ok (.ireturn, 1) := sdX7_many_92.2.1
theorem dX7_many_96 : decode cX7_many 96 = .ok (.aload_n 0, 1) := sdX7_many_92.2.2.1
theorem dX7_many_97 : decode cX7_many 97 = .ok (.aload_n 0, 1) := sdX7_many_92.2.2.2.1
theorem dX7_many_98 : decode cX7_many 98 = .ok (.getfield 40, 3) := sdX7_many_92.2.2.2.2.1
theorem dX7_many_101 : decode cX7_many 101 = .ok (.getfield 140, 3) := sdX7_many_92.2.2.2.2.2.1
theorem dX7_many_104 : decode cX7_many 104 = .ok (.invokevirtual 134, 3) := sdX7_many_92.2.2.2.2.2.2.1
theorem dX7_many_107 : decode cX7_many 107 = .ok (.ireturn, 1) := sdX7_many_92.2.2.2.2.2.2.2.1
theorem sdX7_many_108 : dz_Seg cX7_many [(108, .aload_n 0, 1), (109, .aload_n 0, 1), (110, .getfield 26, 3), (113, .getfield 143, 3), (116, .invokevirtual 134, 3), (119, .ireturn, 1), (120, .aload_n 0, 1), (121, .aload_n 0, 1)] := dz_sg _ 108 (by decide +kernel)
theorem dX7_many_108 : decode cX7_many 108 = .ok (.aload_n 0, 1) := sdX7_many_108.1
theorem dX7_many_109 : decode cX7_many 109 = .ok (.aload_n 0, 1) := sdX7_many_108.2.1
theorem dX7_many_110 : decode cX7_many 110 = .ok (.getfield 26, 3) := sdX7_many_108.2.2.1
theorem dX7_many_113 : decode cX7_many 113 = .ok (.getfield 143, 3) := sdX7_many_108.2.2.2.1
theorem dX7_many_116 : decode cX7_many 116 = .ok (.invokevirtual 134, 3) := sdX7_many_108.2.2.2.2.1
theorem dX7_many_119 : decode cX7_many 119 = .ok (.ireturn, 1) := sdX7_many_108.2.2.2.2.2.1
theorem dX7_many_120 : decode cX7_many 120 = .ok (.aload_n 0, 1) := sdX7_many_108.2.2.2.2.2.2.1
theorem dX7_many_121 : decode cX7_many 121 = .ok (.aload_n 0, 1) := sdX7_many_108.2.2.2.2.2.2.2.1
theorem sdX7_many_122 : dz_Seg cX7_many [(122, .getfield 26, 3), (125, .getfield 146, 3), (128, .invokevirtual 134, 3), (131, .ireturn, 1), (132, .aload_n 0, 1), (133, .aload_n 0, 1), (134, .getfield 26, 3), (137, .getfield 149, 3)] := dz_sg _ 122 (by decide +kernel)
theorem dX7_many_122 : decode cX7_many 122 = .ok (.getfield 26, 3) := sdX7_many_122.1
theorem dX7_many_125 : decode cX7_many 125 = .ok (.getfield 146, 3) := sdX7_many_122.2.1
theorem dX7_many_128 : decode cX7_many 128 = .ok (.invokevirtual 134, 3) := sdX7_many_122.2.2.1
theorem dX7_many_131 : decode cX7_many 131 = .ok (.ireturn, 1) := sdX7_many_122.2.2.2.1
theorem dX7_many_132 : decode cX7_many 132 = .ok (.aload_n 0, 1) := sdX7_many_122.2.2.2.2.1
theorem dX7_many_133 : decode cX7_many 133 = .ok (.aload_n 0, 1) := sdX7_many_122.2.2.2.2.2.1
theorem dX7_many_134 : decode cX7_many 134 = .ok (.getfield 26, 3) := sdX7_many_122.2.2.2.2.2.2.1
theorem dX7_many_137 : decode cX7_many 137 = .ok (.getfield 149, 3) := sdX7_many_122.2.2.2.2.2.2.2.1
theorem sdX7_many_140 : dz_Seg cX7_many [(140, .invokevirtual 134, 3), (143, .ireturn, 1), (144, .aload_n 0, 1), (145, .aload_n 0, 1), (146, .getfield 26, 3), (149, .getfield 152, 3), (152, .invokevirtual 134, 3), (155, .ireturn, 1)] := dz_sg _ 140 (by decide +kernel)
theorem dX7_many_140 : decode cX7_many 140 = .ok (.invokevirtual 134, 3) := sdX7_many_140.1
theorem dX7_many_143 : decode cX7_many 143 = .ok (.ireturn, 1) := sdX7_many_140.2.1
theorem dX7_many_144 : decode cX7_many 144 = .ok (.aload_n 0, 1) := sdX7_many_140.2.2.1
theorem dX7_many_145 : decode cX7_many 145 = .ok (.aload_n 0, 1) := sdX7_many_140.2.2.2.1
theorem dX7_many_146 : decode cX7_many 146 = .ok (.getfield 26, 3) := sdX7_many_140.2.2.2.2.1
theorem dX7_many_149 : decode cX7_many 149 = .ok (.getfield 152, 3) := sdX7_many_140.2.2.2.2.2.1
theorem dX7_many_152 : decode cX7_many 152 = .ok (.invokevirtual 134, 3) := sdX7_many_140.2.2.2.2.2.2.1
theorem dX7_many_155 : decode cX7_many 155 = .ok (.ireturn, 1) := sdX7_many_140.2.2.2.2.2.2.2.1
theorem sdX7_many_156 : dz_Seg cX7_many [(156, .aload_n 0, 1), (157, .aload_n 0, 1), (158, .getfield 33, 3), (161, .getfield 155, 3), (164, .invokevirtual 134, 3), (167, .ireturn, 1), (168, .aload_n 0, 1), (169, .aload_n 0, 1)] := dz_sg _ 156 (by decide +kernel)
theorem dX7_many_156 : decode cX7_many 156 = .ok (.aload_n 0, 1) := sdX7_many_156.1
theorem dX7_many_157 : decode cX7_many 157 = .ok (.aload_n 0, 1) := sdX7_many_156.2.1
theorem dX7_many_158 : decode cX7_many 158 = .ok (.getfield 33, 3) := sdX7_many_156.2.2.1
theorem dX7_many_161 : decode cX7_many 161 = .ok (.getfield 155, 3) := sdX7_many_156.2.2.2.1
theorem dX7_many_164 : decode cX7_many 164 = .ok (.invokevirtual 134, 3) := sdX7_many_156.2.2.2.2.1
theorem dX7_many_167 : decode cX7_many 167 = .ok (.ireturn, 1) := sdX7_many_156.2.2.2.2.2.1
theorem dX7_many_168 : decode cX7_many 168 = .ok (.aload_n 0, 1) := sdX7_many_156.2.2.2.2.2.2.1
theorem dX7_many_169 : decode cX7_many 169 = .ok (.aload_n 0, 1) := sdX7_many_156.2.2.2.2.2.2.2.1
theorem sdX7_many_170 : dz_Seg cX7_many [(170, .getfield 26, 3), (173, .getfield 158, 3), (176, .invokestatic 161, 3), (179, .invokevirtual 134, 3), (182, .ireturn, 1), (183, .aload_n 0, 1), (184, .aload_n 0, 1), (185, .getfield 26, 3)] := dz_sg _ 170 (by decide +kernel)
theorem dX7_many_170 : decode cX7_many 170 = .ok (.getfield 26, 3) := sdX7_many_170.1
theorem dX7_many_173 : decode cX7_many 173 = .ok (.getfield 158, 3) := sdX7_many_170.2.1
theorem dX7_many_176 : decode cX7_many 176 = .ok (.invokestatic 161, 3) := sdX7_many_170.2.2.1
theorem dX7_many_179 : decode cX7_many 179 = .ok (.invokevirtual 134, 3) := sdX7_many_170.2.2.2.1
theorem dX7_many_182 : decode cX7_many 182 = .ok (.ireturn, 1) := sdX7_many_170.2.2.2.2.1
theorem dX7_many_183 : decode cX7_many 183 = .ok (.aload_n 0, 1) := sdX7_many_170.2.2.2.2.2.1
theorem dX7_many_184 : decode cX7_many 184 = .ok (.aload_n 0, 1) := sdX7_many_170.2.2.2.2.2.2.1
theorem dX7_many_185 : decode cX7_many 185 = .ok (.getfield 26, 3) := sdX7_many_170.2.2.2.2.2.2.2.1
theorem sdX7_many_188 : dz_Seg cX7_many [(188, .getfield 165, 3), (191, .invokestatic 161, 3), (194, .invokevirtual 134, 3), (197, .ireturn, 1), (198, .aload_n 0, 1), (199, .iconst 1, 1), (200, .invokevirtual 102, 3), (203, .ireturn, 1)] := dz_sg _ 188 (by decide +kernel)
theorem dX7_many_188 : decode cX7_many 188 = .ok (.getfield 165, 3) := sdX7_many_188.1
theorem dX7_many_191 : decode cX7_many 191 = .ok (.invokestatic 161, 3) := sdX7_many_188.2.1
theorem dX7_many_194 : decode cX7_many 194 = .ok (.invokevirtual 134, 3) := sdX7_many_188.2.2.1
theorem dX7_many_197 : decode cX7_many 197 = .ok (.ireturn, 1) := sdX7_many_188.2.2.2.1
theorem dX7_many_198 : decode cX7_many 198 = .ok (.aload_n 0, 1) := sdX7_many_188.2.2.2.2.1
theorem dX7_many_199 : decode cX7_many 199 = .ok (.iconst 1, 1) := sdX7_many_188.2.2.2.2.2.1
theorem dX7_many_200 : decode cX7_many 200 = .ok (.invokevirtual 102, 3) := sdX7_many_188.2.2.2.2.2.2.1
theorem dX7_many_203 : decode cX7_many 203 = .ok (.ireturn, 1) := sdX7_many_188.2.2.2.2.2.2.2.1
theorem sdX7_hunter_0 : dz_Seg cX7_hunter [(0, .iload_n 2, 1), (1, .ifCond .lt 8, 3), (4, .iload_n 2, 1), (5, .iconst 4, 1), (6, .if_icmp .le 9, 3), (9, .aload_n 0, 1), (10, .iconst 1, 1), (11, .invokevirtual 102, 3)] := dz_sg _ 0 (by decide +kernel)
theorem dX7_hunter_0 : decode cX7_hunter 0 = .ok (.iload_n 2, 1) := sdX7_hunter_0.1
theorem dX7_hunter_1 : decode cX7_hunter 1 = .ok (.ifCond .lt 8, 3) := sdX7_hunter_0.2.1
theorem dX7_hunter_4 : decode cX7_hunter 4 = .ok (.iload_n 2, 1) := sdX7_hunter_0.2.2.1
theorem dX7_hunter_5 : decode cX7_hunter 5 = .ok (.iconst 4, 1) := sdX7_hunter_0.2.2.2.1
theorem dX7_hunter_6 : decode cX7_hunter 6 = .ok (.if_icmp .le 9, 3) := sdX7_hunter_0.2.2.2.2.1
theorem dX7_hunter_9 : decode cX7_hunter 9 = .ok (.aload_n 0, 1) := sdX7_hunter_0.2.2.2.2.2.1
theorem dX7_hunter_10 : decode cX7_hunter 10 = .ok (.iconst 1, 1) := sdX7_hunter_0.2.2.2.2.2.2.1
theorem dX7_hunter_11 : decode cX7_hunter 11 = .ok (.invokevirtual 102, 3) := sdX7_hunter_0.2.2.2.2.2.2.2.1
theorem sdX7_hunter_14 : dz_Seg cX7_hunter [(14, .ireturn, 1), (15, .aload_n 0, 1), (16, .iload_n 1, 1), (17, .invokevirtual 168, 3), (20, .ifCond .ne 9, 3), (23, .aload_n 0, 1), (24, .iconst 2, 1), (25, .invokevirtual 102, 3)] := dz_sg _ 14 (by decide +kernel)
theorem dX7_hunter_14 : decode cX7_hunter 14 = .ok (.ireturn, 1) := sdX7_hunter_14.1
theorem dX7_hunter_15 : decode cX7_hunter 15 = .ok (.aload_n 0, 1) := sdX7_hunter_14.2.1
theorem dX7_hunter_16 : decode cX7_hunter 16 = .ok (.iload_n 1, 1) := sdX7_hunter_14.2.2.1
theorem dX7_hunter_17 : decode cX7_hunter 17 = .ok (.invokevirtual 168, 3) := sdX7_hunter_14.2.2.2.1
theorem dX7_hunter_20 : decode cX7_hunter 20 = .ok (.ifCond .ne 9, 3) := sdX7_hunter_14.2.2.2.2.1
theorem dX7_hunter_23 : decode cX7_hunter 23 = .ok (.aload_n 0, 1) := sdX7_hunter_14.2.2.2.2.2.1
theorem dX7_hunter_24 : decode cX7_hunter 24 = .ok (.iconst 2, 1) := sdX7_hunter_14.2.2.2.2.2.2.1
theorem dX7_hunter_25 : decode cX7_hunter 25 = .ok (.invokevirtual 102, 3) := sdX7_hunter_14.2.2.2.2.2.2.2.1
theorem sdX7_hunter_28 : dz_Seg cX7_hunter [(28, .ireturn, 1), (29, .iload_n 2, 1)] := dz_sg _ 28 (by decide +kernel)
theorem dX7_hunter_28 : decode cX7_hunter 28 = .ok (.ireturn, 1) := sdX7_hunter_28.1
theorem dX7_hunter_29 : decode cX7_hunter 29 = .ok (.iload_n 2, 1) := sdX7_hunter_28.2.1
theorem dX7_hunter_30 : decode cX7_hunter 30 = .ok (.tableswitch 94 0 3 #[30, 46, 62, 78], 30) := by decide +kernel
theorem sdX7_hunter_60 : dz_Seg cX7_hunter [(60, .aload_n 0, 1), (61, .aload_n 0, 1), (62, .getfield 26, 3), (65, .getfield 172, 3), (68, .iload_n 1, 1), (69, .invokestatic 175, 3), (72, .invokevirtual 134, 3), (75, .ireturn, 1)] := dz_sg _ 60 (by decide +kernel)
theorem dX7_hunter_60 : decode cX7_hunter 60 = .ok (.aload_n 0, 1) := sdX7_hunter_60.1
theorem dX7_hunter_61 : decode cX7_hunter 61 = .ok (.aload_n 0, 1) := sdX7_hunter_60.2.1
theorem dX7_hunter_62 : decode cX7_hunter 62 = .ok (.getfield 26, 3) := sdX7_hunter_60.2.2.1
theorem dX7_hunter_65 : decode cX7_hunter 65 = .ok (.getfield 172, 3) := sdX7_hunter_60.2.2.2.1
theorem dX7_hunter_68 : decode cX7_hunter 68 = .ok (.iload_n 1, 1) := sdX7_hunter_60.2.2.2.2.1
theorem dX7_hunter_69 : decode cX7_hunter 69 = .ok (.invokestatic 175, 3) := sdX7_hunter_60.2.2.2.2.2.1
theorem dX7_hunter_72 : decode cX7_hunter 72 = .ok (.invokevirtual 134, 3) := sdX7_hunter_60.2.2.2.2.2.2.1
theorem dX7_hunter_75 : decode cX7_hunter 75 = .ok (.ireturn, 1) := sdX7_hunter_60.2.2.2.2.2.2.2.1
theorem sdX7_hunter_76 : dz_Seg cX7_hunter [(76, .aload_n 0, 1), (77, .aload_n 0, 1), (78, .getfield 26, 3), (81, .getfield 165, 3), (84, .iload_n 1, 1), (85, .invokestatic 175, 3), (88, .invokevirtual 134, 3), (91, .ireturn, 1)] := dz_sg _ 76 (by decide +kernel)
theorem dX7_hunter_76 : decode cX7_hunter 76 = .ok (.aload_n 0, 1) := sdX7_hunter_76.1
theorem dX7_hunter_77 : decode cX7_hunter 77 = .ok (.aload_n 0, 1) := sdX7_hunter_76.2.1
theorem dX7_hunter_78 : decode cX7_hunter 78 = .ok (.getfield 26, 3) := sdX7_hunter_76.2.2.1
theorem dX7_hunter_81 : decode cX7_hunter 81 = .ok (.getfield 165, 3) := sdX7_hunter_76.2.2.2.1
theorem dX7_hunter_84 : decode cX7_hunter 84 = .ok (.iload_n 1, 1) := sdX7_hunter_76.2.2.2.2.1
theorem dX7_hunter_85 : decode cX7_hunter 85 = .ok (.invokestatic 175, 3) := sdX7_hunter_76.2.2.2.2.2.1
theorem dX7_hunter_88 : decode cX7_hunter 88 = .ok (.invokevirtual 134, 3) := sdX7_hunter_76.2.2.2.2.2.2.1
theorem dX7_hunter_91 : decode cX7_hunter 91 = .ok (.ireturn, 1) := sdX7_hunter_76.2.2.2.2.2.2.2.1
theorem sdX7_hunter_92 : dz_Seg cX7_hunter [(92, .aload_n 0, 1), (93, .aload_n 0, 1), (94, .getfield 26, 3), (97, .getfield 179, 3), (100, .iload_n 1, 1), (101, .invokestatic 175, 3), (104, .invokevirtual 134, 3), (107, .ireturn, 1)] := dz_sg _ 92 (by decide +kernel)
theorem dX7_hunter_92 : decode cX7_hunter 92 = .ok (.aload_n 0, 1) := sdX7_hunter_92.1
theorem dX7_hunter_93 : decode cX7_hunter 93 = .ok (.aload_n 0, 1) := sdX7_hunter_92.2.1
theorem dX7_hunter_94 : decode cX7_hunter 94 = .ok (.getfield 26, 3) := sdX7_hunter_92.2.2.1
theorem dX7_hunter_97 : decode cX7_hunter 97 = .ok (.getfield 179, 3) := sdX7_hunter_92.2.2.2.1
theorem dX7_hunter_100 : decode cX7_hunter 100 = .ok (.iload_n 1, 1) := sdX7_hunter_92.2.2.2.2.1
theorem dX7_hunter_101 : decode cX7_hunter 101 = .ok (.invokestatic 175, 3) := sdX7_hunter_92.2.2.2.2.2.1
theorem dX7_hunter_104 : decode cX7_hunter 104 = .ok (.invokevirtual 134, 3) := sdX7_hunter_92.2.2.2.2.2.2.1
theorem dX7_hunter_107 : decode cX7_hunter 107 = .ok (.ireturn, 1) := sdX7_hunter_92.2.2.2.2.2.2.2.1
theorem sdX7_hunter_108 : dz_Seg cX7_hunter [(108, .aload_n 0, 1), (109, .aload_n 0, 1), (110, .getfield 40, 3), (113, .getfield 182, 3), (116, .iload_n 1, 1), (117, .invokestatic 175, 3), (120, .invokevirtual 134, 3), (123, .ireturn, 1)] := dz_sg _ 108 (by decide +kernel)
theorem dX7_hunter_108 : decode cX7_hunter 108 = .ok (.aload_n 0, 1) := sdX7_hunter_108.1
theorem dX7_hunter_109 : decode cX7_hunter 109 = .ok (.aload_n 0, 1) := sdX7_hunter_108.2.1
theorem dX7_hunter_110 : decode cX7_hunter 110 = .ok (.getfield 40, 3) := sdX7_hunter_108.2.2.1
theorem dX7_hunter_113 : decode cX7_hunter 113 = .ok (.getfield 182, 3) := sdX7_hunter_108.2.2.2.1
theorem dX7_hunter_116 : decode cX7_hunter 116 = .ok (.iload_n 1, 1) := sdX7_hunter_108.2.2.2.2.1
theorem dX7_hunter_117 : decode cX7_hunter 117 = .ok (.invokestatic 175, 3) := sdX7_hunter_108.2.2.2.2.2.1
theorem dX7_hunter_120 : decode cX7_hunter 120 = .ok (.invokevirtual 134, 3) := sdX7_hunter_108.2.2.2.2.2.2.1
theorem dX7_hunter_123 : decode cX7_hunter 123 = .ok (.ireturn, 1) := sdX7_hunter_108.2.2.2.2.2.2.2.1
theorem sdX7_hunter_124 : dz_Seg cX7_hunter [(124, .aload_n 0, 1), (125, .aload_n 0, 1), (126, .getfield 26, 3), (129, .getfield 185, 3), (132, .iload_n 1, 1), (133, .invokestatic 175, 3), (136, .invokevirtual 134, 3), (139, .ireturn, 1)] := dz_sg _ 124 (by decide +kernel)
theorem dX7_hunter_124 : decode cX7_hunter 124 = .ok (.aload_n 0, 1) := sdX7_hunter_124.1
theorem dX7_hunter_125 : decode cX7_hunter 125 = .ok (.aload_n 0, 1) := sdX7_hunter_124.2.1
theorem dX7_hunter_126 : decode cX7_hunter 126 = .ok (.getfield 26, 3) := sdX7_hunter_124.2.2.1
theorem dX7_hunter_129 : decode cX7_hunter 129 = .ok (.getfield 185, 3) := sdX7_hunter_124.2.2.2.1
theorem dX7_hunter_132 : decode cX7_hunter 132 = .ok (.iload_n 1, 1) := sdX7_hunter_124.2.2.2.2.1
theorem dX7_hunter_133 : decode cX7_hunter 133 = .ok (.invokestatic 175, 3) := sdX7_hunter_124.2.2.2.2.2.1
theorem dX7_hunter_136 : decode cX7_hunter 136 = .ok (.invokevirtual 134, 3) := sdX7_hunter_124.2.2.2.2.2.2.1
theorem dX7_hunter_139 : decode cX7_hunter 139 = .ok (.ireturn, 1) := sdX7_hunter_124.2.2.2.2.2.2.2.1
theorem sdX7_unit_0 : dz_Seg cX7_unit [(0, .iload_n 2, 1), (1, .ifCond .lt 8, 3), (4, .iload_n 2, 1), (5, .iconst 5, 1), (6, .if_icmp .le 9, 3), (9, .aload_n 0, 1), (10, .iconst 1, 1), (11, .invokevirtual 102, 3)] := dz_sg _ 0 (by decide +kernel)
theorem dX7_unit_0 : decode cX7_unit 0 = .ok (.iload_n 2, 1) := sdX7_unit_0.1
theorem dX7_unit_1 : decode cX7_unit 1 = .ok (.ifCond .lt 8, 3) := sdX7_unit_0.2.1
theorem dX7_unit_4 : decode cX7_unit 4 = .ok (.iload_n 2, 1) := sdX7_unit_0.2.2.1
theorem dX7_unit_5 : decode cX7_unit 5 = .ok (.iconst 5, 1) := sdX7_unit_0.2.2.2.1
theorem dX7_unit_6 : decode cX7_unit 6 = .ok (.if_icmp .le 9, 3) := sdX7_unit_0.2.2.2.2.1
theorem dX7_unit_9 : decode cX7_unit 9 = .ok (.aload_n 0, 1) := sdX7_unit_0.2.2.2.2.2.1
theorem dX7_unit_10 : decode cX7_unit 10 = .ok (.iconst 1, 1) := sdX7_unit_0.2.2.2.2.2.2.1
theorem dX7_unit_11 : decode cX7_unit 11 = .ok (.invokevirtual 102, 3) := sdX7_unit_0.2.2.2.2.2.2.2.1
theorem sdX7_unit_14 : dz_Seg cX7_unit [(14, .ireturn, 1), (15, .aload_n 0, 1), (16, .iload_n 1, 1), (17, .invokevirtual 188, 3), (20, .ifCond .ne 9, 3), (23, .aload_n 0, 1), (24, .iconst 2, 1), (25, .invokevirtual 102, 3)] := dz_sg _ 14 (by decide +kernel)
theorem dX7_unit_14 : decode cX7_unit 14 = .ok (.ireturn, 1) := sdX7_unit_14.1
theorem dX7_unit_15 : decode cX7_unit 15 = .ok (.aload_n 0, 1) := sdX7_unit_14.2.1
theorem dX7_unit_16 : decode cX7_unit 16 = .ok (.iload_n 1, 1) := sdX7_unit_14.2.2.1
theorem dX7_unit_17 : decode cX7_unit 17 = .ok (.invokevirtual 188, 3) := sdX7_unit_14.2.2.2.1
theorem dX7_unit_20 : decode cX7_unit 20 = .ok (.ifCond .ne 9, 3) := sdX7_unit_14.2.2.2.2.1
theorem dX7_unit_23 : decode cX7_unit 23 = .ok (.aload_n 0, 1) := sdX7_unit_14.2.2.2.2.2.1
theorem dX7_unit_24 : decode cX7_unit 24 = .ok (.iconst 2, 1) := sdX7_unit_14.2.2.2.2.2.2.1
theorem dX7_unit_25 : decode cX7_unit 25 = .ok (.invokevirtual 102, 3) := sdX7_unit_14.2.2.2.2.2.2.2.1
theorem sdX7_unit_28 : dz_Seg cX7_unit [(28, .ireturn, 1), (29, .iload_n 2, 1)] := dz_sg _ 28 (by decide +kernel)
theorem dX7_unit_28 : decode cX7_unit 28 = .ok (.ireturn, 1) := sdX7_unit_28.1
theorem dX7_unit_29 : decode cX7_unit 29 = .ok (.iload_n 2, 1) := sdX7_unit_28.2.1
theorem dX7_unit_30 : decode cX7_unit 30 = .ok (.tableswitch 108 0 4 #[34, 50, 66, 82, 95], 34) := by decide +kernel
theorem sdX7_unit_64 : dz_Seg cX7_unit [(64, .aload_n 0, 1), (65, .aload_n 0, 1), (66, .getfield 26, 3), (69, .getfield 158, 3), (72, .iload_n 1, 1), (73, .invokestatic 175, 3), (76, .invokevirtual 134, 3), (79, .ireturn, 1)] := dz_sg _ 64 (by decide +kernel)
theorem dX7_unit_64 : decode cX7_unit 64 = .ok (.aload_n 0, 1) := sdX7_unit_64.1
theorem dX7_unit_65 : decode cX7_unit 65 = .ok (.aload_n 0, 1) := sdX7_unit_64.2.1
theorem dX7_unit_66 : decode cX7_unit 66 = .ok (.getfield 26, 3) := sdX7_unit_64.2.2.1
theorem dX7_unit_69 : decode cX7_unit 69 = .ok (.getfield 158, 3) := sdX7_unit_64.2.2.2.1
theorem dX7_unit_72 : decode cX7_unit 72 = .ok (.iload_n 1, 1) := sdX7_unit_64.2.2.2.2.1
theorem dX7_unit_73 : decode cX7_unit 73 = .ok (.invokestatic 175, 3) := sdX7_unit_64.2.2.2.2.2.1
theorem dX7_unit_76 : decode cX7_unit 76 = .ok (.invokevirtual 134, 3) := sdX7_unit_64.2.2.2.2.2.2.1
theorem dX7_unit_79 : decode cX7_unit 79 = .ok (.ireturn, 1) := sdX7_unit_64.2.2.2.2.2.2.2.1
theorem sdX7_unit_80 : dz_Seg cX7_unit [(80, .aload_n 0, 1), (81, .aload_n 0, 1), (82, .getfield 40, 3), (85, .getfield 191, 3), (88, .iload_n 1, 1), (89, .invokestatic 175, 3), (92, .invokevirtual 134, 3), (95, .ireturn, 1)] := dz_sg _ 80 (by decide +kernel)
theorem dX7_unit_80 : decode cX7_unit 80 = .ok (.aload_n 0, 1) := sdX7_unit_80.1
theorem dX7_unit_81 : decode cX7_unit 81 = .ok (.aload_n 0, 1) := sdX7_unit_80.2.1
theorem dX7_unit_82 : decode cX7_unit 82 = .ok (.getfield 40, 3) := sdX7_unit_80.2.2.1
theorem dX7_unit_85 : decode cX7_unit 85 = .ok (.getfield 191, 3) := sdX7_unit_80.2.2.2.1
theorem dX7_unit_88 : decode cX7_unit 88 = .ok (.iload_n 1, 1) := sdX7_unit_80.2.2.2.2.1
theorem dX7_unit_89 : decode cX7_unit 89 = .ok (.invokestatic 175, 3) := sdX7_unit_80.2.2.2.2.2.1
theorem dX7_unit_92 : decode cX7_unit 92 = .ok (.invokevirtual 134, 3) := sdX7_unit_80.2.2.2.2.2.2.1
theorem dX7_unit_95 : decode cX7_unit 95 = .ok (.ireturn, 1) := sdX7_unit_80.2.2.2.2.2.2.2.1
theorem sdX7_unit_96 : dz_Seg cX7_unit [(96, .aload_n 0, 1), (97, .aload_n 0, 1), (98, .getfield 40, 3), (101, .getfield 194, 3), (104, .iload_n 1, 1), (105, .invokestatic 175, 3), (108, .invokevirtual 134, 3), (111, .ireturn, 1)] := dz_sg _ 96 (by decide +kernel)
theorem dX7_unit_96 : decode cX7_unit 96 = .ok (.aload_n 0, 1) := sdX7_unit_96.1
theorem dX7_unit_97 : decode cX7_unit 97 = .ok (.aload_n 0, 1) := sdX7_unit_96.2.1
theorem dX7_unit_98 : decode cX7_unit 98 = .ok (.getfield 40, 3) := sdX7_unit_96.2.2.1
theorem dX7_unit_101 : decode cX7_unit 101 = .ok (.getfield 194, 3) := sdX7_unit_96.2.2.2.1
theorem dX7_unit_104 : decode cX7_unit 104 = .ok (.iload_n 1, 1) := sdX7_unit_96.2.2.2.2.1
theorem dX7_unit_105 : decode cX7_unit 105 = .ok (.invokestatic 175, 3) := sdX7_unit_96.2.2.2.2.2.1
theorem dX7_unit_108 : decode cX7_unit 108 = .ok (.invokevirtual 134, 3) := sdX7_unit_96.2.2.2.2.2.2.1
theorem dX7_unit_111 : decode cX7_unit 111 = .ok (.ireturn, 1) := sdX7_unit_96.2.2.2.2.2.2.2.1
theorem sdX7_unit_112 : dz_Seg cX7_unit [(112, .aload_n 0, 1), (113, .aload_n 0, 1), (114, .getfield 40, 3), (117, .iload_n 1, 1), (118, .invokevirtual 197, 3), (121, .invokevirtual 134, 3), (124, .ireturn, 1), (125, .aload_n 0, 1)] := dz_sg _ 112 (by decide +kernel)
theorem dX7_unit_112 : decode cX7_unit 112 = .ok (.aload_n 0, 1) := sdX7_unit_112.1
theorem dX7_unit_113 : decode cX7_unit 113 = .ok (.aload_n 0, 1) := sdX7_unit_112.2.1
theorem dX7_unit_114 : decode cX7_unit 114 = .ok (.getfield 40, 3) := sdX7_unit_112.2.2.1
theorem dX7_unit_117 : decode cX7_unit 117 = .ok (.iload_n 1, 1) := sdX7_unit_112.2.2.2.1
theorem dX7_unit_118 : decode cX7_unit 118 = .ok (.invokevirtual 197, 3) := sdX7_unit_112.2.2.2.2.1
theorem dX7_unit_121 : decode cX7_unit 121 = .ok (.invokevirtual 134, 3) := sdX7_unit_112.2.2.2.2.2.1
theorem dX7_unit_124 : decode cX7_unit 124 = .ok (.ireturn, 1) := sdX7_unit_112.2.2.2.2.2.2.1
theorem dX7_unit_125 : decode cX7_unit 125 = .ok (.aload_n 0, 1) := sdX7_unit_112.2.2.2.2.2.2.2.1
theorem sdX7_unit_126 : dz_Seg cX7_unit [(126, .aload_n 0, 1), (127, .getfield 40, 3), (130, .iload_n 1, 1), (131, .invokevirtual 200, 3), (134, .invokevirtual 134, 3), (137, .ireturn, 1), (138, .aload_n 0, 1), (139, .aload_n 0, 1)] := dz_sg _ 126 (by decide +kernel)
theorem dX7_unit_126 : decode cX7_unit 126 = .ok (.aload_n 0, 1) := sdX7_unit_126.1
theorem dX7_unit_127 : decode cX7_unit 127 = .ok (.getfield 40, 3) := sdX7_unit_126.2.1
theorem dX7_unit_130 : decode cX7_unit 130 = .ok (.iload_n 1, 1) := sdX7_unit_126.2.2.1
theorem dX7_unit_131 : decode cX7_unit 131 = .ok (.invokevirtual 200, 3) := sdX7_unit_126.2.2.2.1
theorem dX7_unit_134 : decode cX7_unit 134 = .ok (.invokevirtual 134, 3) := sdX7_unit_126.2.2.2.2.1
theorem dX7_unit_137 : decode cX7_unit 137 = .ok (.ireturn, 1) := sdX7_unit_126.2.2.2.2.2.1
theorem dX7_unit_138 : decode cX7_unit 138 = .ok (.aload_n 0, 1) := sdX7_unit_126.2.2.2.2.2.2.1
theorem dX7_unit_139 : decode cX7_unit 139 = .ok (.aload_n 0, 1) := sdX7_unit_126.2.2.2.2.2.2.2.1
theorem sdX7_unit_140 : dz_Seg cX7_unit [(140, .getfield 40, 3), (143, .iload_n 1, 1), (144, .invokevirtual 203, 3), (147, .invokevirtual 134, 3), (150, .ireturn, 1)] := dz_sg _ 140 (by decide +kernel)
theorem dX7_unit_140 : decode cX7_unit 140 = .ok (.getfield 40, 3) := sdX7_unit_140.1
theorem dX7_unit_143 : decode cX7_unit 143 = .ok (.iload_n 1, 1) := sdX7_unit_140.2.1
theorem dX7_unit_144 : decode cX7_unit 144 = .ok (.invokevirtual 203, 3) := sdX7_unit_140.2.2.1
theorem dX7_unit_147 : decode cX7_unit 147 = .ok (.invokevirtual 134, 3) := sdX7_unit_140.2.2.2.1
theorem dX7_unit_150 : decode cX7_unit 150 = .ok (.ireturn, 1) := sdX7_unit_140.2.2.2.2.1
theorem sdX7_applicant_0 : dz_Seg cX7_applicant [(0, .iload_n 2, 1), (1, .ifCond .lt 9, 3), (4, .iload_n 2, 1), (5, .bipush 6, 2), (7, .if_icmp .le 9, 3), (10, .aload_n 0, 1), (11, .iconst 1, 1), (12, .invokevirtual 102, 3)] := dz_sg _ 0 (by decide +kernel)
theorem dX7_applicant_0 : decode cX7_applicant 0 = .ok (.iload_n 2, 1) := sdX7_applicant_0.1
theorem dX7_applicant_1 : decode cX7_applicant 1 = .ok (.ifCond .lt 9, 3) := sdX7_applicant_0.2.1
theorem dX7_applicant_4 : decode cX7_applicant 4 = .ok (.iload_n 2, 1) := sdX7_applicant_0.2.2.1
theorem dX7_applicant_5 : decode cX7_applicant 5 = .ok (.bipush 6, 2) := sdX7_applicant_0.2.2.2.1
theorem dX7_applicant_7 : decode cX7_applicant 7 = .ok (.if_icmp .le 9, 3) := sdX7_applicant_0.2.2.2.2.1
theorem dX7_applicant_10 : decode cX7_applicant 10 = .ok (.aload_n 0, 1) := sdX7_applicant_0.2.2.2.2.2.1
theorem dX7_applicant_11 : decode cX7_applicant 11 = .ok (.iconst 1, 1) := sdX7_applicant_0.2.2.2.2.2.2.1
theorem dX7_applicant_12 : decode cX7_applicant 12 = .ok (.invokevirtual 102, 3) := sdX7_applicant_0.2.2.2.2.2.2.2.1
theorem sdX7_applicant_15 : dz_Seg cX7_applicant [(15, .ireturn, 1), (16, .aload_n 0, 1), (17, .iload_n 1, 1), (18, .invokevirtual 206, 3), (21, .ifCond .ne 9, 3), (24, .aload_n 0, 1), (25, .iconst 2, 1), (26, .invokevirtual 102, 3)] := dz_sg _ 15 (by decide +kernel)
theorem dX7_applicant_15 : decode cX7_applicant 15 = .ok (.ireturn, 1) := sdX7_applicant_15.1
theorem dX7_applicant_16 : decode cX7_applicant 16 = .ok (.aload_n 0, 1) := sdX7_applicant_15.2.1
theorem dX7_applicant_17 : decode cX7_applicant 17 = .ok (.iload_n 1, 1) := sdX7_applicant_15.2.2.1
theorem dX7_applicant_18 : decode cX7_applicant 18 = .ok (.invokevirtual 206, 3) := sdX7_applicant_15.2.2.2.1
theorem dX7_applicant_21 : decode cX7_applicant 21 = .ok (.ifCond .ne 9, 3) := sdX7_applicant_15.2.2.2.2.1
theorem dX7_applicant_24 : decode cX7_applicant 24 = .ok (.aload_n 0, 1) := sdX7_applicant_15.2.2.2.2.2.1
theorem dX7_applicant_25 : decode cX7_applicant 25 = .ok (.iconst 2, 1) := sdX7_applicant_15.2.2.2.2.2.2.1
theorem dX7_applicant_26 : decode cX7_applicant 26 = .ok (.invokevirtual 102, 3) := sdX7_applicant_15.2.2.2.2.2.2.2.1
theorem sdX7_applicant_29 : dz_Seg cX7_applicant [(29, .ireturn, 1), (30, .iload_n 2, 1)] := dz_sg _ 29 (by decide +kernel)
theorem dX7_applicant_29 : decode cX7_applicant 29 = .ok (.ireturn, 1) := sdX7_applicant_29.1
theorem dX7_applicant_30 : decode cX7_applicant 30 = .ok (.iload_n 2, 1) := sdX7_applicant_29.2.1
theorem dX7_applicant_31 : decode cX7_applicant 31 = .ok (.tableswitch 133 0 5 #[37, 53, 69, 85, 101, 117], 37) := by decide +kernel
theorem sdX7_applicant_68 : dz_Seg cX7_applicant [(68, .aload_n 0, 1), (69, .aload_n 0, 1), (70, .getfield 40, 3), (73, .getfield 209, 3), (76, .iload_n 1, 1), (77, .invokestatic 175, 3), (80, .invokevirtual 134, 3), (83, .ireturn, 1)] := dz_sg _ 68 (by decide +kernel)
theorem dX7_applicant_68 : decode cX7_applicant 68 = .ok (.aload_n 0, 1) := sdX7_applicant_68.1
theorem dX7_applicant_69 : decode cX7_applicant 69 = .ok (.aload_n 0, 1) := sdX7_applicant_68.2.1
theorem dX7_applicant_70 : decode cX7_applicant 70 = .ok (.getfield 40, 3) := sdX7_applicant_68.2.2.1
theorem dX7_applicant_73 : decode cX7_applicant 73 = .ok (.getfield 209, 3) := sdX7_applicant_68.2.2.2.1
theorem dX7_applicant_76 : decode cX7_applicant 76 = .ok (.iload_n 1, 1) := sdX7_applicant_68.2.2.2.2.1
theorem dX7_applicant_77 : decode cX7_applicant 77 = .ok (.invokestatic 175, 3) := sdX7_applicant_68.2.2.2.2.2.1
theorem dX7_applicant_80 : decode cX7_applicant 80 = .ok (.invokevirtual 134, 3) := sdX7_applicant_68.2.2.2.2.2.2.1
theorem dX7_applicant_83 : decode cX7_applicant 83 = .ok (.ireturn, 1) := sdX7_applicant_68.2.2.2.2.2.2.2.1
theorem sdX7_applicant_84 : dz_Seg cX7_applicant [(84, .aload_n 0, 1), (85, .aload_n 0, 1), (86, .getfield 40, 3), (89, .getfield 212, 3), (92, .iload_n 1, 1), (93, .invokestatic 175, 3), (96, .invokevirtual 134, 3), (99, .ireturn, 1)] := dz_sg _ 84 (by decide +kernel)
theorem dX7_applicant_84 : decode cX7_applicant 84 = .ok (.aload_n 0, 1) := sdX7_applicant_84.1
theorem dX7_applicant_85 : decode cX7_applicant 85 = .ok (.aload_n 0, 1) := sdX7_applicant_84.2.1
theorem dX7_applicant_86 : decode cX7_applicant 86 = .ok (.getfield 40, 3) := sdX7_applicant_84.2.2.1
theorem dX7_applicant_89 : decode cX7_applicant 89 = .ok (.getfield 212, 3) := sdX7_applicant_84.2.2.2.1
theorem dX7_applicant_92 : decode cX7_applicant 92 = .ok (.iload_n 1, 1) := sdX7_applicant_84.2.2.2.2.1
theorem dX7_applicant_93 : decode cX7_applicant 93 = .ok (.invokestatic 175, 3) := sdX7_applicant_84.2.2.2.2.2.1
theorem dX7_applicant_96 : decode cX7_applicant 96 = .ok (.invokevirtual 134, 3) := sdX7_applicant_84.2.2.2.2.2.2.1
theorem dX7_applicant_99 : decode cX7_applicant 99 = .ok (.ireturn, 1) := sdX7_applicant_84.2.2.2.2.2.2.2.1
theorem sdX7_applicant_100 : dz_Seg cX7_applicant [(100, .aload_n 0, 1), (101, .aload_n 0, 1), (102, .getfield 40, 3), (105, .getfield 215, 3), (108, .iload_n 1, 1), (109, .invokestatic 175, 3), (112, .invokevirtual 134, 3), (115, .ireturn, 1)] := dz_sg _ 100 (by decide +kernel)
theorem dX7_applicant_100 : decode cX7_applicant 100 = .ok (.aload_n 0, 1) := sdX7_applicant_100.1
theorem dX7_applicant_101 : decode cX7_applicant 101 = .ok (.aload_n 0, 1) := sdX7_applicant_100.2.1
theorem dX7_applicant_102 : decode cX7_applicant 102 = .ok (.getfield 40, 3) := sdX7_applicant_100.2.2.1
theorem dX7_applicant_105 : decode cX7_applicant 105 = .ok (.getfield 215, 3) := sdX7_applicant_100.2.2.2.1
theorem dX7_applicant_108 : decode cX7_applicant 108 = .ok (.iload_n 1, 1) := sdX7_applicant_100.2.2.2.2.1
theorem dX7_applicant_109 : decode cX7_applicant 109 = .ok (.invokestatic 175, 3) := sdX7_applicant_100.2.2.2.2.2.1
theorem dX7_applicant_112 : decode cX7_applicant 112 = .ok (.invokevirtual 134, 3) := sdX7_applicant_100.2.2.2.2.2.2.1
theorem dX7_applicant_115 : decode cX7_applicant 115 = .ok (.ireturn, 1) := sdX7_applicant_100.2.2.2.2.2.2.2.1
theorem sdX7_applicant_116 : dz_Seg cX7_applicant [(116, .aload_n 0, 1), (117, .aload_n 0, 1), (118, .getfield 40, 3), (121, .getfield 216, 3), (124, .iload_n 1, 1), (125, .invokestatic 175, 3), (128, .invokevirtual 134, 3), (131, .ireturn, 1)] := dz_sg _ 116 (by decide +kernel)
theorem dX7_applicant_116 : decode cX7_applicant 116 = .ok (.aload_n 0, 1) := sdX7_applicant_116.1
theorem dX7_applicant_117 : decode cX7_applicant 117 = .ok (.aload_n 0, 1) := sdX7_applicant_116.2.1
theorem dX7_applicant_118 : decode cX7_applicant 118 = .ok (.getfield 40, 3) := sdX7_applicant_116.2.2.1
theorem dX7_applicant_121 : decode cX7_applicant 121 = .ok (.getfield 216, 3) := sdX7_applicant_116.2.2.2.1
theorem dX7_applicant_124 : decode cX7_applicant 124 = .ok (.iload_n 1, 1) := sdX7_applicant_116.2.2.2.2.1
theorem dX7_applicant_125 : decode cX7_applicant 125 = .ok (.invokestatic 175, 3) := sdX7_applicant_116.2.2.2.2.2.1
theorem dX7_applicant_128 : decode cX7_applicant 128 = .ok (.invokevirtual 134, 3) := sdX7_applicant_116.2.2.2.2.2.2.1
theorem dX7_applicant_131 : decode cX7_applicant 131 = .ok (.ireturn, 1) := sdX7_applicant_116.2.2.2.2.2.2.2.1
theorem sdX7_applicant_132 : dz_Seg cX7_applicant [(132, .aload_n 0, 1), (133, .aload_n 0, 1), (134, .getfield 40, 3), (137, .getfield 219, 3), (140, .iload_n 1, 1), (141, .invokestatic 175, 3), (144, .invokevirtual 134, 3), (147, .ireturn, 1)] := dz_sg _ 132 (by decide +kernel)
theorem dX7_applicant_132 : decode cX7_applicant 132 = .ok (.aload_n 0, 1) := sdX7_applicant_132.1
theorem dX7_applicant_133 : decode cX7_applicant 133 = .ok (.aload_n 0, 1) := sdX7_applicant_132.2.1
theorem dX7_applicant_134 : decode cX7_applicant 134 = .ok (.getfield 40, 3) := sdX7_applicant_132.2.2.1
theorem dX7_applicant_137 : decode cX7_applicant 137 = .ok (.getfield 219, 3) := sdX7_applicant_132.2.2.2.1
theorem dX7_applicant_140 : decode cX7_applicant 140 = .ok (.iload_n 1, 1) := sdX7_applicant_132.2.2.2.2.1
theorem dX7_applicant_141 : decode cX7_applicant 141 = .ok (.invokestatic 175, 3) := sdX7_applicant_132.2.2.2.2.2.1
theorem dX7_applicant_144 : decode cX7_applicant 144 = .ok (.invokevirtual 134, 3) := sdX7_applicant_132.2.2.2.2.2.2.1
theorem dX7_applicant_147 : decode cX7_applicant 147 = .ok (.ireturn, 1) := sdX7_applicant_132.2.2.2.2.2.2.2.1
theorem sdX7_applicant_148 : dz_Seg cX7_applicant [(148, .aload_n 0, 1), (149, .aload_n 0, 1), (150, .getfield 40, 3), (153, .getfield 222, 3), (156, .iload_n 1, 1), (157, .invokestatic 175, 3), (160, .invokevirtual 134, 3), (163, .ireturn, 1)] := dz_sg _ 148 (by decide +kernel)
theorem dX7_applicant_148 : decode cX7_applicant 148 = .ok (.aload_n 0, 1) := sdX7_applicant_148.1
theorem dX7_applicant_149 : decode cX7_applicant 149 = .ok (.aload_n 0, 1) := sdX7_applicant_148.2.1
theorem dX7_applicant_150 : decode cX7_applicant 150 = .ok (.getfield 40, 3) := sdX7_applicant_148.2.2.1
theorem dX7_applicant_153 : decode cX7_applicant 153 = .ok (.getfield 222, 3) := sdX7_applicant_148.2.2.2.1
theorem dX7_applicant_156 : decode cX7_applicant 156 = .ok (.iload_n 1, 1) := sdX7_applicant_148.2.2.2.2.1
theorem dX7_applicant_157 : decode cX7_applicant 157 = .ok (.invokestatic 175, 3) := sdX7_applicant_148.2.2.2.2.2.1
theorem dX7_applicant_160 : decode cX7_applicant 160 = .ok (.invokevirtual 134, 3) := sdX7_applicant_148.2.2.2.2.2.2.1
theorem dX7_applicant_163 : decode cX7_applicant 163 = .ok (.ireturn, 1) := sdX7_applicant_148.2.2.2.2.2.2.2.1
theorem sdX7_applicant_164 : dz_Seg cX7_applicant [(164, .aload_n 0, 1), (165, .aload_n 0, 1), (166, .getfield 40, 3), (169, .getfield 225, 3), (172, .iload_n 1, 1), (173, .invokestatic 175, 3), (176, .invokevirtual 134, 3), (179, .ireturn, 1)] := dz_sg _ 164 (by decide +kernel)
theorem dX7_applicant_164 : decode cX7_applicant 164 = .ok (.aload_n 0, 1) := sdX7_applicant_164.1
theorem dX7_applicant_165 : decode cX7_applicant 165 = .ok (.aload_n 0, 1) := sdX7_applicant_164.2.1
theorem dX7_applicant_166 : decode cX7_applicant 166 = .ok (.getfield 40, 3) := sdX7_applicant_164.2.2.1
theorem dX7_applicant_169 : decode cX7_applicant 169 = .ok (.getfield 225, 3) := sdX7_applicant_164.2.2.2.1
theorem dX7_applicant_172 : decode cX7_applicant 172 = .ok (.iload_n 1, 1) := sdX7_applicant_164.2.2.2.2.1
theorem dX7_applicant_173 : decode cX7_applicant 173 = .ok (.invokestatic 175, 3) := sdX7_applicant_164.2.2.2.2.2.1
theorem dX7_applicant_176 : decode cX7_applicant 176 = .ok (.invokevirtual 134, 3) := sdX7_applicant_164.2.2.2.2.2.2.1
theorem dX7_applicant_179 : decode cX7_applicant 179 = .ok (.ireturn, 1) := sdX7_applicant_164.2.2.2.2.2.2.2.1
theorem sdX7_choice_0 : dz_Seg cX7_choice [(0, .iload_n 2, 1), (1, .ifCond .ge 9, 3), (4, .aload_n 0, 1), (5, .iconst 1, 1), (6, .invokevirtual 102, 3), (9, .ireturn, 1), (10, .aload_n 0, 1), (11, .iload_n 1, 1)] := dz_sg _ 0 (by decide +kernel)
theorem dX7_choice_0 : decode cX7_choice 0 = .ok (.iload_n 2, 1) := sdX7_choice_0.1
theorem dX7_choice_1 : decode cX7_choice 1 = .ok (.ifCond .ge 9, 3) := sdX7_choice_0.2.1
theorem dX7_choice_4 : decode cX7_choice 4 = .ok (.aload_n 0, 1) := sdX7_choice_0.2.2.1
theorem dX7_choice_5 : decode cX7_choice 5 = .ok (.iconst 1, 1) := sdX7_choice_0.2.2.2.1
theorem dX7_choice_6 : decode cX7_choice 6 = .ok (.invokevirtual 102, 3) := sdX7_choice_0.2.2.2.2.1
theorem dX7_choice_9 : decode cX7_choice 9 = .ok (.ireturn, 1) := sdX7_choice_0.2.2.2.2.2.1
theorem dX7_choice_10 : decode cX7_choice 10 = .ok (.aload_n 0, 1) := sdX7_choice_0.2.2.2.2.2.2.1
theorem dX7_choice_11 : decode cX7_choice 11 = .ok (.iload_n 1, 1) := sdX7_choice_0.2.2.2.2.2.2.2.1
theorem sdX7_choice_12 : dz_Seg cX7_choice [(12, .invokevirtual 206, 3), (15, .ifCond .ne 9, 3), (18, .aload_n 0, 1), (19, .iconst 2, 1), (20, .invokevirtual 102, 3), (23, .ireturn, 1), (24, .iload_n 2, 1), (25, .aload_n 0, 1)] := dz_sg _ 12 (by decide +kernel)
theorem dX7_choice_12 : decode cX7_choice 12 = .ok (.invokevirtual 206, 3) := sdX7_choice_12.1
theorem dX7_choice_15 : decode cX7_choice 15 = .ok (.ifCond .ne 9, 3) := sdX7_choice_12.2.1
theorem dX7_choice_18 : decode cX7_choice 18 = .ok (.aload_n 0, 1) := sdX7_choice_12.2.2.1
theorem dX7_choice_19 : decode cX7_choice 19 = .ok (.iconst 2, 1) := sdX7_choice_12.2.2.2.1
theorem dX7_choice_20 : decode cX7_choice 20 = .ok (.invokevirtual 102, 3) := sdX7_choice_12.2.2.2.2.1
theorem dX7_choice_23 : decode cX7_choice 23 = .ok (.ireturn, 1) := sdX7_choice_12.2.2.2.2.2.1
theorem dX7_choice_24 : decode cX7_choice 24 = .ok (.iload_n 2, 1) := sdX7_choice_12.2.2.2.2.2.2.1
theorem dX7_choice_25 : decode cX7_choice 25 = .ok (.aload_n 0, 1) := sdX7_choice_12.2.2.2.2.2.2.2.1
theorem sdX7_choice_26 : dz_Seg cX7_choice [(26, .getfield 40, 3), (29, .getfield 219, 3), (32, .iload_n 1, 1), (33, .invokestatic 175, 3), (36, .if_icmp .lt 9, 3), (39, .aload_n 0, 1), (40, .iconst 5, 1), (41, .invokevirtual 102, 3)] := dz_sg _ 26 (by decide +kernel)
theorem dX7_choice_26 : decode cX7_choice 26 = .ok (.getfield 40, 3) := sdX7_choice_26.1
theorem dX7_choice_29 : decode cX7_choice 29 = .ok (.getfield 219, 3) := sdX7_choice_26.2.1
theorem dX7_choice_32 : decode cX7_choice 32 = .ok (.iload_n 1, 1) := sdX7_choice_26.2.2.1
theorem dX7_choice_33 : decode cX7_choice 33 = .ok (.invokestatic 175, 3) := sdX7_choice_26.2.2.2.1
theorem dX7_choice_36 : decode cX7_choice 36 = .ok (.if_icmp .lt 9, 3) := sdX7_choice_26.2.2.2.2.1
theorem dX7_choice_39 : decode cX7_choice 39 = .ok (.aload_n 0, 1) := sdX7_choice_26.2.2.2.2.2.1
theorem dX7_choice_40 : decode cX7_choice 40 = .ok (.iconst 5, 1) := sdX7_choice_26.2.2.2.2.2.2.1
theorem dX7_choice_41 : decode cX7_choice 41 = .ok (.invokevirtual 102, 3) := sdX7_choice_26.2.2.2.2.2.2.2.1
theorem sdX7_choice_44 : dz_Seg cX7_choice [(44, .ireturn, 1), (45, .aload_n 0, 1), (46, .aload_n 0, 1), (47, .getfield 40, 3), (50, .iload_n 1, 1), (51, .iload_n 2, 1), (52, .invokevirtual 226, 3), (55, .invokevirtual 134, 3)] := dz_sg _ 44 (by decide +kernel)
theorem dX7_choice_44 : decode cX7_choice 44 = .ok (.ireturn, 1) := sdX7_choice_44.1
theorem dX7_choice_45 : decode cX7_choice 45 = .ok (.aload_n 0, 1) := sdX7_choice_44.2.1
theorem dX7_choice_46 : decode cX7_choice 46 = .ok (.aload_n 0, 1) := sdX7_choice_44.2.2.1
theorem dX7_choice_47 : decode cX7_choice 47 = .ok (.getfield 40, 3) := sdX7_choice_44.2.2.2.1
theorem dX7_choice_50 : decode cX7_choice 50 = .ok (.iload_n 1, 1) := sdX7_choice_44.2.2.2.2.1
theorem dX7_choice_51 : decode cX7_choice 51 = .ok (.iload_n 2, 1) := sdX7_choice_44.2.2.2.2.2.1
theorem dX7_choice_52 : decode cX7_choice 52 = .ok (.invokevirtual 226, 3) := sdX7_choice_44.2.2.2.2.2.2.1
theorem dX7_choice_55 : decode cX7_choice 55 = .ok (.invokevirtual 134, 3) := sdX7_choice_44.2.2.2.2.2.2.2.1
theorem sdX7_choice_58 : dz_Seg cX7_choice [(58, .ireturn, 1)] := dz_sg _ 58 (by decide +kernel)
theorem dX7_choice_58 : decode cX7_choice 58 = .ok (.ireturn, 1) := sdX7_choice_58.1
theorem sdX7_order_0 : dz_Seg cX7_order [(0, .iload_n 1, 1), (1, .invokestatic 237, 3), (4, .ifCond .eq 7, 3), (7, .iload_n 2, 1), (8, .ifCond .ge 9, 3), (11, .aload_n 0, 1), (12, .iconst 1, 1), (13, .invokevirtual 102, 3)] := dz_sg _ 0 (by decide +kernel)
theorem dX7_order_0 : decode cX7_order 0 = .ok (.iload_n 1, 1) := sdX7_order_0.1
theorem dX7_order_1 : decode cX7_order 1 = .ok (.invokestatic 237, 3) := sdX7_order_0.2.1
theorem dX7_order_4 : decode cX7_order 4 = .ok (.ifCond .eq 7, 3) := sdX7_order_0.2.2.1
theorem dX7_order_7 : decode cX7_order 7 = .ok (.iload_n 2, 1) := sdX7_order_0.2.2.2.1
theorem dX7_order_8 : decode cX7_order 8 = .ok (.ifCond .ge 9, 3) := sdX7_order_0.2.2.2.2.1
theorem dX7_order_11 : decode cX7_order 11 = .ok (.aload_n 0, 1) := sdX7_order_0.2.2.2.2.2.1
theorem dX7_order_12 : decode cX7_order 12 = .ok (.iconst 1, 1) := sdX7_order_0.2.2.2.2.2.2.1
theorem dX7_order_13 : decode cX7_order 13 = .ok (.invokevirtual 102, 3) := sdX7_order_0.2.2.2.2.2.2.2.1
theorem sdX7_order_16 : dz_Seg cX7_order [(16, .ireturn, 1), (17, .iload_n 2, 1), (18, .aload_n 0, 1), (19, .getfield 40, 3), (22, .getfield 140, 3), (25, .if_icmp .lt 9, 3), (28, .aload_n 0, 1), (29, .iconst 5, 1)] := dz_sg _ 16 (by decide +kernel)
theorem dX7_order_16 : decode cX7_order 16 = .ok (.ireturn, 1) := sdX7_order_16.1
theorem dX7_order_17 : decode cX7_order 17 = .ok (.iload_n 2, 1) := sdX7_order_16.2.1
theorem dX7_order_18 : decode cX7_order 18 = .ok (.aload_n 0, 1) := sdX7_order_16.2.2.1
theorem dX7_order_19 : decode cX7_order 19 = .ok (.getfield 40, 3) := sdX7_order_16.2.2.2.1
theorem dX7_order_22 : decode cX7_order 22 = .ok (.getfield 140, 3) := sdX7_order_16.2.2.2.2.1
theorem dX7_order_25 : decode cX7_order 25 = .ok (.if_icmp .lt 9, 3) := sdX7_order_16.2.2.2.2.2.1
theorem dX7_order_28 : decode cX7_order 28 = .ok (.aload_n 0, 1) := sdX7_order_16.2.2.2.2.2.2.1
theorem dX7_order_29 : decode cX7_order 29 = .ok (.iconst 5, 1) := sdX7_order_16.2.2.2.2.2.2.2.1
theorem sdX7_order_30 : dz_Seg cX7_order [(30, .invokevirtual 102, 3), (33, .ireturn, 1), (34, .aload_n 0, 1), (35, .getfield 47, 3), (38, .aload_n 0, 1), (39, .getfield 40, 3), (42, .iload_n 1, 1), (43, .invokevirtual 240, 3)] := dz_sg _ 30 (by decide +kernel)
theorem dX7_order_30 : decode cX7_order 30 = .ok (.invokevirtual 102, 3) := sdX7_order_30.1
theorem dX7_order_33 : decode cX7_order 33 = .ok (.ireturn, 1) := sdX7_order_30.2.1
theorem dX7_order_34 : decode cX7_order 34 = .ok (.aload_n 0, 1) := sdX7_order_30.2.2.1
theorem dX7_order_35 : decode cX7_order 35 = .ok (.getfield 47, 3) := sdX7_order_30.2.2.2.1
theorem dX7_order_38 : decode cX7_order 38 = .ok (.aload_n 0, 1) := sdX7_order_30.2.2.2.2.1
theorem dX7_order_39 : decode cX7_order 39 = .ok (.getfield 40, 3) := sdX7_order_30.2.2.2.2.2.1
theorem dX7_order_42 : decode cX7_order 42 = .ok (.iload_n 1, 1) := sdX7_order_30.2.2.2.2.2.2.1
theorem dX7_order_43 : decode cX7_order 43 = .ok (.invokevirtual 240, 3) := sdX7_order_30.2.2.2.2.2.2.2.1
theorem sdX7_order_46 : dz_Seg cX7_order [(46, .aload_n 0, 1), (47, .aload_n 0, 1), (48, .getfield 47, 3), (51, .getfield 244, 3), (54, .iload_n 2, 1), (55, .invokestatic 175, 3), (58, .invokevirtual 134, 3), (61, .ireturn, 1)] := dz_sg _ 46 (by decide +kernel)
theorem dX7_order_46 : decode cX7_order 46 = .ok (.aload_n 0, 1) := sdX7_order_46.1
theorem dX7_order_47 : decode cX7_order 47 = .ok (.aload_n 0, 1) := sdX7_order_46.2.1
theorem dX7_order_48 : decode cX7_order 48 = .ok (.getfield 47, 3) := sdX7_order_46.2.2.1
theorem dX7_order_51 : decode cX7_order 51 = .ok (.getfield 244, 3) := sdX7_order_46.2.2.2.1
theorem dX7_order_54 : decode cX7_order 54 = .ok (.iload_n 2, 1) := sdX7_order_46.2.2.2.2.1
theorem dX7_order_55 : decode cX7_order 55 = .ok (.invokestatic 175, 3) := sdX7_order_46.2.2.2.2.2.1
theorem dX7_order_58 : decode cX7_order 58 = .ok (.invokevirtual 134, 3) := sdX7_order_46.2.2.2.2.2.2.1
theorem dX7_order_61 : decode cX7_order 61 = .ok (.ireturn, 1) := sdX7_order_46.2.2.2.2.2.2.2.1
theorem sdX7_drawn_0 : dz_Seg cX7_drawn [(0, .iload_n 1, 1), (1, .invokestatic 237, 3), (4, .ifCond .ne 9, 3), (7, .aload_n 0, 1), (8, .iconst 1, 1), (9, .invokevirtual 102, 3), (12, .ireturn, 1), (13, .aload_n 0, 1)] := dz_sg _ 0 (by decide +kernel)
theorem dX7_drawn_0 : decode cX7_drawn 0 = .ok (.iload_n 1, 1) := sdX7_drawn_0.1
theorem dX7_drawn_1 : decode cX7_drawn 1 = .ok (.invokestatic 237, 3) := sdX7_drawn_0.2.1
theorem dX7_drawn_4 : decode cX7_drawn 4 = .ok (.ifCond .ne 9, 3) := sdX7_drawn_0.2.2.1
theorem dX7_drawn_7 : decode cX7_drawn 7 = .ok (.aload_n 0, 1) := sdX7_drawn_0.2.2.2.1
theorem dX7_drawn_8 : decode cX7_drawn 8 = .ok (.iconst 1, 1) := sdX7_drawn_0.2.2.2.2.1
theorem dX7_drawn_9 : decode cX7_drawn 9 = .ok (.invokevirtual 102, 3) := sdX7_drawn_0.2.2.2.2.2.1
theorem dX7_drawn_12 : decode cX7_drawn 12 = .ok (.ireturn, 1) := sdX7_drawn_0.2.2.2.2.2.2.1
theorem dX7_drawn_13 : decode cX7_drawn 13 = .ok (.aload_n 0, 1) := sdX7_drawn_0.2.2.2.2.2.2.2.1
theorem sdX7_drawn_14 : dz_Seg cX7_drawn [(14, .iload_n 2, 1), (15, .invokevirtual 206, 3), (18, .ifCond .ne 9, 3), (21, .aload_n 0, 1), (22, .iconst 2, 1), (23, .invokevirtual 102, 3), (26, .ireturn, 1), (27, .aload_n 0, 1)] := dz_sg _ 14 (by decide +kernel)
theorem dX7_drawn_14 : decode cX7_drawn 14 = .ok (.iload_n 2, 1) := sdX7_drawn_14.1
theorem dX7_drawn_15 : decode cX7_drawn 15 = .ok (.invokevirtual 206, 3) := sdX7_drawn_14.2.1
theorem dX7_drawn_18 : decode cX7_drawn 18 = .ok (.ifCond .ne 9, 3) := sdX7_drawn_14.2.2.1
theorem dX7_drawn_21 : decode cX7_drawn 21 = .ok (.aload_n 0, 1) := sdX7_drawn_14.2.2.2.1
theorem dX7_drawn_22 : decode cX7_drawn 22 = .ok (.iconst 2, 1) := sdX7_drawn_14.2.2.2.2.1
theorem dX7_drawn_23 : decode cX7_drawn 23 = .ok (.invokevirtual 102, 3) := sdX7_drawn_14.2.2.2.2.2.1
theorem dX7_drawn_26 : decode cX7_drawn 26 = .ok (.ireturn, 1) := sdX7_drawn_14.2.2.2.2.2.2.1
theorem dX7_drawn_27 : decode cX7_drawn 27 = .ok (.aload_n 0, 1) := sdX7_drawn_14.2.2.2.2.2.2.2.1
theorem sdX7_drawn_28 : dz_Seg cX7_drawn [(28, .getfield 47, 3), (31, .aload_n 0, 1), (32, .getfield 40, 3), (35, .iload_n 1, 1), (36, .invokevirtual 247, 3), (39, .aload_n 0, 1), (40, .getfield 47, 3), (43, .getfield 250, 3)] := dz_sg _ 28 (by decide +kernel)
theorem dX7_drawn_28 : decode cX7_drawn 28 = .ok (.getfield 47, 3) := sdX7_drawn_28.1
theorem dX7_drawn_31 : decode cX7_drawn 31 = .ok (.aload_n 0, 1) := sdX7_drawn_28.2.1
theorem dX7_drawn_32 : decode cX7_drawn 32 = .ok (.getfield 40, 3) := sdX7_drawn_28.2.2.1
theorem dX7_drawn_35 : decode cX7_drawn 35 = .ok (.iload_n 1, 1) := sdX7_drawn_28.2.2.2.1
theorem dX7_drawn_36 : decode cX7_drawn 36 = .ok (.invokevirtual 247, 3) := sdX7_drawn_28.2.2.2.2.1
theorem dX7_drawn_39 : decode cX7_drawn 39 = .ok (.aload_n 0, 1) := sdX7_drawn_28.2.2.2.2.2.1
theorem dX7_drawn_40 : decode cX7_drawn 40 = .ok (.getfield 47, 3) := sdX7_drawn_28.2.2.2.2.2.2.1
theorem dX7_drawn_43 : decode cX7_drawn 43 = .ok (.getfield 250, 3) := sdX7_drawn_28.2.2.2.2.2.2.2.1
theorem sdX7_drawn_46 : dz_Seg cX7_drawn [(46, .iload_n 2, 1), (47, .invokestatic 175, 3), (50, .istore_n 3, 1), (51, .iload_n 3, 1), (52, .iconst (-1), 1), (53, .if_icmp .ne 11, 3), (56, .aload_n 0, 1), (57, .iconst 5, 1)] := dz_sg _ 46 (by decide +kernel)
theorem dX7_drawn_46 : decode cX7_drawn 46 = .ok (.iload_n 2, 1) := sdX7_drawn_46.1
theorem dX7_drawn_47 : decode cX7_drawn 47 = .ok (.invokestatic 175, 3) := sdX7_drawn_46.2.1
theorem dX7_drawn_50 : decode cX7_drawn 50 = .ok (.istore_n 3, 1) := sdX7_drawn_46.2.2.1
theorem dX7_drawn_51 : decode cX7_drawn 51 = .ok (.iload_n 3, 1) := sdX7_drawn_46.2.2.2.1
theorem dX7_drawn_52 : decode cX7_drawn 52 = .ok (.iconst (-1), 1) := sdX7_drawn_46.2.2.2.2.1
theorem dX7_drawn_53 : decode cX7_drawn 53 = .ok (.if_icmp .ne 11, 3) := sdX7_drawn_46.2.2.2.2.2.1
theorem dX7_drawn_56 : decode cX7_drawn 56 = .ok (.aload_n 0, 1) := sdX7_drawn_46.2.2.2.2.2.2.1
theorem dX7_drawn_57 : decode cX7_drawn 57 = .ok (.iconst 5, 1) := sdX7_drawn_46.2.2.2.2.2.2.2.1
theorem sdX7_drawn_58 : dz_Seg cX7_drawn [(58, .invokevirtual 102, 3), (61, .goto 8, 3), (64, .aload_n 0, 1), (65, .iload_n 3, 1), (66, .invokevirtual 134, 3), (69, .ireturn, 1)] := dz_sg _ 58 (by decide +kernel)
theorem dX7_drawn_58 : decode cX7_drawn 58 = .ok (.invokevirtual 102, 3) := sdX7_drawn_58.1
theorem dX7_drawn_61 : decode cX7_drawn 61 = .ok (.goto 8, 3) := sdX7_drawn_58.2.1
theorem dX7_drawn_64 : decode cX7_drawn 64 = .ok (.aload_n 0, 1) := sdX7_drawn_58.2.2.1
theorem dX7_drawn_65 : decode cX7_drawn 65 = .ok (.iload_n 3, 1) := sdX7_drawn_58.2.2.2.1
theorem dX7_drawn_66 : decode cX7_drawn 66 = .ok (.invokevirtual 134, 3) := sdX7_drawn_58.2.2.2.2.1
theorem dX7_drawn_69 : decode cX7_drawn 69 = .ok (.ireturn, 1) := sdX7_drawn_58.2.2.2.2.2.1
theorem sdX7_round_0 : dz_Seg cX7_round [(0, .iload_n 1, 1), (1, .invokestatic 237, 3), (4, .ifCond .ne 9, 3), (7, .aload_n 0, 1), (8, .iconst 1, 1), (9, .invokevirtual 102, 3), (12, .ireturn, 1), (13, .aload_n 0, 1)] := dz_sg _ 0 (by decide +kernel)
theorem dX7_round_0 : decode cX7_round 0 = .ok (.iload_n 1, 1) := sdX7_round_0.1
theorem dX7_round_1 : decode cX7_round 1 = .ok (.invokestatic 237, 3) := sdX7_round_0.2.1
theorem dX7_round_4 : decode cX7_round 4 = .ok (.ifCond .ne 9, 3) := sdX7_round_0.2.2.1
theorem dX7_round_7 : decode cX7_round 7 = .ok (.aload_n 0, 1) := sdX7_round_0.2.2.2.1
theorem dX7_round_8 : decode cX7_round 8 = .ok (.iconst 1, 1) := sdX7_round_0.2.2.2.2.1
theorem dX7_round_9 : decode cX7_round 9 = .ok (.invokevirtual 102, 3) := sdX7_round_0.2.2.2.2.2.1
theorem dX7_round_12 : decode cX7_round 12 = .ok (.ireturn, 1) := sdX7_round_0.2.2.2.2.2.2.1
theorem dX7_round_13 : decode cX7_round 13 = .ok (.aload_n 0, 1) := sdX7_round_0.2.2.2.2.2.2.2.1
theorem sdX7_round_14 : dz_Seg cX7_round [(14, .iload_n 2, 1), (15, .invokevirtual 206, 3), (18, .ifCond .ne 9, 3), (21, .aload_n 0, 1), (22, .iconst 2, 1), (23, .invokevirtual 102, 3), (26, .ireturn, 1), (27, .aload_n 0, 1)] := dz_sg _ 14 (by decide +kernel)
theorem dX7_round_14 : decode cX7_round 14 = .ok (.iload_n 2, 1) := sdX7_round_14.1
theorem dX7_round_15 : decode cX7_round 15 = .ok (.invokevirtual 206, 3) := sdX7_round_14.2.1
theorem dX7_round_18 : decode cX7_round 18 = .ok (.ifCond .ne 9, 3) := sdX7_round_14.2.2.1
theorem dX7_round_21 : decode cX7_round 21 = .ok (.aload_n 0, 1) := sdX7_round_14.2.2.2.1
theorem dX7_round_22 : decode cX7_round 22 = .ok (.iconst 2, 1) := sdX7_round_14.2.2.2.2.1
theorem dX7_round_23 : decode cX7_round 23 = .ok (.invokevirtual 102, 3) := sdX7_round_14.2.2.2.2.2.1
theorem dX7_round_26 : decode cX7_round 26 = .ok (.ireturn, 1) := sdX7_round_14.2.2.2.2.2.2.1
theorem dX7_round_27 : decode cX7_round 27 = .ok (.aload_n 0, 1) := sdX7_round_14.2.2.2.2.2.2.2.1
theorem sdX7_round_28 : dz_Seg cX7_round [(28, .getfield 47, 3), (31, .aload_n 0, 1), (32, .getfield 40, 3), (35, .iload_n 1, 1), (36, .invokevirtual 247, 3), (39, .aload_n 0, 1), (40, .getfield 47, 3), (43, .getfield 250, 3)] := dz_sg _ 28 (by decide +kernel)
theorem dX7_round_28 : decode cX7_round 28 = .ok (.getfield 47, 3) := sdX7_round_28.1
theorem dX7_round_31 : decode cX7_round 31 = .ok (.aload_n 0, 1) := sdX7_round_28.2.1
theorem dX7_round_32 : decode cX7_round 32 = .ok (.getfield 40, 3) := sdX7_round_28.2.2.1
theorem dX7_round_35 : decode cX7_round 35 = .ok (.iload_n 1, 1) := sdX7_round_28.2.2.2.1
theorem dX7_round_36 : decode cX7_round 36 = .ok (.invokevirtual 247, 3) := sdX7_round_28.2.2.2.2.1
theorem dX7_round_39 : decode cX7_round 39 = .ok (.aload_n 0, 1) := sdX7_round_28.2.2.2.2.2.1
theorem dX7_round_40 : decode cX7_round 40 = .ok (.getfield 47, 3) := sdX7_round_28.2.2.2.2.2.2.1
theorem dX7_round_43 : decode cX7_round 43 = .ok (.getfield 250, 3) := sdX7_round_28.2.2.2.2.2.2.2.1
theorem sdX7_round_46 : dz_Seg cX7_round [(46, .iload_n 2, 1), (47, .invokestatic 175, 3), (50, .iconst (-1), 1), (51, .if_icmp .ne 11, 3), (54, .aload_n 0, 1), (55, .iconst 5, 1), (56, .invokevirtual 102, 3), (59, .goto 18, 3)] := dz_sg _ 46 (by decide +kernel)
theorem dX7_round_46 : decode cX7_round 46 = .ok (.iload_n 2, 1) := sdX7_round_46.1
theorem dX7_round_47 : decode cX7_round 47 = .ok (.invokestatic 175, 3) := sdX7_round_46.2.1
theorem dX7_round_50 : decode cX7_round 50 = .ok (.iconst (-1), 1) := sdX7_round_46.2.2.1
theorem dX7_round_51 : decode cX7_round 51 = .ok (.if_icmp .ne 11, 3) := sdX7_round_46.2.2.2.1
theorem dX7_round_54 : decode cX7_round 54 = .ok (.aload_n 0, 1) := sdX7_round_46.2.2.2.2.1
theorem dX7_round_55 : decode cX7_round 55 = .ok (.iconst 5, 1) := sdX7_round_46.2.2.2.2.2.1
theorem dX7_round_56 : decode cX7_round 56 = .ok (.invokevirtual 102, 3) := sdX7_round_46.2.2.2.2.2.2.1
theorem dX7_round_59 : decode cX7_round 59 = .ok (.goto 18, 3) := sdX7_round_46.2.2.2.2.2.2.2.1
theorem sdX7_round_62 : dz_Seg cX7_round [(62, .aload_n 0, 1), (63, .aload_n 0, 1), (64, .getfield 47, 3), (67, .getfield 253, 3), (70, .iload_n 2, 1), (71, .invokestatic 175, 3), (74, .invokevirtual 134, 3), (77, .ireturn, 1)] := dz_sg _ 62 (by decide +kernel)
theorem dX7_round_62 : decode cX7_round 62 = .ok (.aload_n 0, 1) := sdX7_round_62.1
theorem dX7_round_63 : decode cX7_round 63 = .ok (.aload_n 0, 1) := sdX7_round_62.2.1
theorem dX7_round_64 : decode cX7_round 64 = .ok (.getfield 47, 3) := sdX7_round_62.2.2.1
theorem dX7_round_67 : decode cX7_round 67 = .ok (.getfield 253, 3) := sdX7_round_62.2.2.2.1
theorem dX7_round_70 : decode cX7_round 70 = .ok (.iload_n 2, 1) := sdX7_round_62.2.2.2.2.1
theorem dX7_round_71 : decode cX7_round 71 = .ok (.invokestatic 175, 3) := sdX7_round_62.2.2.2.2.2.1
theorem dX7_round_74 : decode cX7_round 74 = .ok (.invokevirtual 134, 3) := sdX7_round_62.2.2.2.2.2.2.1
theorem dX7_round_77 : decode cX7_round 77 = .ok (.ireturn, 1) := sdX7_round_62.2.2.2.2.2.2.2.1
theorem sdX7_left_0 : dz_Seg cX7_left [(0, .iload_n 1, 1), (1, .invokestatic 237, 3), (4, .ifCond .eq 12, 3), (7, .iload_n 3, 1), (8, .ifCond .lt 8, 3), (11, .iload_n 3, 1), (12, .iconst 3, 1), (13, .if_icmp .le 9, 3)] := dz_sg _ 0 (by decide +kernel)
theorem dX7_left_0 : decode cX7_left 0 = .ok (.iload_n 1, 1) := sdX7_left_0.1
theorem dX7_left_1 : decode cX7_left 1 = .ok (.invokestatic 237, 3) := sdX7_left_0.2.1
theorem dX7_left_4 : decode cX7_left 4 = .ok (.ifCond .eq 12, 3) := sdX7_left_0.2.2.1
theorem dX7_left_7 : decode cX7_left 7 = .ok (.iload_n 3, 1) := sdX7_left_0.2.2.2.1
theorem dX7_left_8 : decode cX7_left 8 = .ok (.ifCond .lt 8, 3) := sdX7_left_0.2.2.2.2.1
theorem dX7_left_11 : decode cX7_left 11 = .ok (.iload_n 3, 1) := sdX7_left_0.2.2.2.2.2.1
theorem dX7_left_12 : decode cX7_left 12 = .ok (.iconst 3, 1) := sdX7_left_0.2.2.2.2.2.2.1
theorem dX7_left_13 : decode cX7_left 13 = .ok (.if_icmp .le 9, 3) := sdX7_left_0.2.2.2.2.2.2.2.1
theorem sdX7_left_16 : dz_Seg cX7_left [(16, .aload_n 0, 1), (17, .iconst 1, 1), (18, .invokevirtual 102, 3), (21, .ireturn, 1), (22, .aload_n 0, 1), (23, .iload_n 2, 1), (24, .invokevirtual 188, 3), (27, .ifCond .ne 9, 3)] := dz_sg _ 16 (by decide +kernel)
theorem dX7_left_16 : decode cX7_left 16 = .ok (.aload_n 0, 1) := sdX7_left_16.1
theorem dX7_left_17 : decode cX7_left 17 = .ok (.iconst 1, 1) := sdX7_left_16.2.1
theorem dX7_left_18 : decode cX7_left 18 = .ok (.invokevirtual 102, 3) := sdX7_left_16.2.2.1
theorem dX7_left_21 : decode cX7_left 21 = .ok (.ireturn, 1) := sdX7_left_16.2.2.2.1
theorem dX7_left_22 : decode cX7_left 22 = .ok (.aload_n 0, 1) := sdX7_left_16.2.2.2.2.1
theorem dX7_left_23 : decode cX7_left 23 = .ok (.iload_n 2, 1) := sdX7_left_16.2.2.2.2.2.1
theorem dX7_left_24 : decode cX7_left 24 = .ok (.invokevirtual 188, 3) := sdX7_left_16.2.2.2.2.2.2.1
theorem dX7_left_27 : decode cX7_left 27 = .ok (.ifCond .ne 9, 3) := sdX7_left_16.2.2.2.2.2.2.2.1
theorem sdX7_left_30 : dz_Seg cX7_left [(30, .aload_n 0, 1), (31, .iconst 2, 1), (32, .invokevirtual 102, 3), (35, .ireturn, 1), (36, .aload_n 0, 1), (37, .getfield 47, 3), (40, .aload_n 0, 1), (41, .getfield 40, 3)] := dz_sg _ 30 (by decide +kernel)
theorem dX7_left_30 : decode cX7_left 30 = .ok (.aload_n 0, 1) := sdX7_left_30.1
theorem dX7_left_31 : decode cX7_left 31 = .ok (.iconst 2, 1) := sdX7_left_30.2.1
theorem dX7_left_32 : decode cX7_left 32 = .ok (.invokevirtual 102, 3) := sdX7_left_30.2.2.1
theorem dX7_left_35 : decode cX7_left 35 = .ok (.ireturn, 1) := sdX7_left_30.2.2.2.1
theorem dX7_left_36 : decode cX7_left 36 = .ok (.aload_n 0, 1) := sdX7_left_30.2.2.2.2.1
theorem dX7_left_37 : decode cX7_left 37 = .ok (.getfield 47, 3) := sdX7_left_30.2.2.2.2.2.1
theorem dX7_left_40 : decode cX7_left 40 = .ok (.aload_n 0, 1) := sdX7_left_30.2.2.2.2.2.2.1
theorem dX7_left_41 : decode cX7_left 41 = .ok (.getfield 40, 3) := sdX7_left_30.2.2.2.2.2.2.2.1
theorem sdX7_left_44 : dz_Seg cX7_left [(44, .iload_n 1, 1), (45, .invokevirtual 247, 3), (48, .iload_n 3, 1)] := dz_sg _ 44 (by decide +kernel)
theorem dX7_left_44 : decode cX7_left 44 = .ok (.iload_n 1, 1) := sdX7_left_44.1
theorem dX7_left_45 : decode cX7_left 45 = .ok (.invokevirtual 247, 3) := sdX7_left_44.2.1
theorem dX7_left_48 : decode cX7_left 48 = .ok (.iload_n 3, 1) := sdX7_left_44.2.2.1
theorem dX7_left_49 : decode cX7_left 49 = .ok (.tableswitch 76 0 2 #[27, 43, 59], 27) := by decide +kernel
theorem sdX7_left_76 : dz_Seg cX7_left [(76, .aload_n 0, 1), (77, .aload_n 0, 1), (78, .getfield 47, 3), (81, .getfield 256, 3), (84, .iload_n 2, 1), (85, .invokestatic 175, 3), (88, .invokevirtual 134, 3), (91, .ireturn, 1)] := dz_sg _ 76 (by decide +kernel)
theorem dX7_left_76 : decode cX7_left 76 = .ok (.aload_n 0, 1) := sdX7_left_76.1
theorem dX7_left_77 : decode cX7_left 77 = .ok (.aload_n 0, 1) := sdX7_left_76.2.1
theorem dX7_left_78 : decode cX7_left 78 = .ok (.getfield 47, 3) := sdX7_left_76.2.2.1
theorem dX7_left_81 : decode cX7_left 81 = .ok (.getfield 256, 3) := sdX7_left_76.2.2.2.1
theorem dX7_left_84 : decode cX7_left 84 = .ok (.iload_n 2, 1) := sdX7_left_76.2.2.2.2.1
theorem dX7_left_85 : decode cX7_left 85 = .ok (.invokestatic 175, 3) := sdX7_left_76.2.2.2.2.2.1
theorem dX7_left_88 : decode cX7_left 88 = .ok (.invokevirtual 134, 3) := sdX7_left_76.2.2.2.2.2.2.1
theorem dX7_left_91 : decode cX7_left 91 = .ok (.ireturn, 1) := sdX7_left_76.2.2.2.2.2.2.2.1
theorem sdX7_left_92 : dz_Seg cX7_left [(92, .aload_n 0, 1), (93, .aload_n 0, 1), (94, .getfield 47, 3), (97, .getfield 259, 3), (100, .iload_n 2, 1), (101, .invokestatic 175, 3), (104, .invokevirtual 134, 3), (107, .ireturn, 1)] := dz_sg _ 92 (by decide +kernel)
theorem dX7_left_92 : decode cX7_left 92 = .ok (.aload_n 0, 1) := sdX7_left_92.1
theorem dX7_left_93 : decode cX7_left 93 = .ok (.aload_n 0, 1) := sdX7_left_92.2.1
theorem dX7_left_94 : decode cX7_left 94 = .ok (.getfield 47, 3) := sdX7_left_92.2.2.1
theorem dX7_left_97 : decode cX7_left 97 = .ok (.getfield 259, 3) := sdX7_left_92.2.2.2.1
theorem dX7_left_100 : decode cX7_left 100 = .ok (.iload_n 2, 1) := sdX7_left_92.2.2.2.2.1
theorem dX7_left_101 : decode cX7_left 101 = .ok (.invokestatic 175, 3) := sdX7_left_92.2.2.2.2.2.1
theorem dX7_left_104 : decode cX7_left 104 = .ok (.invokevirtual 134, 3) := sdX7_left_92.2.2.2.2.2.2.1
theorem dX7_left_107 : decode cX7_left 107 = .ok (.ireturn, 1) := sdX7_left_92.2.2.2.2.2.2.2.1
theorem sdX7_left_108 : dz_Seg cX7_left [(108, .aload_n 0, 1), (109, .aload_n 0, 1), (110, .getfield 47, 3), (113, .aload_n 0, 1), (114, .getfield 40, 3), (117, .iload_n 2, 1), (118, .invokevirtual 262, 3), (121, .invokevirtual 134, 3)] := dz_sg _ 108 (by decide +kernel)
theorem dX7_left_108 : decode cX7_left 108 = .ok (.aload_n 0, 1) := sdX7_left_108.1
theorem dX7_left_109 : decode cX7_left 109 = .ok (.aload_n 0, 1) := sdX7_left_108.2.1
theorem dX7_left_110 : decode cX7_left 110 = .ok (.getfield 47, 3) := sdX7_left_108.2.2.1
theorem dX7_left_113 : decode cX7_left 113 = .ok (.aload_n 0, 1) := sdX7_left_108.2.2.2.1
theorem dX7_left_114 : decode cX7_left 114 = .ok (.getfield 40, 3) := sdX7_left_108.2.2.2.2.1
theorem dX7_left_117 : decode cX7_left 117 = .ok (.iload_n 2, 1) := sdX7_left_108.2.2.2.2.2.1
theorem dX7_left_118 : decode cX7_left 118 = .ok (.invokevirtual 262, 3) := sdX7_left_108.2.2.2.2.2.2.1
theorem dX7_left_121 : decode cX7_left 121 = .ok (.invokevirtual 134, 3) := sdX7_left_108.2.2.2.2.2.2.2.1
theorem sdX7_left_124 : dz_Seg cX7_left [(124, .ireturn, 1), (125, .aload_n 0, 1), (126, .getfield 47, 3), (129, .aload_n 0, 1), (130, .getfield 40, 3), (133, .iload_n 2, 1), (134, .invokevirtual 266, 3), (137, .istore 4, 2)] := dz_sg _ 124 (by decide +kernel)
theorem dX7_left_124 : decode cX7_left 124 = .ok (.ireturn, 1) := sdX7_left_124.1
theorem dX7_left_125 : decode cX7_left 125 = .ok (.aload_n 0, 1) := sdX7_left_124.2.1
theorem dX7_left_126 : decode cX7_left 126 = .ok (.getfield 47, 3) := sdX7_left_124.2.2.1
theorem dX7_left_129 : decode cX7_left 129 = .ok (.aload_n 0, 1) := sdX7_left_124.2.2.2.1
theorem dX7_left_130 : decode cX7_left 130 = .ok (.getfield 40, 3) := sdX7_left_124.2.2.2.2.1
theorem dX7_left_133 : decode cX7_left 133 = .ok (.iload_n 2, 1) := sdX7_left_124.2.2.2.2.2.1
theorem dX7_left_134 : decode cX7_left 134 = .ok (.invokevirtual 266, 3) := sdX7_left_124.2.2.2.2.2.2.1
theorem dX7_left_137 : decode cX7_left 137 = .ok (.istore 4, 2) := sdX7_left_124.2.2.2.2.2.2.2.1
theorem sdX7_left_139 : dz_Seg cX7_left [(139, .iload 4, 2), (141, .iconst (-1), 1), (142, .if_icmp .ne 11, 3), (145, .aload_n 0, 1), (146, .iconst 5, 1), (147, .invokevirtual 102, 3), (150, .goto 9, 3), (153, .aload_n 0, 1)] := dz_sg _ 139 (by decide +kernel)
theorem dX7_left_139 : decode cX7_left 139 = .ok (.iload 4, 2) := sdX7_left_139.1
theorem dX7_left_141 : decode cX7_left 141 = .ok (.iconst (-1), 1) := sdX7_left_139.2.1
theorem dX7_left_142 : decode cX7_left 142 = .ok (.if_icmp .ne 11, 3) := sdX7_left_139.2.2.1
theorem dX7_left_145 : decode cX7_left 145 = .ok (.aload_n 0, 1) := sdX7_left_139.2.2.2.1
theorem dX7_left_146 : decode cX7_left 146 = .ok (.iconst 5, 1) := sdX7_left_139.2.2.2.2.1
theorem dX7_left_147 : decode cX7_left 147 = .ok (.invokevirtual 102, 3) := sdX7_left_139.2.2.2.2.2.1
theorem dX7_left_150 : decode cX7_left 150 = .ok (.goto 9, 3) := sdX7_left_139.2.2.2.2.2.2.1
theorem dX7_left_153 : decode cX7_left 153 = .ok (.aload_n 0, 1) := sdX7_left_139.2.2.2.2.2.2.2.1
theorem sdX7_left_154 : dz_Seg cX7_left [(154, .iload 4, 2), (156, .invokevirtual 134, 3), (159, .ireturn, 1)] := dz_sg _ 154 (by decide +kernel)
theorem dX7_left_154 : decode cX7_left 154 = .ok (.iload 4, 2) := sdX7_left_154.1
theorem dX7_left_156 : decode cX7_left 156 = .ok (.invokevirtual 134, 3) := sdX7_left_154.2.1
theorem dX7_left_159 : decode cX7_left 159 = .ok (.ireturn, 1) := sdX7_left_154.2.2.1
theorem sdX7_winners_0 : dz_Seg cX7_winners [(0, .iload_n 1, 1), (1, .invokestatic 237, 3), (4, .ifCond .ne 9, 3), (7, .aload_n 0, 1), (8, .iconst 1, 1), (9, .invokevirtual 102, 3), (12, .ireturn, 1), (13, .aload_n 0, 1)] := dz_sg _ 0 (by decide +kernel)
theorem dX7_winners_0 : decode cX7_winners 0 = .ok (.iload_n 1, 1) := sdX7_winners_0.1
theorem dX7_winners_1 : decode cX7_winners 1 = .ok (.invokestatic 237, 3) := sdX7_winners_0.2.1
theorem dX7_winners_4 : decode cX7_winners 4 = .ok (.ifCond .ne 9, 3) := sdX7_winners_0.2.2.1
theorem dX7_winners_7 : decode cX7_winners 7 = .ok (.aload_n 0, 1) := sdX7_winners_0.2.2.2.1
theorem dX7_winners_8 : decode cX7_winners 8 = .ok (.iconst 1, 1) := sdX7_winners_0.2.2.2.2.1
theorem dX7_winners_9 : decode cX7_winners 9 = .ok (.invokevirtual 102, 3) := sdX7_winners_0.2.2.2.2.2.1
theorem dX7_winners_12 : decode cX7_winners 12 = .ok (.ireturn, 1) := sdX7_winners_0.2.2.2.2.2.2.1
theorem dX7_winners_13 : decode cX7_winners 13 = .ok (.aload_n 0, 1) := sdX7_winners_0.2.2.2.2.2.2.2.1
theorem sdX7_winners_14 : dz_Seg cX7_winners [(14, .getfield 47, 3), (17, .aload_n 0, 1), (18, .getfield 40, 3), (21, .iload_n 1, 1), (22, .invokevirtual 247, 3), (25, .iconst 0, 1), (26, .istore_n 2, 1), (27, .iconst 0, 1)] := dz_sg _ 14 (by decide +kernel)
theorem dX7_winners_14 : decode cX7_winners 14 = .ok (.getfield 47, 3) := sdX7_winners_14.1
theorem dX7_winners_17 : decode cX7_winners 17 = .ok (.aload_n 0, 1) := sdX7_winners_14.2.1
theorem dX7_winners_18 : decode cX7_winners 18 = .ok (.getfield 40, 3) := sdX7_winners_14.2.2.1
theorem dX7_winners_21 : decode cX7_winners 21 = .ok (.iload_n 1, 1) := sdX7_winners_14.2.2.2.1
theorem dX7_winners_22 : decode cX7_winners 22 = .ok (.invokevirtual 247, 3) := sdX7_winners_14.2.2.2.2.1
theorem dX7_winners_25 : decode cX7_winners 25 = .ok (.iconst 0, 1) := sdX7_winners_14.2.2.2.2.2.1
theorem dX7_winners_26 : decode cX7_winners 26 = .ok (.istore_n 2, 1) := sdX7_winners_14.2.2.2.2.2.2.1
theorem dX7_winners_27 : decode cX7_winners 27 = .ok (.iconst 0, 1) := sdX7_winners_14.2.2.2.2.2.2.2.1
theorem sdX7_winners_28 : dz_Seg cX7_winners [(28, .istore_n 3, 1), (29, .iload_n 3, 1), (30, .aload_n 0, 1), (31, .getfield 40, 3), (34, .getfield 140, 3), (37, .if_icmp .ge 38, 3), (40, .aload_n 0, 1), (41, .getfield 47, 3)] := dz_sg _ 28 (by decide +kernel)
theorem dX7_winners_28 : decode cX7_winners 28 = .ok (.istore_n 3, 1) := sdX7_winners_28.1
theorem dX7_winners_29 : decode cX7_winners 29 = .ok (.iload_n 3, 1) := sdX7_winners_28.2.1
theorem dX7_winners_30 : decode cX7_winners 30 = .ok (.aload_n 0, 1) := sdX7_winners_28.2.2.1
theorem dX7_winners_31 : decode cX7_winners 31 = .ok (.getfield 40, 3) := sdX7_winners_28.2.2.2.1
theorem dX7_winners_34 : decode cX7_winners 34 = .ok (.getfield 140, 3) := sdX7_winners_28.2.2.2.2.1
theorem dX7_winners_37 : decode cX7_winners 37 = .ok (.if_icmp .ge 38, 3) := sdX7_winners_28.2.2.2.2.2.1
theorem dX7_winners_40 : decode cX7_winners 40 = .ok (.aload_n 0, 1) := sdX7_winners_28.2.2.2.2.2.2.1
theorem dX7_winners_41 : decode cX7_winners 41 = .ok (.getfield 47, 3) := sdX7_winners_28.2.2.2.2.2.2.2.1
theorem sdX7_winners_44 : dz_Seg cX7_winners [(44, .getfield 250, 3), (47, .iload_n 3, 1), (48, .invokestatic 175, 3), (51, .iconst (-1), 1), (52, .if_icmp .eq 17, 3), (55, .iload_n 2, 1), (56, .aload_n 0, 1), (57, .getfield 40, 3)] := dz_sg _ 44 (by decide +kernel)
theorem dX7_winners_44 : decode cX7_winners 44 = .ok (.getfield 250, 3) := sdX7_winners_44.1
theorem dX7_winners_47 : decode cX7_winners 47 = .ok (.iload_n 3, 1) := sdX7_winners_44.2.1
theorem dX7_winners_48 : decode cX7_winners 48 = .ok (.invokestatic 175, 3) := sdX7_winners_44.2.2.1
theorem dX7_winners_51 : decode cX7_winners 51 = .ok (.iconst (-1), 1) := sdX7_winners_44.2.2.2.1
theorem dX7_winners_52 : decode cX7_winners 52 = .ok (.if_icmp .eq 17, 3) := sdX7_winners_44.2.2.2.2.1
theorem dX7_winners_55 : decode cX7_winners 55 = .ok (.iload_n 2, 1) := sdX7_winners_44.2.2.2.2.2.1
theorem dX7_winners_56 : decode cX7_winners 56 = .ok (.aload_n 0, 1) := sdX7_winners_44.2.2.2.2.2.2.1
theorem dX7_winners_57 : decode cX7_winners 57 = .ok (.getfield 40, 3) := sdX7_winners_44.2.2.2.2.2.2.2.1
theorem sdX7_winners_60 : dz_Seg cX7_winners [(60, .getfield 222, 3), (63, .iload_n 3, 1), (64, .invokestatic 175, 3), (67, .ior, 1), (68, .istore_n 2, 1), (69, .iinc 3 1, 3), (72, .goto (-43), 3), (75, .aload_n 0, 1)] := dz_sg _ 60 (by decide +kernel)
theorem dX7_winners_60 : decode cX7_winners 60 = .ok (.getfield 222, 3) := sdX7_winners_60.1
theorem dX7_winners_63 : decode cX7_winners 63 = .ok (.iload_n 3, 1) := sdX7_winners_60.2.1
theorem dX7_winners_64 : decode cX7_winners 64 = .ok (.invokestatic 175, 3) := sdX7_winners_60.2.2.1
theorem dX7_winners_67 : decode cX7_winners 67 = .ok (.ior, 1) := sdX7_winners_60.2.2.2.1
theorem dX7_winners_68 : decode cX7_winners 68 = .ok (.istore_n 2, 1) := sdX7_winners_60.2.2.2.2.1
theorem dX7_winners_69 : decode cX7_winners 69 = .ok (.iinc 3 1, 3) := sdX7_winners_60.2.2.2.2.2.1
theorem dX7_winners_72 : decode cX7_winners 72 = .ok (.goto (-43), 3) := sdX7_winners_60.2.2.2.2.2.2.1
theorem dX7_winners_75 : decode cX7_winners 75 = .ok (.aload_n 0, 1) := sdX7_winners_60.2.2.2.2.2.2.2.1
theorem sdX7_winners_76 : dz_Seg cX7_winners [(76, .iload_n 2, 1), (77, .invokevirtual 134, 3), (80, .ireturn, 1)] := dz_sg _ 76 (by decide +kernel)
theorem dX7_winners_76 : decode cX7_winners 76 = .ok (.iload_n 2, 1) := sdX7_winners_76.1
theorem dX7_winners_77 : decode cX7_winners 77 = .ok (.invokevirtual 134, 3) := sdX7_winners_76.2.1
theorem dX7_winners_80 : decode cX7_winners 80 = .ok (.ireturn, 1) := sdX7_winners_76.2.2.1
theorem sdX7_behind_0 : dz_Seg cX7_behind [(0, .iload_n 1, 1), (1, .invokestatic 237, 3), (4, .ifCond .ne 9, 3), (7, .aload_n 0, 1), (8, .iconst 1, 1), (9, .invokevirtual 102, 3), (12, .ireturn, 1), (13, .aload_n 0, 1)] := dz_sg _ 0 (by decide +kernel)
theorem dX7_behind_0 : decode cX7_behind 0 = .ok (.iload_n 1, 1) := sdX7_behind_0.1
theorem dX7_behind_1 : decode cX7_behind 1 = .ok (.invokestatic 237, 3) := sdX7_behind_0.2.1
theorem dX7_behind_4 : decode cX7_behind 4 = .ok (.ifCond .ne 9, 3) := sdX7_behind_0.2.2.1
theorem dX7_behind_7 : decode cX7_behind 7 = .ok (.aload_n 0, 1) := sdX7_behind_0.2.2.2.1
theorem dX7_behind_8 : decode cX7_behind 8 = .ok (.iconst 1, 1) := sdX7_behind_0.2.2.2.2.1
theorem dX7_behind_9 : decode cX7_behind 9 = .ok (.invokevirtual 102, 3) := sdX7_behind_0.2.2.2.2.2.1
theorem dX7_behind_12 : decode cX7_behind 12 = .ok (.ireturn, 1) := sdX7_behind_0.2.2.2.2.2.2.1
theorem dX7_behind_13 : decode cX7_behind 13 = .ok (.aload_n 0, 1) := sdX7_behind_0.2.2.2.2.2.2.2.1
theorem sdX7_behind_14 : dz_Seg cX7_behind [(14, .iload_n 2, 1), (15, .invokevirtual 168, 3), (18, .ifCond .ne 9, 3), (21, .aload_n 0, 1), (22, .iconst 2, 1), (23, .invokevirtual 102, 3), (26, .ireturn, 1), (27, .aload_n 0, 1)] := dz_sg _ 14 (by decide +kernel)
theorem dX7_behind_14 : decode cX7_behind 14 = .ok (.iload_n 2, 1) := sdX7_behind_14.1
theorem dX7_behind_15 : decode cX7_behind 15 = .ok (.invokevirtual 168, 3) := sdX7_behind_14.2.1
theorem dX7_behind_18 : decode cX7_behind 18 = .ok (.ifCond .ne 9, 3) := sdX7_behind_14.2.2.1
theorem dX7_behind_21 : decode cX7_behind 21 = .ok (.aload_n 0, 1) := sdX7_behind_14.2.2.2.1
theorem dX7_behind_22 : decode cX7_behind 22 = .ok (.iconst 2, 1) := sdX7_behind_14.2.2.2.2.1
theorem dX7_behind_23 : decode cX7_behind 23 = .ok (.invokevirtual 102, 3) := sdX7_behind_14.2.2.2.2.2.1
theorem dX7_behind_26 : decode cX7_behind 26 = .ok (.ireturn, 1) := sdX7_behind_14.2.2.2.2.2.2.1
theorem dX7_behind_27 : decode cX7_behind 27 = .ok (.aload_n 0, 1) := sdX7_behind_14.2.2.2.2.2.2.2.1
theorem sdX7_behind_28 : dz_Seg cX7_behind [(28, .getfield 47, 3), (31, .aload_n 0, 1), (32, .getfield 40, 3), (35, .iload_n 1, 1), (36, .invokevirtual 247, 3), (39, .aload_n 0, 1), (40, .aload_n 0, 1), (41, .getfield 47, 3)] := dz_sg _ 28 (by decide +kernel)
theorem dX7_behind_28 : decode cX7_behind 28 = .ok (.getfield 47, 3) := sdX7_behind_28.1
theorem dX7_behind_31 : decode cX7_behind 31 = .ok (.aload_n 0, 1) := sdX7_behind_28.2.1
theorem dX7_behind_32 : decode cX7_behind 32 = .ok (.getfield 40, 3) := sdX7_behind_28.2.2.1
theorem dX7_behind_35 : decode cX7_behind 35 = .ok (.iload_n 1, 1) := sdX7_behind_28.2.2.2.1
theorem dX7_behind_36 : decode cX7_behind 36 = .ok (.invokevirtual 247, 3) := sdX7_behind_28.2.2.2.2.1
theorem dX7_behind_39 : decode cX7_behind 39 = .ok (.aload_n 0, 1) := sdX7_behind_28.2.2.2.2.2.1
theorem dX7_behind_40 : decode cX7_behind 40 = .ok (.aload_n 0, 1) := sdX7_behind_28.2.2.2.2.2.2.1
theorem dX7_behind_41 : decode cX7_behind 41 = .ok (.getfield 47, 3) := sdX7_behind_28.2.2.2.2.2.2.2.1
theorem sdX7_behind_44 : dz_Seg cX7_behind [(44, .aload_n 0, 1), (45, .getfield 40, 3), (48, .aload_n 0, 1), (49, .getfield 40, 3), (52, .getfield 182, 3), (55, .iload_n 2, 1), (56, .invokestatic 175, 3), (59, .aload_n 0, 1)] := dz_sg _ 44 (by decide +kernel)
theorem dX7_behind_44 : decode cX7_behind 44 = .ok (.aload_n 0, 1) := sdX7_behind_44.1
theorem dX7_behind_45 : decode cX7_behind 45 = .ok (.getfield 40, 3) := sdX7_behind_44.2.1
theorem dX7_behind_48 : decode cX7_behind 48 = .ok (.aload_n 0, 1) := sdX7_behind_44.2.2.1
theorem dX7_behind_49 : decode cX7_behind 49 = .ok (.getfield 40, 3) := sdX7_behind_44.2.2.2.1
theorem dX7_behind_52 : decode cX7_behind 52 = .ok (.getfield 182, 3) := sdX7_behind_44.2.2.2.2.1
theorem dX7_behind_55 : decode cX7_behind 55 = .ok (.iload_n 2, 1) := sdX7_behind_44.2.2.2.2.2.1
theorem dX7_behind_56 : decode cX7_behind 56 = .ok (.invokestatic 175, 3) := sdX7_behind_44.2.2.2.2.2.2.1
theorem dX7_behind_59 : decode cX7_behind 59 = .ok (.aload_n 0, 1) := sdX7_behind_44.2.2.2.2.2.2.2.1
theorem sdX7_behind_60 : dz_Seg cX7_behind [(60, .getfield 26, 3), (63, .getfield 172, 3), (66, .iload_n 2, 1), (67, .invokestatic 175, 3), (70, .invokevirtual 287, 3), (73, .invokevirtual 134, 3), (76, .ireturn, 1)] := dz_sg _ 60 (by decide +kernel)
theorem dX7_behind_60 : decode cX7_behind 60 = .ok (.getfield 26, 3) := sdX7_behind_60.1
theorem dX7_behind_63 : decode cX7_behind 63 = .ok (.getfield 172, 3) := sdX7_behind_60.2.1
theorem dX7_behind_66 : decode cX7_behind 66 = .ok (.iload_n 2, 1) := sdX7_behind_60.2.2.1
theorem dX7_behind_67 : decode cX7_behind 67 = .ok (.invokestatic 175, 3) := sdX7_behind_60.2.2.2.1
theorem dX7_behind_70 : decode cX7_behind 70 = .ok (.invokevirtual 287, 3) := sdX7_behind_60.2.2.2.2.1
theorem dX7_behind_73 : decode cX7_behind 73 = .ok (.invokevirtual 134, 3) := sdX7_behind_60.2.2.2.2.2.1
theorem dX7_behind_76 : decode cX7_behind 76 = .ok (.ireturn, 1) := sdX7_behind_60.2.2.2.2.2.2.1
theorem sdX7_answer_0 : dz_Seg cX7_answer [(0, .aload_n 0, 1), (1, .iconst 0, 1), (2, .putfield 88, 3), (5, .iload_n 1, 1), (6, .ireturn, 1)] := dz_sg _ 0 (by decide +kernel)
theorem dX7_answer_0 : decode cX7_answer 0 = .ok (.aload_n 0, 1) := sdX7_answer_0.1
theorem dX7_answer_1 : decode cX7_answer 1 = .ok (.iconst 0, 1) := sdX7_answer_0.2.1
theorem dX7_answer_2 : decode cX7_answer 2 = .ok (.putfield 88, 3) := sdX7_answer_0.2.2.1
theorem dX7_answer_5 : decode cX7_answer 5 = .ok (.iload_n 1, 1) := sdX7_answer_0.2.2.2.1
theorem dX7_answer_6 : decode cX7_answer 6 = .ok (.ireturn, 1) := sdX7_answer_0.2.2.2.2.1
theorem sdX7_refuse_0 : dz_Seg cX7_refuse [(0, .aload_n 0, 1), (1, .iload_n 1, 1), (2, .putfield 88, 3), (5, .iconst (-1), 1), (6, .ireturn, 1)] := dz_sg _ 0 (by decide +kernel)
theorem dX7_refuse_0 : decode cX7_refuse 0 = .ok (.aload_n 0, 1) := sdX7_refuse_0.1
theorem dX7_refuse_1 : decode cX7_refuse 1 = .ok (.iload_n 1, 1) := sdX7_refuse_0.2.1
theorem dX7_refuse_2 : decode cX7_refuse 2 = .ok (.putfield 88, 3) := sdX7_refuse_0.2.2.1
theorem dX7_refuse_5 : decode cX7_refuse 5 = .ok (.iconst (-1), 1) := sdX7_refuse_0.2.2.2.1
theorem dX7_refuse_6 : decode cX7_refuse 6 = .ok (.ireturn, 1) := sdX7_refuse_0.2.2.2.2.1
theorem sdX7_changed_0 : dz_Seg cX7_changed [(0, .aload_n 0, 1), (1, .getfield 40, 3), (4, .aload_n 0, 1), (5, .getfield 26, 3), (8, .invokevirtual 80, 3), (11, .aload_n 0, 1), (12, .iconst 0, 1), (13, .putfield 368, 3)] := dz_sg _ 0 (by decide +kernel)
theorem dX7_changed_0 : decode cX7_changed 0 = .ok (.aload_n 0, 1) := sdX7_changed_0.1
theorem dX7_changed_1 : decode cX7_changed 1 = .ok (.getfield 40, 3) := sdX7_changed_0.2.1
theorem dX7_changed_4 : decode cX7_changed 4 = .ok (.aload_n 0, 1) := sdX7_changed_0.2.2.1
theorem dX7_changed_5 : decode cX7_changed 5 = .ok (.getfield 26, 3) := sdX7_changed_0.2.2.2.1
theorem dX7_changed_8 : decode cX7_changed 8 = .ok (.invokevirtual 80, 3) := sdX7_changed_0.2.2.2.2.1
theorem dX7_changed_11 : decode cX7_changed 11 = .ok (.aload_n 0, 1) := sdX7_changed_0.2.2.2.2.2.1
theorem dX7_changed_12 : decode cX7_changed 12 = .ok (.iconst 0, 1) := sdX7_changed_0.2.2.2.2.2.2.1
theorem dX7_changed_13 : decode cX7_changed 13 = .ok (.putfield 368, 3) := sdX7_changed_0.2.2.2.2.2.2.2.1
theorem sdX7_changed_16 : dz_Seg cX7_changed [(16, .aload_n 0, 1), (17, .iload_n 1, 1), (18, .invokevirtual 134, 3), (21, .ireturn, 1)] := dz_sg _ 16 (by decide +kernel)
theorem dX7_changed_16 : decode cX7_changed 16 = .ok (.aload_n 0, 1) := sdX7_changed_16.1
theorem dX7_changed_17 : decode cX7_changed 17 = .ok (.iload_n 1, 1) := sdX7_changed_16.2.1
theorem dX7_changed_18 : decode cX7_changed 18 = .ok (.invokevirtual 134, 3) := sdX7_changed_16.2.2.1
theorem dX7_changed_21 : decode cX7_changed 21 = .ok (.ireturn, 1) := sdX7_changed_16.2.2.2.1
theorem sdX7_isUnit_0 : dz_Seg cX7_isUnit [(0, .iload_n 1, 1), (1, .ifCond .lt 18, 3), (4, .iload_n 1, 1), (5, .aload_n 0, 1), (6, .getfield 26, 3), (9, .getfield 131, 3), (12, .if_icmp .ge 7, 3), (15, .iconst 1, 1)] := dz_sg _ 0 (by decide +kernel)
theorem dX7_isUnit_0 : decode cX7_isUnit 0 = .ok (.iload_n 1, 1) := sdX7_isUnit_0.1
theorem dX7_isUnit_1 : decode cX7_isUnit 1 = .ok (.ifCond .lt 18, 3) := sdX7_isUnit_0.2.1
theorem dX7_isUnit_4 : decode cX7_isUnit 4 = .ok (.iload_n 1, 1) := sdX7_isUnit_0.2.2.1
theorem dX7_isUnit_5 : decode cX7_isUnit 5 = .ok (.aload_n 0, 1) := sdX7_isUnit_0.2.2.2.1
theorem dX7_isUnit_6 : decode cX7_isUnit 6 = .ok (.getfield 26, 3) := sdX7_isUnit_0.2.2.2.2.1
theorem dX7_isUnit_9 : decode cX7_isUnit 9 = .ok (.getfield 131, 3) := sdX7_isUnit_0.2.2.2.2.2.1
theorem dX7_isUnit_12 : decode cX7_isUnit 12 = .ok (.if_icmp .ge 7, 3) := sdX7_isUnit_0.2.2.2.2.2.2.1
theorem dX7_isUnit_15 : decode cX7_isUnit 15 = .ok (.iconst 1, 1) := sdX7_isUnit_0.2.2.2.2.2.2.2.1
theorem sdX7_isUnit_16 : dz_Seg cX7_isUnit [(16, .goto 4, 3), (19, .iconst 0, 1), (20, .ireturn, 1)] := dz_sg _ 16 (by decide +kernel)
theorem dX7_isUnit_16 : decode cX7_isUnit 16 = .ok (.goto 4, 3) := sdX7_isUnit_16.1
theorem dX7_isUnit_19 : decode cX7_isUnit 19 = .ok (.iconst 0, 1) := sdX7_isUnit_16.2.1
theorem dX7_isUnit_20 : decode cX7_isUnit 20 = .ok (.ireturn, 1) := sdX7_isUnit_16.2.2.1
theorem sdX7_isHunter_0 : dz_Seg cX7_isHunter [(0, .iload_n 1, 1), (1, .ifCond .lt 18, 3), (4, .iload_n 1, 1), (5, .aload_n 0, 1), (6, .getfield 26, 3), (9, .getfield 119, 3), (12, .if_icmp .ge 7, 3), (15, .iconst 1, 1)] := dz_sg _ 0 (by decide +kernel)
theorem dX7_isHunter_0 : decode cX7_isHunter 0 = .ok (.iload_n 1, 1) := sdX7_isHunter_0.1
theorem dX7_isHunter_1 : decode cX7_isHunter 1 = .ok (.ifCond .lt 18, 3) := sdX7_isHunter_0.2.1
theorem dX7_isHunter_4 : decode cX7_isHunter 4 = .ok (.iload_n 1, 1) := sdX7_isHunter_0.2.2.1
theorem dX7_isHunter_5 : decode cX7_isHunter 5 = .ok (.aload_n 0, 1) := sdX7_isHunter_0.2.2.2.1
theorem dX7_isHunter_6 : decode cX7_isHunter 6 = .ok (.getfield 26, 3) := sdX7_isHunter_0.2.2.2.2.1
theorem dX7_isHunter_9 : decode cX7_isHunter 9 = .ok (.getfield 119, 3) := sdX7_isHunter_0.2.2.2.2.2.1
theorem dX7_isHunter_12 : decode cX7_isHunter 12 = .ok (.if_icmp .ge 7, 3) := sdX7_isHunter_0.2.2.2.2.2.2.1
theorem dX7_isHunter_15 : decode cX7_isHunter 15 = .ok (.iconst 1, 1) := sdX7_isHunter_0.2.2.2.2.2.2.2.1
theorem sdX7_isHunter_16 : dz_Seg cX7_isHunter [(16, .goto 4, 3), (19, .iconst 0, 1), (20, .ireturn, 1)] := dz_sg _ 16 (by decide +kernel)
theorem dX7_isHunter_16 : decode cX7_isHunter 16 = .ok (.goto 4, 3) := sdX7_isHunter_16.1
theorem dX7_isHunter_19 : decode cX7_isHunter 19 = .ok (.iconst 0, 1) := sdX7_isHunter_16.2.1
theorem dX7_isHunter_20 : decode cX7_isHunter 20 = .ok (.ireturn, 1) := sdX7_isHunter_16.2.2.1
theorem sdX7_isApplicant_0 : dz_Seg cX7_isApplicant [(0, .iload_n 1, 1), (1, .ifCond .lt 18, 3), (4, .iload_n 1, 1), (5, .aload_n 0, 1), (6, .getfield 40, 3), (9, .getfield 140, 3), (12, .if_icmp .ge 7, 3), (15, .iconst 1, 1)] := dz_sg _ 0 (by decide +kernel)
theorem dX7_isApplicant_0 : decode cX7_isApplicant 0 = .ok (.iload_n 1, 1) := sdX7_isApplicant_0.1
theorem dX7_isApplicant_1 : decode cX7_isApplicant 1 = .ok (.ifCond .lt 18, 3) := sdX7_isApplicant_0.2.1
theorem dX7_isApplicant_4 : decode cX7_isApplicant 4 = .ok (.iload_n 1, 1) := sdX7_isApplicant_0.2.2.1
theorem dX7_isApplicant_5 : decode cX7_isApplicant 5 = .ok (.aload_n 0, 1) := sdX7_isApplicant_0.2.2.2.1
theorem dX7_isApplicant_6 : decode cX7_isApplicant 6 = .ok (.getfield 40, 3) := sdX7_isApplicant_0.2.2.2.2.1
theorem dX7_isApplicant_9 : decode cX7_isApplicant 9 = .ok (.getfield 140, 3) := sdX7_isApplicant_0.2.2.2.2.2.1
theorem dX7_isApplicant_12 : decode cX7_isApplicant 12 = .ok (.if_icmp .ge 7, 3) := sdX7_isApplicant_0.2.2.2.2.2.2.1
theorem dX7_isApplicant_15 : decode cX7_isApplicant 15 = .ok (.iconst 1, 1) := sdX7_isApplicant_0.2.2.2.2.2.2.2.1
theorem sdX7_isApplicant_16 : dz_Seg cX7_isApplicant [(16, .goto 4, 3), (19, .iconst 0, 1), (20, .ireturn, 1)] := dz_sg _ 16 (by decide +kernel)
theorem dX7_isApplicant_16 : decode cX7_isApplicant 16 = .ok (.goto 4, 3) := sdX7_isApplicant_16.1
theorem dX7_isApplicant_19 : decode cX7_isApplicant 19 = .ok (.iconst 0, 1) := sdX7_isApplicant_16.2.1
theorem dX7_isApplicant_20 : decode cX7_isApplicant 20 = .ok (.ireturn, 1) := sdX7_isApplicant_16.2.2.1
theorem sdX7_isSeed_0 : dz_Seg cX7_isSeed [(0, .iload_n 0, 1), (1, .ifCond .lt 14, 3), (4, .iload_n 0, 1), (5, .ldc_w 395, 3), (8, .if_icmp .gt 7, 3), (11, .iconst 1, 1), (12, .goto 4, 3), (15, .iconst 0, 1)] := dz_sg _ 0 (by decide +kernel)
theorem dX7_isSeed_0 : decode cX7_isSeed 0 = .ok (.iload_n 0, 1) := sdX7_isSeed_0.1
theorem dX7_isSeed_1 : decode cX7_isSeed 1 = .ok (.ifCond .lt 14, 3) := sdX7_isSeed_0.2.1
theorem dX7_isSeed_4 : decode cX7_isSeed 4 = .ok (.iload_n 0, 1) := sdX7_isSeed_0.2.2.1
theorem dX7_isSeed_5 : decode cX7_isSeed 5 = .ok (.ldc_w 395, 3) := sdX7_isSeed_0.2.2.2.1
theorem dX7_isSeed_8 : decode cX7_isSeed 8 = .ok (.if_icmp .gt 7, 3) := sdX7_isSeed_0.2.2.2.2.1
theorem dX7_isSeed_11 : decode cX7_isSeed 11 = .ok (.iconst 1, 1) := sdX7_isSeed_0.2.2.2.2.2.1
theorem dX7_isSeed_12 : decode cX7_isSeed 12 = .ok (.goto 4, 3) := sdX7_isSeed_0.2.2.2.2.2.2.1
theorem dX7_isSeed_15 : decode cX7_isSeed 15 = .ok (.iconst 0, 1) := sdX7_isSeed_0.2.2.2.2.2.2.2.1
theorem sdX7_isSeed_16 : dz_Seg cX7_isSeed [(16, .ireturn, 1)] := dz_sg _ 16 (by decide +kernel)
theorem dX7_isSeed_16 : decode cX7_isSeed 16 = .ok (.ireturn, 1) := sdX7_isSeed_16.1
theorem sdX7_cell_0 : dz_Seg cX7_cell [(0, .iload_n 1, 1), (1, .ifCond .lt 15, 3), (4, .iload_n 1, 1), (5, .aload_n 0, 1), (6, .arraylength, 1), (7, .if_icmp .ge 9, 3), (10, .aload_n 0, 1), (11, .iload_n 1, 1)] := dz_sg _ 0 (by decide +kernel)
theorem dX7_cell_0 : decode cX7_cell 0 = .ok (.iload_n 1, 1) := sdX7_cell_0.1
theorem dX7_cell_1 : decode cX7_cell 1 = .ok (.ifCond .lt 15, 3) := sdX7_cell_0.2.1
theorem dX7_cell_4 : decode cX7_cell 4 = .ok (.iload_n 1, 1) := sdX7_cell_0.2.2.1
theorem dX7_cell_5 : decode cX7_cell 5 = .ok (.aload_n 0, 1) := sdX7_cell_0.2.2.2.1
theorem dX7_cell_6 : decode cX7_cell 6 = .ok (.arraylength, 1) := sdX7_cell_0.2.2.2.2.1
theorem dX7_cell_7 : decode cX7_cell 7 = .ok (.if_icmp .ge 9, 3) := sdX7_cell_0.2.2.2.2.2.1
theorem dX7_cell_10 : decode cX7_cell 10 = .ok (.aload_n 0, 1) := sdX7_cell_0.2.2.2.2.2.2.1
theorem dX7_cell_11 : decode cX7_cell 11 = .ok (.iload_n 1, 1) := sdX7_cell_0.2.2.2.2.2.2.2.1
theorem sdX7_cell_12 : dz_Seg cX7_cell [(12, .iaload, 1), (13, .goto 4, 3), (16, .iconst 0, 1), (17, .ireturn, 1)] := dz_sg _ 12 (by decide +kernel)
theorem dX7_cell_12 : decode cX7_cell 12 = .ok (.iaload, 1) := sdX7_cell_12.1
theorem dX7_cell_13 : decode cX7_cell 13 = .ok (.goto 4, 3) := sdX7_cell_12.2.1
theorem dX7_cell_16 : decode cX7_cell 16 = .ok (.iconst 0, 1) := sdX7_cell_12.2.2.1
theorem dX7_cell_17 : decode cX7_cell 17 = .ok (.ireturn, 1) := sdX7_cell_12.2.2.2.1
theorem sdX7_bigCell_0 : dz_Seg cX7_bigCell [(0, .iload_n 1, 1), (1, .ifCond .lt 15, 3), (4, .iload_n 1, 1), (5, .aload_n 0, 1), (6, .arraylength, 1), (7, .if_icmp .ge 9, 3), (10, .aload_n 0, 1), (11, .iload_n 1, 1)] := dz_sg _ 0 (by decide +kernel)
theorem dX7_bigCell_0 : decode cX7_bigCell 0 = .ok (.iload_n 1, 1) := sdX7_bigCell_0.1
theorem dX7_bigCell_1 : decode cX7_bigCell 1 = .ok (.ifCond .lt 15, 3) := sdX7_bigCell_0.2.1
theorem dX7_bigCell_4 : decode cX7_bigCell 4 = .ok (.iload_n 1, 1) := sdX7_bigCell_0.2.2.1
theorem dX7_bigCell_5 : decode cX7_bigCell 5 = .ok (.aload_n 0, 1) := sdX7_bigCell_0.2.2.2.1
theorem dX7_bigCell_6 : decode cX7_bigCell 6 = .ok (.arraylength, 1) := sdX7_bigCell_0.2.2.2.2.1
theorem dX7_bigCell_7 : decode cX7_bigCell 7 = .ok (.if_icmp .ge 9, 3) := sdX7_bigCell_0.2.2.2.2.2.1
theorem dX7_bigCell_10 : decode cX7_bigCell 10 = .ok (.aload_n 0, 1) := sdX7_bigCell_0.2.2.2.2.2.2.1
theorem dX7_bigCell_11 : decode cX7_bigCell 11 = .ok (.iload_n 1, 1) := sdX7_bigCell_0.2.2.2.2.2.2.2.1
theorem sdX7_bigCell_12 : dz_Seg cX7_bigCell [(12, .laload, 1), (13, .goto 4, 3), (16, .lconst 0, 1), (17, .lreturn, 1)] := dz_sg _ 12 (by decide +kernel)
theorem dX7_bigCell_12 : decode cX7_bigCell 12 = .ok (.laload, 1) := sdX7_bigCell_12.1
theorem dX7_bigCell_13 : decode cX7_bigCell 13 = .ok (.goto 4, 3) := sdX7_bigCell_12.2.1
theorem dX7_bigCell_16 : decode cX7_bigCell 16 = .ok (.lconst 0, 1) := sdX7_bigCell_12.2.2.1
theorem dX7_bigCell_17 : decode cX7_bigCell 17 = .ok (.lreturn, 1) := sdX7_bigCell_12.2.2.2.1
theorem sdX7_put_0 : dz_Seg cX7_put [(0, .iload_n 1, 1), (1, .ifCond .lt 13, 3), (4, .iload_n 1, 1), (5, .aload_n 0, 1), (6, .arraylength, 1), (7, .if_icmp .ge 7, 3), (10, .aload_n 0, 1), (11, .iload_n 1, 1)] := dz_sg _ 0 (by decide +kernel)
theorem dX7_put_0 : decode cX7_put 0 = .ok (.iload_n 1, 1) := sdX7_put_0.1
theorem dX7_put_1 : decode cX7_put 1 = .ok (.ifCond .lt 13, 3) := sdX7_put_0.2.1
theorem dX7_put_4 : decode cX7_put 4 = .ok (.iload_n 1, 1) := sdX7_put_0.2.2.1
theorem dX7_put_5 : decode cX7_put 5 = .ok (.aload_n 0, 1) := sdX7_put_0.2.2.2.1
theorem dX7_put_6 : decode cX7_put 6 = .ok (.arraylength, 1) := sdX7_put_0.2.2.2.2.1
theorem dX7_put_7 : decode cX7_put 7 = .ok (.if_icmp .ge 7, 3) := sdX7_put_0.2.2.2.2.2.1
theorem dX7_put_10 : decode cX7_put 10 = .ok (.aload_n 0, 1) := sdX7_put_0.2.2.2.2.2.2.1
theorem dX7_put_11 : decode cX7_put 11 = .ok (.iload_n 1, 1) := sdX7_put_0.2.2.2.2.2.2.2.1
theorem sdX7_put_12 : dz_Seg cX7_put [(12, .iload_n 2, 1), (13, .iastore, 1), (14, .return_, 1)] := dz_sg _ 12 (by decide +kernel)
theorem dX7_put_12 : decode cX7_put 12 = .ok (.iload_n 2, 1) := sdX7_put_12.1
theorem dX7_put_13 : decode cX7_put 13 = .ok (.iastore, 1) := sdX7_put_12.2.1
theorem dX7_put_14 : decode cX7_put 14 = .ok (.return_, 1) := sdX7_put_12.2.2.1
theorem sdX7_bigPut_0 : dz_Seg cX7_bigPut [(0, .iload_n 1, 1), (1, .ifCond .lt 13, 3), (4, .iload_n 1, 1), (5, .aload_n 0, 1), (6, .arraylength, 1), (7, .if_icmp .ge 7, 3), (10, .aload_n 0, 1), (11, .iload_n 1, 1)] := dz_sg _ 0 (by decide +kernel)
theorem dX7_bigPut_0 : decode cX7_bigPut 0 = .ok (.iload_n 1, 1) := sdX7_bigPut_0.1
theorem dX7_bigPut_1 : decode cX7_bigPut 1 = .ok (.ifCond .lt 13, 3) := sdX7_bigPut_0.2.1
theorem dX7_bigPut_4 : decode cX7_bigPut 4 = .ok (.iload_n 1, 1) := sdX7_bigPut_0.2.2.1
theorem dX7_bigPut_5 : decode cX7_bigPut 5 = .ok (.aload_n 0, 1) := sdX7_bigPut_0.2.2.2.1
theorem dX7_bigPut_6 : decode cX7_bigPut 6 = .ok (.arraylength, 1) := sdX7_bigPut_0.2.2.2.2.1
theorem dX7_bigPut_7 : decode cX7_bigPut 7 = .ok (.if_icmp .ge 7, 3) := sdX7_bigPut_0.2.2.2.2.2.1
theorem dX7_bigPut_10 : decode cX7_bigPut 10 = .ok (.aload_n 0, 1) := sdX7_bigPut_0.2.2.2.2.2.2.1
theorem dX7_bigPut_11 : decode cX7_bigPut 11 = .ok (.iload_n 1, 1) := sdX7_bigPut_0.2.2.2.2.2.2.2.1
theorem sdX7_bigPut_12 : dz_Seg cX7_bigPut [(12, .lload_n 2, 1), (13, .lastore, 1), (14, .return_, 1)] := dz_sg _ 12 (by decide +kernel)
theorem dX7_bigPut_12 : decode cX7_bigPut 12 = .ok (.lload_n 2, 1) := sdX7_bigPut_12.1
theorem dX7_bigPut_13 : decode cX7_bigPut 13 = .ok (.lastore, 1) := sdX7_bigPut_12.2.1
theorem dX7_bigPut_14 : decode cX7_bigPut 14 = .ok (.return_, 1) := sdX7_bigPut_12.2.2.1
theorem sdX7_add_0 : dz_Seg cX7_add [(0, .iload_n 1, 1), (1, .ifCond .lt 16, 3), (4, .iload_n 1, 1), (5, .aload_n 0, 1), (6, .arraylength, 1), (7, .if_icmp .ge 10, 3), (10, .aload_n 0, 1), (11, .iload_n 1, 1)] := dz_sg _ 0 (by decide +kernel)
theorem dX7_add_0 : decode cX7_add 0 = .ok (.iload_n 1, 1) := sdX7_add_0.1
theorem dX7_add_1 : decode cX7_add 1 = .ok (.ifCond .lt 16, 3) := sdX7_add_0.2.1
theorem dX7_add_4 : decode cX7_add 4 = .ok (.iload_n 1, 1) := sdX7_add_0.2.2.1
theorem dX7_add_5 : decode cX7_add 5 = .ok (.aload_n 0, 1) := sdX7_add_0.2.2.2.1
theorem dX7_add_6 : decode cX7_add 6 = .ok (.arraylength, 1) := sdX7_add_0.2.2.2.2.1
theorem dX7_add_7 : decode cX7_add 7 = .ok (.if_icmp .ge 10, 3) := sdX7_add_0.2.2.2.2.2.1
theorem dX7_add_10 : decode cX7_add 10 = .ok (.aload_n 0, 1) := sdX7_add_0.2.2.2.2.2.2.1
theorem dX7_add_11 : decode cX7_add 11 = .ok (.iload_n 1, 1) := sdX7_add_0.2.2.2.2.2.2.2.1
theorem sdX7_add_12 : dz_Seg cX7_add [(12, .dup2, 1), (13, .iaload, 1), (14, .iload_n 2, 1), (15, .iadd, 1), (16, .iastore, 1), (17, .return_, 1)] := dz_sg _ 12 (by decide +kernel)
theorem dX7_add_12 : decode cX7_add 12 = .ok (.dup2, 1) := sdX7_add_12.1
theorem dX7_add_13 : decode cX7_add 13 = .ok (.iaload, 1) := sdX7_add_12.2.1
theorem dX7_add_14 : decode cX7_add 14 = .ok (.iload_n 2, 1) := sdX7_add_12.2.2.1
theorem dX7_add_15 : decode cX7_add 15 = .ok (.iadd, 1) := sdX7_add_12.2.2.2.1
theorem dX7_add_16 : decode cX7_add 16 = .ok (.iastore, 1) := sdX7_add_12.2.2.2.2.1
theorem dX7_add_17 : decode cX7_add 17 = .ok (.return_, 1) := sdX7_add_12.2.2.2.2.2.1
theorem sdX7_fill_0 : dz_Seg cX7_fill [(0, .iconst 0, 1), (1, .istore_n 2, 1), (2, .iload_n 2, 1), (3, .aload_n 0, 1), (4, .arraylength, 1), (5, .if_icmp .ge 13, 3), (8, .aload_n 0, 1), (9, .iload_n 2, 1)] := dz_sg _ 0 (by decide +kernel)
theorem dX7_fill_0 : decode cX7_fill 0 = .ok (.iconst 0, 1) := sdX7_fill_0.1
theorem dX7_fill_1 : decode cX7_fill 1 = .ok (.istore_n 2, 1) := sdX7_fill_0.2.1
theorem dX7_fill_2 : decode cX7_fill 2 = .ok (.iload_n 2, 1) := sdX7_fill_0.2.2.1
theorem dX7_fill_3 : decode cX7_fill 3 = .ok (.aload_n 0, 1) := sdX7_fill_0.2.2.2.1
theorem dX7_fill_4 : decode cX7_fill 4 = .ok (.arraylength, 1) := sdX7_fill_0.2.2.2.2.1
theorem dX7_fill_5 : decode cX7_fill 5 = .ok (.if_icmp .ge 13, 3) := sdX7_fill_0.2.2.2.2.2.1
theorem dX7_fill_8 : decode cX7_fill 8 = .ok (.aload_n 0, 1) := sdX7_fill_0.2.2.2.2.2.2.1
theorem dX7_fill_9 : decode cX7_fill 9 = .ok (.iload_n 2, 1) := sdX7_fill_0.2.2.2.2.2.2.2.1
theorem sdX7_fill_10 : dz_Seg cX7_fill [(10, .iload_n 1, 1), (11, .iastore, 1), (12, .iinc 2 1, 3), (15, .goto (-13), 3), (18, .return_, 1)] := dz_sg _ 10 (by decide +kernel)
theorem dX7_fill_10 : decode cX7_fill 10 = .ok (.iload_n 1, 1) := sdX7_fill_10.1
theorem dX7_fill_11 : decode cX7_fill 11 = .ok (.iastore, 1) := sdX7_fill_10.2.1
theorem dX7_fill_12 : decode cX7_fill 12 = .ok (.iinc 2 1, 3) := sdX7_fill_10.2.2.1
theorem dX7_fill_15 : decode cX7_fill 15 = .ok (.goto (-13), 3) := sdX7_fill_10.2.2.2.1
theorem dX7_fill_18 : decode cX7_fill 18 = .ok (.return_, 1) := sdX7_fill_10.2.2.2.2.1
theorem sdX7_copy_0 : dz_Seg cX7_copy [(0, .iconst 0, 1), (1, .istore_n 2, 1), (2, .iload_n 2, 1), (3, .aload_n 1, 1), (4, .arraylength, 1), (5, .if_icmp .ge 17, 3), (8, .aload_n 1, 1), (9, .iload_n 2, 1)] := dz_sg _ 0 (by decide +kernel)
theorem dX7_copy_0 : decode cX7_copy 0 = .ok (.iconst 0, 1) := sdX7_copy_0.1
theorem dX7_copy_1 : decode cX7_copy 1 = .ok (.istore_n 2, 1) := sdX7_copy_0.2.1
theorem dX7_copy_2 : decode cX7_copy 2 = .ok (.iload_n 2, 1) := sdX7_copy_0.2.2.1
theorem dX7_copy_3 : decode cX7_copy 3 = .ok (.aload_n 1, 1) := sdX7_copy_0.2.2.2.1
theorem dX7_copy_4 : decode cX7_copy 4 = .ok (.arraylength, 1) := sdX7_copy_0.2.2.2.2.1
theorem dX7_copy_5 : decode cX7_copy 5 = .ok (.if_icmp .ge 17, 3) := sdX7_copy_0.2.2.2.2.2.1
theorem dX7_copy_8 : decode cX7_copy 8 = .ok (.aload_n 1, 1) := sdX7_copy_0.2.2.2.2.2.2.1
theorem dX7_copy_9 : decode cX7_copy 9 = .ok (.iload_n 2, 1) := sdX7_copy_0.2.2.2.2.2.2.2.1
theorem sdX7_copy_10 : dz_Seg cX7_copy [(10, .aload_n 0, 1), (11, .iload_n 2, 1), (12, .invokestatic 175, 3), (15, .iastore, 1), (16, .iinc 2 1, 3), (19, .goto (-17), 3), (22, .return_, 1)] := dz_sg _ 10 (by decide +kernel)
theorem dX7_copy_10 : decode cX7_copy 10 = .ok (.aload_n 0, 1) := sdX7_copy_10.1
theorem dX7_copy_11 : decode cX7_copy 11 = .ok (.iload_n 2, 1) := sdX7_copy_10.2.1
theorem dX7_copy_12 : decode cX7_copy 12 = .ok (.invokestatic 175, 3) := sdX7_copy_10.2.2.1
theorem dX7_copy_15 : decode cX7_copy 15 = .ok (.iastore, 1) := sdX7_copy_10.2.2.2.1
theorem dX7_copy_16 : decode cX7_copy 16 = .ok (.iinc 2 1, 3) := sdX7_copy_10.2.2.2.2.1
theorem dX7_copy_19 : decode cX7_copy 19 = .ok (.goto (-17), 3) := sdX7_copy_10.2.2.2.2.2.1
theorem dX7_copy_22 : decode cX7_copy 22 = .ok (.return_, 1) := sdX7_copy_10.2.2.2.2.2.2.1
theorem sdX7_sum_0 : dz_Seg cX7_sum [(0, .iconst 0, 1), (1, .istore_n 1, 1), (2, .iconst 0, 1), (3, .istore_n 2, 1), (4, .iload_n 2, 1), (5, .aload_n 0, 1), (6, .arraylength, 1), (7, .if_icmp .ge 15, 3)] := dz_sg _ 0 (by decide +kernel)
theorem dX7_sum_0 : decode cX7_sum 0 = .ok (.iconst 0, 1) := sdX7_sum_0.1
theorem dX7_sum_1 : decode cX7_sum 1 = .ok (.istore_n 1, 1) := sdX7_sum_0.2.1
theorem dX7_sum_2 : decode cX7_sum 2 = .ok (.iconst 0, 1) := sdX7_sum_0.2.2.1
theorem dX7_sum_3 : decode cX7_sum 3 = .ok (.istore_n 2, 1) := sdX7_sum_0.2.2.2.1
theorem dX7_sum_4 : decode cX7_sum 4 = .ok (.iload_n 2, 1) := sdX7_sum_0.2.2.2.2.1
theorem dX7_sum_5 : decode cX7_sum 5 = .ok (.aload_n 0, 1) := sdX7_sum_0.2.2.2.2.2.1
theorem dX7_sum_6 : decode cX7_sum 6 = .ok (.arraylength, 1) := sdX7_sum_0.2.2.2.2.2.2.1
theorem dX7_sum_7 : decode cX7_sum 7 = .ok (.if_icmp .ge 15, 3) := sdX7_sum_0.2.2.2.2.2.2.2.1
theorem sdX7_sum_10 : dz_Seg cX7_sum [(10, .iload_n 1, 1), (11, .aload_n 0, 1), (12, .iload_n 2, 1), (13, .iaload, 1), (14, .iadd, 1), (15, .istore_n 1, 1), (16, .iinc 2 1, 3), (19, .goto (-15), 3)] := dz_sg _ 10 (by decide +kernel)
theorem dX7_sum_10 : decode cX7_sum 10 = .ok (.iload_n 1, 1) := sdX7_sum_10.1
theorem dX7_sum_11 : decode cX7_sum 11 = .ok (.aload_n 0, 1) := sdX7_sum_10.2.1
theorem dX7_sum_12 : decode cX7_sum 12 = .ok (.iload_n 2, 1) := sdX7_sum_10.2.2.1
theorem dX7_sum_13 : decode cX7_sum 13 = .ok (.iaload, 1) := sdX7_sum_10.2.2.2.1
theorem dX7_sum_14 : decode cX7_sum 14 = .ok (.iadd, 1) := sdX7_sum_10.2.2.2.2.1
theorem dX7_sum_15 : decode cX7_sum 15 = .ok (.istore_n 1, 1) := sdX7_sum_10.2.2.2.2.2.1
theorem dX7_sum_16 : decode cX7_sum 16 = .ok (.iinc 2 1, 3) := sdX7_sum_10.2.2.2.2.2.2.1
theorem dX7_sum_19 : decode cX7_sum 19 = .ok (.goto (-15), 3) := sdX7_sum_10.2.2.2.2.2.2.2.1
theorem sdX7_sum_22 : dz_Seg cX7_sum [(22, .iload_n 1, 1), (23, .ireturn, 1)] := dz_sg _ 22 (by decide +kernel)
theorem dX7_sum_22 : decode cX7_sum 22 = .ok (.iload_n 1, 1) := sdX7_sum_22.1
theorem dX7_sum_23 : decode cX7_sum 23 = .ok (.ireturn, 1) := sdX7_sum_22.2.1
theorem sdJ5_init_d00df_0 : dz_Seg cJ5_init_d00df [(0, .aload_n 0, 1), (1, .invokespecial 3, 3), (4, .getstatic 18, 3), (7, .ifCond .eq 18, 3), (10, .aload_n 0, 1), (11, .iload_n 1, 1), (12, .newarray .byte, 2), (14, .putfield 15, 3)] := dz_sg _ 0 (by decide +kernel)
theorem dJ5_init_d00df_0 : decode cJ5_init_d00df 0 = .ok (.aload_n 0, 1) := sdJ5_init_d00df_0.1
theorem dJ5_init_d00df_1 : decode cJ5_init_d00df 1 = .ok (.invokespecial 3, 3) := sdJ5_init_d00df_0.2.1
theorem dJ5_init_d00df_4 : decode cJ5_init_d00df 4 = .ok (.getstatic 18, 3) := sdJ5_init_d00df_0.2.2.1
theorem dJ5_init_d00df_7 : decode cJ5_init_d00df 7 = .ok (.ifCond .eq 18, 3) := sdJ5_init_d00df_0.2.2.2.1
theorem dJ5_init_d00df_10 : decode cJ5_init_d00df 10 = .ok (.aload_n 0, 1) := sdJ5_init_d00df_0.2.2.2.2.1
theorem dJ5_init_d00df_11 : decode cJ5_init_d00df 11 = .ok (.iload_n 1, 1) := sdJ5_init_d00df_0.2.2.2.2.2.1
theorem dJ5_init_d00df_12 : decode cJ5_init_d00df 12 = .ok (.newarray .byte, 2) := sdJ5_init_d00df_0.2.2.2.2.2.2.1
theorem dJ5_init_d00df_14 : decode cJ5_init_d00df 14 = .ok (.putfield 15, 3) := sdJ5_init_d00df_0.2.2.2.2.2.2.2.1
theorem sdJ5_init_d00df_17 : dz_Seg cJ5_init_d00df [(17, .aload_n 0, 1), (18, .iconst 0, 1), (19, .putfield 22, 3), (22, .goto 16, 3), (25, .aload_n 0, 1), (26, .iload_n 1, 1), (27, .invokestatic 26, 3), (30, .putfield 15, 3)] := dz_sg _ 17 (by decide +kernel)
theorem dJ5_init_d00df_17 : decode cJ5_init_d00df 17 = .ok (.aload_n 0, 1) := sdJ5_init_d00df_17.1
theorem dJ5_init_d00df_18 : decode cJ5_init_d00df 18 = .ok (.iconst 0, 1) := sdJ5_init_d00df_17.2.1
theorem dJ5_init_d00df_19 : decode cJ5_init_d00df 19 = .ok (.putfield 22, 3) := sdJ5_init_d00df_17.2.2.1
theorem dJ5_init_d00df_22 : decode cJ5_init_d00df 22 = .ok (.goto 16, 3) := sdJ5_init_d00df_17.2.2.2.1
theorem dJ5_init_d00df_25 : decode cJ5_init_d00df 25 = .ok (.aload_n 0, 1) := sdJ5_init_d00df_17.2.2.2.2.1
theorem dJ5_init_d00df_26 : decode cJ5_init_d00df 26 = .ok (.iload_n 1, 1) := sdJ5_init_d00df_17.2.2.2.2.2.1
theorem dJ5_init_d00df_27 : decode cJ5_init_d00df 27 = .ok (.invokestatic 26, 3) := sdJ5_init_d00df_17.2.2.2.2.2.2.1
theorem dJ5_init_d00df_30 : decode cJ5_init_d00df 30 = .ok (.putfield 15, 3) := sdJ5_init_d00df_17.2.2.2.2.2.2.2.1
theorem sdJ5_init_d00df_33 : dz_Seg cJ5_init_d00df [(33, .aload_n 0, 1), (34, .iconst 1, 1), (35, .putfield 22, 3), (38, .return_, 1)] := dz_sg _ 33 (by decide +kernel)
theorem dJ5_init_d00df_33 : decode cJ5_init_d00df 33 = .ok (.aload_n 0, 1) := sdJ5_init_d00df_33.1
theorem dJ5_init_d00df_34 : decode cJ5_init_d00df 34 = .ok (.iconst 1, 1) := sdJ5_init_d00df_33.2.1
theorem dJ5_init_d00df_35 : decode cJ5_init_d00df 35 = .ok (.putfield 22, 3) := sdJ5_init_d00df_33.2.2.1
theorem dJ5_init_d00df_38 : decode cJ5_init_d00df 38 = .ok (.return_, 1) := sdJ5_init_d00df_33.2.2.2.1
theorem sdJ5_length_8abf5_0 : dz_Seg cJ5_length_8abf5 [(0, .aload_n 0, 1), (1, .getfield 79, 3), (4, .ireturn, 1)] := dz_sg _ 0 (by decide +kernel)
theorem dJ5_length_8abf5_0 : decode cJ5_length_8abf5 0 = .ok (.aload_n 0, 1) := sdJ5_length_8abf5_0.1
theorem dJ5_length_8abf5_1 : decode cJ5_length_8abf5 1 = .ok (.getfield 79, 3) := sdJ5_length_8abf5_0.2.1
theorem dJ5_length_8abf5_4 : decode cJ5_length_8abf5 4 = .ok (.ireturn, 1) := sdJ5_length_8abf5_0.2.2.1
theorem sdJ5_ensureCapacityInternal_d00df_0 : dz_Seg cJ5_ensureCapacityInternal_d00df [(0, .aload_n 0, 1), (1, .getfield 15, 3), (4, .arraylength, 1), (5, .aload_n 0, 1), (6, .getfield 22, 3), (9, .ishr, 1), (10, .istore_n 2, 1), (11, .iload_n 1, 1)] := dz_sg _ 0 (by decide +kernel)
theorem dJ5_ensureCapacityInternal_d00df_0 : decode cJ5_ensureCapacityInternal_d00df 0 = .ok (.aload_n 0, 1) := sdJ5_ensureCapacityInternal_d00df_0.1
theorem dJ5_ensureCapacityInternal_d00df_1 : decode cJ5_ensureCapacityInternal_d00df 1 = .ok (.getfield 15, 3) := sdJ5_ensureCapacityInternal_d00df_0.2.1
theorem dJ5_ensureCapacityInternal_d00df_4 : decode cJ5_ensureCapacityInternal_d00df 4 = .ok (.arraylength, 1) := sdJ5_ensureCapacityInternal_d00df_0.2.2.1
theorem dJ5_ensureCapacityInternal_d00df_5 : decode cJ5_ensureCapacityInternal_d00df 5 = .ok (.aload_n 0, 1) := sdJ5_ensureCapacityInternal_d00df_0.2.2.2.1
theorem dJ5_ensureCapacityInternal_d00df_6 : decode cJ5_ensureCapacityInternal_d00df 6 = .ok (.getfield 22, 3) := sdJ5_ensureCapacityInternal_d00df_0.2.2.2.2.1
theorem dJ5_ensureCapacityInternal_d00df_9 : decode cJ5_ensureCapacityInternal_d00df 9 = .ok (.ishr, 1) := sdJ5_ensureCapacityInternal_d00df_0.2.2.2.2.2.1
theorem dJ5_ensureCapacityInternal_d00df_10 : decode cJ5_ensureCapacityInternal_d00df 10 = .ok (.istore_n 2, 1) := sdJ5_ensureCapacityInternal_d00df_0.2.2.2.2.2.2.1
theorem dJ5_ensureCapacityInternal_d00df_11 : decode cJ5_ensureCapacityInternal_d00df 11 = .ok (.iload_n 1, 1) := sdJ5_ensureCapacityInternal_d00df_0.2.2.2.2.2.2.2.1
theorem sdJ5_ensureCapacityInternal_d00df_12 : dz_Seg cJ5_ensureCapacityInternal_d00df [(12, .iload_n 2, 1), (13, .isub, 1), (14, .ifCond .le 24, 3), (17, .aload_n 0, 1), (18, .aload_n 0, 1), (19, .getfield 15, 3), (22, .aload_n 0, 1), (23, .iload_n 1, 1)] := dz_sg _ 12 (by decide +kernel)
theorem dJ5_ensureCapacityInternal_d00df_12 : decode cJ5_ensureCapacityInternal_d00df 12 = .ok (.iload_n 2, 1) := sdJ5_ensureCapacityInternal_d00df_12.1
theorem dJ5_ensureCapacityInternal_d00df_13 : decode cJ5_ensureCapacityInternal_d00df 13 = .ok (.isub, 1) := sdJ5_ensureCapacityInternal_d00df_12.2.1
theorem dJ5_ensureCapacityInternal_d00df_14 : decode cJ5_ensureCapacityInternal_d00df 14 = .ok (.ifCond .le 24, 3) := sdJ5_ensureCapacityInternal_d00df_12.2.2.1
theorem dJ5_ensureCapacityInternal_d00df_17 : decode cJ5_ensureCapacityInternal_d00df 17 = .ok (.aload_n 0, 1) := sdJ5_ensureCapacityInternal_d00df_12.2.2.2.1
theorem dJ5_ensureCapacityInternal_d00df_18 : decode cJ5_ensureCapacityInternal_d00df 18 = .ok (.aload_n 0, 1) := sdJ5_ensureCapacityInternal_d00df_12.2.2.2.2.1
theorem dJ5_ensureCapacityInternal_d00df_19 : decode cJ5_ensureCapacityInternal_d00df 19 = .ok (.getfield 15, 3) := sdJ5_ensureCapacityInternal_d00df_12.2.2.2.2.2.1
theorem dJ5_ensureCapacityInternal_d00df_22 : decode cJ5_ensureCapacityInternal_d00df 22 = .ok (.aload_n 0, 1) := sdJ5_ensureCapacityInternal_d00df_12.2.2.2.2.2.2.1
theorem dJ5_ensureCapacityInternal_d00df_23 : decode cJ5_ensureCapacityInternal_d00df 23 = .ok (.iload_n 1, 1) := sdJ5_ensureCapacityInternal_d00df_12.2.2.2.2.2.2.2.1
theorem sdJ5_ensureCapacityInternal_d00df_24 : dz_Seg cJ5_ensureCapacityInternal_d00df [(24, .invokevirtual 104, 3), (27, .aload_n 0, 1), (28, .getfield 22, 3), (31, .ishl, 1), (32, .invokestatic 108, 3), (35, .putfield 15, 3), (38, .return_, 1)] := dz_sg _ 24 (by decide +kernel)
theorem dJ5_ensureCapacityInternal_d00df_24 : decode cJ5_ensureCapacityInternal_d00df 24 = .ok (.invokevirtual 104, 3) := sdJ5_ensureCapacityInternal_d00df_24.1
theorem dJ5_ensureCapacityInternal_d00df_27 : decode cJ5_ensureCapacityInternal_d00df 27 = .ok (.aload_n 0, 1) := sdJ5_ensureCapacityInternal_d00df_24.2.1
theorem dJ5_ensureCapacityInternal_d00df_28 : decode cJ5_ensureCapacityInternal_d00df 28 = .ok (.getfield 22, 3) := sdJ5_ensureCapacityInternal_d00df_24.2.2.1
theorem dJ5_ensureCapacityInternal_d00df_31 : decode cJ5_ensureCapacityInternal_d00df 31 = .ok (.ishl, 1) := sdJ5_ensureCapacityInternal_d00df_24.2.2.2.1
theorem dJ5_ensureCapacityInternal_d00df_32 : decode cJ5_ensureCapacityInternal_d00df 32 = .ok (.invokestatic 108, 3) := sdJ5_ensureCapacityInternal_d00df_24.2.2.2.2.1
theorem dJ5_ensureCapacityInternal_d00df_35 : decode cJ5_ensureCapacityInternal_d00df 35 = .ok (.putfield 15, 3) := sdJ5_ensureCapacityInternal_d00df_24.2.2.2.2.2.1
theorem dJ5_ensureCapacityInternal_d00df_38 : decode cJ5_ensureCapacityInternal_d00df 38 = .ok (.return_, 1) := sdJ5_ensureCapacityInternal_d00df_24.2.2.2.2.2.2.1
theorem sdJ5_newCapacity_0f7a4_0 : dz_Seg cJ5_newCapacity_0f7a4 [(0, .aload_n 0, 1), (1, .getfield 15, 3), (4, .arraylength, 1), (5, .istore_n 2, 1), (6, .iload_n 1, 1), (7, .aload_n 0, 1), (8, .getfield 22, 3), (11, .ishl, 1)] := dz_sg _ 0 (by decide +kernel)
theorem dJ5_newCapacity_0f7a4_0 : decode cJ5_newCapacity_0f7a4 0 = .ok (.aload_n 0, 1) := sdJ5_newCapacity_0f7a4_0.1
theorem dJ5_newCapacity_0f7a4_1 : decode cJ5_newCapacity_0f7a4 1 = .ok (.getfield 15, 3) := sdJ5_newCapacity_0f7a4_0.2.1
theorem dJ5_newCapacity_0f7a4_4 : decode cJ5_newCapacity_0f7a4 4 = .ok (.arraylength, 1) := sdJ5_newCapacity_0f7a4_0.2.2.1
theorem dJ5_newCapacity_0f7a4_5 : decode cJ5_newCapacity_0f7a4 5 = .ok (.istore_n 2, 1) := sdJ5_newCapacity_0f7a4_0.2.2.2.1
theorem dJ5_newCapacity_0f7a4_6 : decode cJ5_newCapacity_0f7a4 6 = .ok (.iload_n 1, 1) := sdJ5_newCapacity_0f7a4_0.2.2.2.2.1
theorem dJ5_newCapacity_0f7a4_7 : decode cJ5_newCapacity_0f7a4 7 = .ok (.aload_n 0, 1) := sdJ5_newCapacity_0f7a4_0.2.2.2.2.2.1
theorem dJ5_newCapacity_0f7a4_8 : decode cJ5_newCapacity_0f7a4 8 = .ok (.getfield 22, 3) := sdJ5_newCapacity_0f7a4_0.2.2.2.2.2.2.1
theorem dJ5_newCapacity_0f7a4_11 : decode cJ5_newCapacity_0f7a4 11 = .ok (.ishl, 1) := sdJ5_newCapacity_0f7a4_0.2.2.2.2.2.2.2.1
theorem sdJ5_newCapacity_0f7a4_12 : dz_Seg cJ5_newCapacity_0f7a4 [(12, .istore_n 3, 1), (13, .iload_n 3, 1), (14, .iload_n 2, 1), (15, .isub, 1), (16, .istore 4, 2), (18, .iload_n 2, 1), (19, .iload 4, 2), (21, .iload_n 2, 1)] := dz_sg _ 12 (by decide +kernel)
theorem dJ5_newCapacity_0f7a4_12 : decode cJ5_newCapacity_0f7a4 12 = .ok (.istore_n 3, 1) := sdJ5_newCapacity_0f7a4_12.1
theorem dJ5_newCapacity_0f7a4_13 : decode cJ5_newCapacity_0f7a4 13 = .ok (.iload_n 3, 1) := sdJ5_newCapacity_0f7a4_12.2.1
theorem dJ5_newCapacity_0f7a4_14 : decode cJ5_newCapacity_0f7a4 14 = .ok (.iload_n 2, 1) := sdJ5_newCapacity_0f7a4_12.2.2.1
theorem dJ5_newCapacity_0f7a4_15 : decode cJ5_newCapacity_0f7a4 15 = .ok (.isub, 1) := sdJ5_newCapacity_0f7a4_12.2.2.2.1
theorem dJ5_newCapacity_0f7a4_16 : decode cJ5_newCapacity_0f7a4 16 = .ok (.istore 4, 2) := sdJ5_newCapacity_0f7a4_12.2.2.2.2.1
theorem dJ5_newCapacity_0f7a4_18 : decode cJ5_newCapacity_0f7a4 18 = .ok (.iload_n 2, 1) := sdJ5_newCapacity_0f7a4_12.2.2.2.2.2.1
theorem dJ5_newCapacity_0f7a4_19 : decode cJ5_newCapacity_0f7a4 19 = .ok (.iload 4, 2) := sdJ5_newCapacity_0f7a4_12.2.2.2.2.2.2.1
theorem dJ5_newCapacity_0f7a4_21 : decode cJ5_newCapacity_0f7a4 21 = .ok (.iload_n 2, 1) := sdJ5_newCapacity_0f7a4_12.2.2.2.2.2.2.2.1
theorem sdJ5_newCapacity_0f7a4_22 : dz_Seg cJ5_newCapacity_0f7a4 [(22, .iconst 2, 1), (23, .aload_n 0, 1), (24, .getfield 22, 3), (27, .ishl, 1), (28, .iadd, 1), (29, .invokestatic 114, 3), (32, .istore 5, 2), (34, .iload 5, 2)] := dz_sg _ 22 (by decide +kernel)
theorem dJ5_newCapacity_0f7a4_22 : decode cJ5_newCapacity_0f7a4 22 = .ok (.iconst 2, 1) := sdJ5_newCapacity_0f7a4_22.1
theorem dJ5_newCapacity_0f7a4_23 : decode cJ5_newCapacity_0f7a4 23 = .ok (.aload_n 0, 1) := sdJ5_newCapacity_0f7a4_22.2.1
theorem dJ5_newCapacity_0f7a4_24 : decode cJ5_newCapacity_0f7a4 24 = .ok (.getfield 22, 3) := sdJ5_newCapacity_0f7a4_22.2.2.1
theorem dJ5_newCapacity_0f7a4_27 : decode cJ5_newCapacity_0f7a4 27 = .ok (.ishl, 1) := sdJ5_newCapacity_0f7a4_22.2.2.2.1
theorem dJ5_newCapacity_0f7a4_28 : decode cJ5_newCapacity_0f7a4 28 = .ok (.iadd, 1) := sdJ5_newCapacity_0f7a4_22.2.2.2.2.1
theorem dJ5_newCapacity_0f7a4_29 : decode cJ5_newCapacity_0f7a4 29 = .ok (.invokestatic 114, 3) := sdJ5_newCapacity_0f7a4_22.2.2.2.2.2.1
theorem dJ5_newCapacity_0f7a4_32 : decode cJ5_newCapacity_0f7a4 32 = .ok (.istore 5, 2) := sdJ5_newCapacity_0f7a4_22.2.2.2.2.2.2.1
theorem dJ5_newCapacity_0f7a4_34 : decode cJ5_newCapacity_0f7a4 34 = .ok (.iload 5, 2) := sdJ5_newCapacity_0f7a4_22.2.2.2.2.2.2.2.1
theorem sdJ5_newCapacity_0f7a4_36 : dz_Seg cJ5_newCapacity_0f7a4 [(36, .ldc 39, 2), (38, .if_icmp .ne 13, 3), (41, .new 120, 3), (44, .dup, 1), (45, .ldc 122, 2), (47, .invokespecial 124, 3), (50, .athrow, 1), (51, .iload 5, 2)] := dz_sg _ 36 (by decide +kernel)
theorem dJ5_newCapacity_0f7a4_36 : decode cJ5_newCapacity_0f7a4 36 = .ok (.ldc 39, 2) := sdJ5_newCapacity_0f7a4_36.1
theorem dJ5_newCapacity_0f7a4_38 : decode cJ5_newCapacity_0f7a4 38 = .ok (.if_icmp .ne 13, 3) := sdJ5_newCapacity_0f7a4_36.2.1
theorem dJ5_newCapacity_0f7a4_41 : decode cJ5_newCapacity_0f7a4 41 = .ok (.new 120, 3) := sdJ5_newCapacity_0f7a4_36.2.2.1
theorem dJ5_newCapacity_0f7a4_44 : decode cJ5_newCapacity_0f7a4 44 = .ok (.dup, 1) := sdJ5_newCapacity_0f7a4_36.2.2.2.1
theorem dJ5_newCapacity_0f7a4_45 : decode cJ5_newCapacity_0f7a4 45 = .ok (.ldc 122, 2) := sdJ5_newCapacity_0f7a4_36.2.2.2.2.1
theorem dJ5_newCapacity_0f7a4_47 : decode cJ5_newCapacity_0f7a4 47 = .ok (.invokespecial 124, 3) := sdJ5_newCapacity_0f7a4_36.2.2.2.2.2.1
theorem dJ5_newCapacity_0f7a4_50 : decode cJ5_newCapacity_0f7a4 50 = .ok (.athrow, 1) := sdJ5_newCapacity_0f7a4_36.2.2.2.2.2.2.1
theorem dJ5_newCapacity_0f7a4_51 : decode cJ5_newCapacity_0f7a4 51 = .ok (.iload 5, 2) := sdJ5_newCapacity_0f7a4_36.2.2.2.2.2.2.2.1
theorem sdJ5_newCapacity_0f7a4_53 : dz_Seg cJ5_newCapacity_0f7a4 [(53, .aload_n 0, 1), (54, .getfield 22, 3), (57, .ishr, 1), (58, .ireturn, 1)] := dz_sg _ 53 (by decide +kernel)
theorem dJ5_newCapacity_0f7a4_53 : decode cJ5_newCapacity_0f7a4 53 = .ok (.aload_n 0, 1) := sdJ5_newCapacity_0f7a4_53.1
theorem dJ5_newCapacity_0f7a4_54 : decode cJ5_newCapacity_0f7a4 54 = .ok (.getfield 22, 3) := sdJ5_newCapacity_0f7a4_53.2.1
theorem dJ5_newCapacity_0f7a4_57 : decode cJ5_newCapacity_0f7a4 57 = .ok (.ishr, 1) := sdJ5_newCapacity_0f7a4_53.2.2.1
theorem dJ5_newCapacity_0f7a4_58 : decode cJ5_newCapacity_0f7a4 58 = .ok (.ireturn, 1) := sdJ5_newCapacity_0f7a4_53.2.2.2.1
theorem sdJ5_inflate_da8c8_0 : dz_Seg cJ5_inflate_da8c8 [(0, .aload_n 0, 1), (1, .invokevirtual 83, 3), (4, .ifCond .ne 4, 3), (7, .return_, 1), (8, .aload_n 0, 1), (9, .getfield 15, 3), (12, .arraylength, 1), (13, .invokestatic 26, 3)] := dz_sg _ 0 (by decide +kernel)
theorem dJ5_inflate_da8c8_0 : decode cJ5_inflate_da8c8 0 = .ok (.aload_n 0, 1) := sdJ5_inflate_da8c8_0.1
theorem dJ5_inflate_da8c8_1 : decode cJ5_inflate_da8c8 1 = .ok (.invokevirtual 83, 3) := sdJ5_inflate_da8c8_0.2.1
theorem dJ5_inflate_da8c8_4 : decode cJ5_inflate_da8c8 4 = .ok (.ifCond .ne 4, 3) := sdJ5_inflate_da8c8_0.2.2.1
theorem dJ5_inflate_da8c8_7 : decode cJ5_inflate_da8c8 7 = .ok (.return_, 1) := sdJ5_inflate_da8c8_0.2.2.2.1
theorem dJ5_inflate_da8c8_8 : decode cJ5_inflate_da8c8 8 = .ok (.aload_n 0, 1) := sdJ5_inflate_da8c8_0.2.2.2.2.1
theorem dJ5_inflate_da8c8_9 : decode cJ5_inflate_da8c8 9 = .ok (.getfield 15, 3) := sdJ5_inflate_da8c8_0.2.2.2.2.2.1
theorem dJ5_inflate_da8c8_12 : decode cJ5_inflate_da8c8 12 = .ok (.arraylength, 1) := sdJ5_inflate_da8c8_0.2.2.2.2.2.2.1
theorem dJ5_inflate_da8c8_13 : decode cJ5_inflate_da8c8 13 = .ok (.invokestatic 26, 3) := sdJ5_inflate_da8c8_0.2.2.2.2.2.2.2.1
theorem sdJ5_inflate_da8c8_16 : dz_Seg cJ5_inflate_da8c8 [(16, .astore_n 1, 1), (17, .aload_n 0, 1), (18, .getfield 15, 3), (21, .iconst 0, 1), (22, .aload_n 1, 1), (23, .iconst 0, 1), (24, .aload_n 0, 1), (25, .getfield 79, 3)] := dz_sg _ 16 (by decide +kernel)
theorem dJ5_inflate_da8c8_16 : decode cJ5_inflate_da8c8 16 = .ok (.astore_n 1, 1) := sdJ5_inflate_da8c8_16.1
theorem dJ5_inflate_da8c8_17 : decode cJ5_inflate_da8c8 17 = .ok (.aload_n 0, 1) := sdJ5_inflate_da8c8_16.2.1
theorem dJ5_inflate_da8c8_18 : decode cJ5_inflate_da8c8 18 = .ok (.getfield 15, 3) := sdJ5_inflate_da8c8_16.2.2.1
theorem dJ5_inflate_da8c8_21 : decode cJ5_inflate_da8c8 21 = .ok (.iconst 0, 1) := sdJ5_inflate_da8c8_16.2.2.2.1
theorem dJ5_inflate_da8c8_22 : decode cJ5_inflate_da8c8 22 = .ok (.aload_n 1, 1) := sdJ5_inflate_da8c8_16.2.2.2.2.1
theorem dJ5_inflate_da8c8_23 : decode cJ5_inflate_da8c8 23 = .ok (.iconst 0, 1) := sdJ5_inflate_da8c8_16.2.2.2.2.2.1
theorem dJ5_inflate_da8c8_24 : decode cJ5_inflate_da8c8 24 = .ok (.aload_n 0, 1) := sdJ5_inflate_da8c8_16.2.2.2.2.2.2.1
theorem dJ5_inflate_da8c8_25 : decode cJ5_inflate_da8c8 25 = .ok (.getfield 79, 3) := sdJ5_inflate_da8c8_16.2.2.2.2.2.2.2.1
theorem sdJ5_inflate_da8c8_28 : dz_Seg cJ5_inflate_da8c8 [(28, .invokestatic 125, 3), (31, .aload_n 0, 1), (32, .aload_n 1, 1), (33, .putfield 15, 3), (36, .aload_n 0, 1), (37, .iconst 1, 1), (38, .putfield 22, 3), (41, .return_, 1)] := dz_sg _ 28 (by decide +kernel)
theorem dJ5_inflate_da8c8_28 : decode cJ5_inflate_da8c8 28 = .ok (.invokestatic 125, 3) := sdJ5_inflate_da8c8_28.1
theorem dJ5_inflate_da8c8_31 : decode cJ5_inflate_da8c8 31 = .ok (.aload_n 0, 1) := sdJ5_inflate_da8c8_28.2.1
theorem dJ5_inflate_da8c8_32 : decode cJ5_inflate_da8c8 32 = .ok (.aload_n 1, 1) := sdJ5_inflate_da8c8_28.2.2.1
theorem dJ5_inflate_da8c8_33 : decode cJ5_inflate_da8c8 33 = .ok (.putfield 15, 3) := sdJ5_inflate_da8c8_28.2.2.2.1
theorem dJ5_inflate_da8c8_36 : decode cJ5_inflate_da8c8 36 = .ok (.aload_n 0, 1) := sdJ5_inflate_da8c8_28.2.2.2.2.1
theorem dJ5_inflate_da8c8_37 : decode cJ5_inflate_da8c8 37 = .ok (.iconst 1, 1) := sdJ5_inflate_da8c8_28.2.2.2.2.2.1
theorem dJ5_inflate_da8c8_38 : decode cJ5_inflate_da8c8 38 = .ok (.putfield 22, 3) := sdJ5_inflate_da8c8_28.2.2.2.2.2.2.1
theorem dJ5_inflate_da8c8_41 : decode cJ5_inflate_da8c8 41 = .ok (.return_, 1) := sdJ5_inflate_da8c8_28.2.2.2.2.2.2.2.1
theorem sdJ5_append_cf1ce_0 : dz_Seg cJ5_append_cf1ce [(0, .aload_n 1, 1), (1, .ifnonnull 8, 3), (4, .aload_n 0, 1), (5, .invokevirtual 204, 3), (8, .areturn, 1), (9, .aload_n 1, 1), (10, .invokevirtual 32, 3), (13, .istore_n 2, 1)] := dz_sg _ 0 (by decide +kernel)
theorem dJ5_append_cf1ce_0 : decode cJ5_append_cf1ce 0 = .ok (.aload_n 1, 1) := sdJ5_append_cf1ce_0.1
theorem dJ5_append_cf1ce_1 : decode cJ5_append_cf1ce 1 = .ok (.ifnonnull 8, 3) := sdJ5_append_cf1ce_0.2.1
theorem dJ5_append_cf1ce_4 : decode cJ5_append_cf1ce 4 = .ok (.aload_n 0, 1) := sdJ5_append_cf1ce_0.2.2.1
theorem dJ5_append_cf1ce_5 : decode cJ5_append_cf1ce 5 = .ok (.invokevirtual 204, 3) := sdJ5_append_cf1ce_0.2.2.2.1
theorem dJ5_append_cf1ce_8 : decode cJ5_append_cf1ce 8 = .ok (.areturn, 1) := sdJ5_append_cf1ce_0.2.2.2.2.1
theorem dJ5_append_cf1ce_9 : decode cJ5_append_cf1ce 9 = .ok (.aload_n 1, 1) := sdJ5_append_cf1ce_0.2.2.2.2.2.1
theorem dJ5_append_cf1ce_10 : decode cJ5_append_cf1ce 10 = .ok (.invokevirtual 32, 3) := sdJ5_append_cf1ce_0.2.2.2.2.2.2.1
theorem dJ5_append_cf1ce_13 : decode cJ5_append_cf1ce 13 = .ok (.istore_n 2, 1) := sdJ5_append_cf1ce_0.2.2.2.2.2.2.2.1
theorem sdJ5_append_cf1ce_14 : dz_Seg cJ5_append_cf1ce [(14, .aload_n 0, 1), (15, .aload_n 0, 1), (16, .getfield 79, 3), (19, .iload_n 2, 1), (20, .iadd, 1), (21, .invokevirtual 100, 3), (24, .aload_n 0, 1), (25, .aload_n 0, 1)] := dz_sg _ 14 (by decide +kernel)
theorem dJ5_append_cf1ce_14 : decode cJ5_append_cf1ce 14 = .ok (.aload_n 0, 1) := sdJ5_append_cf1ce_14.1
theorem dJ5_append_cf1ce_15 : decode cJ5_append_cf1ce 15 = .ok (.aload_n 0, 1) := sdJ5_append_cf1ce_14.2.1
theorem dJ5_append_cf1ce_16 : decode cJ5_append_cf1ce 16 = .ok (.getfield 79, 3) := sdJ5_append_cf1ce_14.2.2.1
theorem dJ5_append_cf1ce_19 : decode cJ5_append_cf1ce 19 = .ok (.iload_n 2, 1) := sdJ5_append_cf1ce_14.2.2.2.1
theorem dJ5_append_cf1ce_20 : decode cJ5_append_cf1ce 20 = .ok (.iadd, 1) := sdJ5_append_cf1ce_14.2.2.2.2.1
theorem dJ5_append_cf1ce_21 : decode cJ5_append_cf1ce 21 = .ok (.invokevirtual 100, 3) := sdJ5_append_cf1ce_14.2.2.2.2.2.1
theorem dJ5_append_cf1ce_24 : decode cJ5_append_cf1ce 24 = .ok (.aload_n 0, 1) := sdJ5_append_cf1ce_14.2.2.2.2.2.2.1
theorem dJ5_append_cf1ce_25 : decode cJ5_append_cf1ce 25 = .ok (.aload_n 0, 1) := sdJ5_append_cf1ce_14.2.2.2.2.2.2.2.1
theorem sdJ5_append_cf1ce_26 : dz_Seg cJ5_append_cf1ce [(26, .getfield 79, 3), (29, .aload_n 1, 1), (30, .invokevirtual 208, 3), (33, .aload_n 0, 1), (34, .dup, 1), (35, .getfield 79, 3), (38, .iload_n 2, 1), (39, .iadd, 1)] := dz_sg _ 26 (by decide +kernel)
theorem dJ5_append_cf1ce_26 : decode cJ5_append_cf1ce 26 = .ok (.getfield 79, 3) := sdJ5_append_cf1ce_26.1
theorem dJ5_append_cf1ce_29 : decode cJ5_append_cf1ce 29 = .ok (.aload_n 1, 1) := sdJ5_append_cf1ce_26.2.1
theorem dJ5_append_cf1ce_30 : decode cJ5_append_cf1ce 30 = .ok (.invokevirtual 208, 3) := sdJ5_append_cf1ce_26.2.2.1
theorem dJ5_append_cf1ce_33 : decode cJ5_append_cf1ce 33 = .ok (.aload_n 0, 1) := sdJ5_append_cf1ce_26.2.2.2.1
theorem dJ5_append_cf1ce_34 : decode cJ5_append_cf1ce 34 = .ok (.dup, 1) := sdJ5_append_cf1ce_26.2.2.2.2.1
theorem dJ5_append_cf1ce_35 : decode cJ5_append_cf1ce 35 = .ok (.getfield 79, 3) := sdJ5_append_cf1ce_26.2.2.2.2.2.1
theorem dJ5_append_cf1ce_38 : decode cJ5_append_cf1ce 38 = .ok (.iload_n 2, 1) := sdJ5_append_cf1ce_26.2.2.2.2.2.2.1
theorem dJ5_append_cf1ce_39 : decode cJ5_append_cf1ce 39 = .ok (.iadd, 1) := sdJ5_append_cf1ce_26.2.2.2.2.2.2.2.1
theorem sdJ5_append_cf1ce_40 : dz_Seg cJ5_append_cf1ce [(40, .putfield 79, 3), (43, .aload_n 0, 1), (44, .areturn, 1)] := dz_sg _ 40 (by decide +kernel)
theorem dJ5_append_cf1ce_40 : decode cJ5_append_cf1ce 40 = .ok (.putfield 79, 3) := sdJ5_append_cf1ce_40.1
theorem dJ5_append_cf1ce_43 : decode cJ5_append_cf1ce 43 = .ok (.aload_n 0, 1) := sdJ5_append_cf1ce_40.2.1
theorem dJ5_append_cf1ce_44 : decode cJ5_append_cf1ce 44 = .ok (.areturn, 1) := sdJ5_append_cf1ce_40.2.2.1
theorem sdJ5_appendNull_278bc_0 : dz_Seg cJ5_appendNull_278bc [(0, .aload_n 0, 1), (1, .aload_n 0, 1), (2, .getfield 79, 3), (5, .iconst 4, 1), (6, .iadd, 1), (7, .invokevirtual 100, 3), (10, .aload_n 0, 1), (11, .getfield 79, 3)] := dz_sg _ 0 (by decide +kernel)
theorem dJ5_appendNull_278bc_0 : decode cJ5_appendNull_278bc 0 = .ok (.aload_n 0, 1) := sdJ5_appendNull_278bc_0.1
theorem dJ5_appendNull_278bc_1 : decode cJ5_appendNull_278bc 1 = .ok (.aload_n 0, 1) := sdJ5_appendNull_278bc_0.2.1
theorem dJ5_appendNull_278bc_2 : decode cJ5_appendNull_278bc 2 = .ok (.getfield 79, 3) := sdJ5_appendNull_278bc_0.2.2.1
theorem dJ5_appendNull_278bc_5 : decode cJ5_appendNull_278bc 5 = .ok (.iconst 4, 1) := sdJ5_appendNull_278bc_0.2.2.2.1
theorem dJ5_appendNull_278bc_6 : decode cJ5_appendNull_278bc 6 = .ok (.iadd, 1) := sdJ5_appendNull_278bc_0.2.2.2.2.1
theorem dJ5_appendNull_278bc_7 : decode cJ5_appendNull_278bc 7 = .ok (.invokevirtual 100, 3) := sdJ5_appendNull_278bc_0.2.2.2.2.2.1
theorem dJ5_appendNull_278bc_10 : decode cJ5_appendNull_278bc 10 = .ok (.aload_n 0, 1) := sdJ5_appendNull_278bc_0.2.2.2.2.2.2.1
theorem dJ5_appendNull_278bc_11 : decode cJ5_appendNull_278bc 11 = .ok (.getfield 79, 3) := sdJ5_appendNull_278bc_0.2.2.2.2.2.2.2.1
theorem sdJ5_appendNull_278bc_14 : dz_Seg cJ5_appendNull_278bc [(14, .istore_n 1, 1), (15, .aload_n 0, 1), (16, .getfield 15, 3), (19, .astore_n 2, 1), (20, .aload_n 0, 1), (21, .invokevirtual 83, 3), (24, .ifCond .eq 38, 3), (27, .aload_n 2, 1)] := dz_sg _ 14 (by decide +kernel)
theorem dJ5_appendNull_278bc_14 : decode cJ5_appendNull_278bc 14 = .ok (.istore_n 1, 1) := sdJ5_appendNull_278bc_14.1
theorem dJ5_appendNull_278bc_15 : decode cJ5_appendNull_278bc 15 = .ok (.aload_n 0, 1) := sdJ5_appendNull_278bc_14.2.1
theorem dJ5_appendNull_278bc_16 : decode cJ5_appendNull_278bc 16 = .ok (.getfield 15, 3) := sdJ5_appendNull_278bc_14.2.2.1
theorem dJ5_appendNull_278bc_19 : decode cJ5_appendNull_278bc 19 = .ok (.astore_n 2, 1) := sdJ5_appendNull_278bc_14.2.2.2.1
theorem dJ5_appendNull_278bc_20 : decode cJ5_appendNull_278bc 20 = .ok (.aload_n 0, 1) := sdJ5_appendNull_278bc_14.2.2.2.2.1
theorem dJ5_appendNull_278bc_21 : decode cJ5_appendNull_278bc 21 = .ok (.invokevirtual 83, 3) := sdJ5_appendNull_278bc_14.2.2.2.2.2.1
theorem dJ5_appendNull_278bc_24 : decode cJ5_appendNull_278bc 24 = .ok (.ifCond .eq 38, 3) := sdJ5_appendNull_278bc_14.2.2.2.2.2.2.1
theorem dJ5_appendNull_278bc_27 : decode cJ5_appendNull_278bc 27 = .ok (.aload_n 2, 1) := sdJ5_appendNull_278bc_14.2.2.2.2.2.2.2.1
theorem sdJ5_appendNull_278bc_28 : dz_Seg cJ5_appendNull_278bc [(28, .iload_n 1, 1), (29, .iinc 1 1, 3), (32, .bipush 110, 2), (34, .bastore, 1), (35, .aload_n 2, 1), (36, .iload_n 1, 1), (37, .iinc 1 1, 3), (40, .bipush 117, 2)] := dz_sg _ 28 (by decide +kernel)
theorem dJ5_appendNull_278bc_28 : decode cJ5_appendNull_278bc 28 = .ok (.iload_n 1, 1) := sdJ5_appendNull_278bc_28.1
theorem dJ5_appendNull_278bc_29 : decode cJ5_appendNull_278bc 29 = .ok (.iinc 1 1, 3) := sdJ5_appendNull_278bc_28.2.1
theorem dJ5_appendNull_278bc_32 : decode cJ5_appendNull_278bc 32 = .ok (.bipush 110, 2) := sdJ5_appendNull_278bc_28.2.2.1
theorem dJ5_appendNull_278bc_34 : decode cJ5_appendNull_278bc 34 = .ok (.bastore, 1) := sdJ5_appendNull_278bc_28.2.2.2.1
theorem dJ5_appendNull_278bc_35 : decode cJ5_appendNull_278bc 35 = .ok (.aload_n 2, 1) := sdJ5_appendNull_278bc_28.2.2.2.2.1
theorem dJ5_appendNull_278bc_36 : decode cJ5_appendNull_278bc 36 = .ok (.iload_n 1, 1) := sdJ5_appendNull_278bc_28.2.2.2.2.2.1
theorem dJ5_appendNull_278bc_37 : decode cJ5_appendNull_278bc 37 = .ok (.iinc 1 1, 3) := sdJ5_appendNull_278bc_28.2.2.2.2.2.2.1
theorem dJ5_appendNull_278bc_40 : decode cJ5_appendNull_278bc 40 = .ok (.bipush 117, 2) := sdJ5_appendNull_278bc_28.2.2.2.2.2.2.2.1
theorem sdJ5_appendNull_278bc_42 : dz_Seg cJ5_appendNull_278bc [(42, .bastore, 1), (43, .aload_n 2, 1), (44, .iload_n 1, 1), (45, .iinc 1 1, 3), (48, .bipush 108, 2), (50, .bastore, 1), (51, .aload_n 2, 1), (52, .iload_n 1, 1)] := dz_sg _ 42 (by decide +kernel)
theorem dJ5_appendNull_278bc_42 : decode cJ5_appendNull_278bc 42 = .ok (.bastore, 1) := sdJ5_appendNull_278bc_42.1
theorem dJ5_appendNull_278bc_43 : decode cJ5_appendNull_278bc 43 = .ok (.aload_n 2, 1) := sdJ5_appendNull_278bc_42.2.1
theorem dJ5_appendNull_278bc_44 : decode cJ5_appendNull_278bc 44 = .ok (.iload_n 1, 1) := sdJ5_appendNull_278bc_42.2.2.1
theorem dJ5_appendNull_278bc_45 : decode cJ5_appendNull_278bc 45 = .ok (.iinc 1 1, 3) := sdJ5_appendNull_278bc_42.2.2.2.1
theorem dJ5_appendNull_278bc_48 : decode cJ5_appendNull_278bc 48 = .ok (.bipush 108, 2) := sdJ5_appendNull_278bc_42.2.2.2.2.1
theorem dJ5_appendNull_278bc_50 : decode cJ5_appendNull_278bc 50 = .ok (.bastore, 1) := sdJ5_appendNull_278bc_42.2.2.2.2.2.1
theorem dJ5_appendNull_278bc_51 : decode cJ5_appendNull_278bc 51 = .ok (.aload_n 2, 1) := sdJ5_appendNull_278bc_42.2.2.2.2.2.2.1
theorem dJ5_appendNull_278bc_52 : decode cJ5_appendNull_278bc 52 = .ok (.iload_n 1, 1) := sdJ5_appendNull_278bc_42.2.2.2.2.2.2.2.1
theorem sdJ5_appendNull_278bc_53 : dz_Seg cJ5_appendNull_278bc [(53, .iinc 1 1, 3), (56, .bipush 108, 2), (58, .bastore, 1), (59, .goto 17, 3), (62, .aload_n 2, 1), (63, .iload_n 1, 1), (64, .bipush 110, 2), (66, .bipush 117, 2)] := dz_sg _ 53 (by decide +kernel)
theorem dJ5_appendNull_278bc_53 : decode cJ5_appendNull_278bc 53 = .ok (.iinc 1 1, 3) := sdJ5_appendNull_278bc_53.1
theorem dJ5_appendNull_278bc_56 : decode cJ5_appendNull_278bc 56 = .ok (.bipush 108, 2) := sdJ5_appendNull_278bc_53.2.1
theorem dJ5_appendNull_278bc_58 : decode cJ5_appendNull_278bc 58 = .ok (.bastore, 1) := sdJ5_appendNull_278bc_53.2.2.1
theorem dJ5_appendNull_278bc_59 : decode cJ5_appendNull_278bc 59 = .ok (.goto 17, 3) := sdJ5_appendNull_278bc_53.2.2.2.1
theorem dJ5_appendNull_278bc_62 : decode cJ5_appendNull_278bc 62 = .ok (.aload_n 2, 1) := sdJ5_appendNull_278bc_53.2.2.2.2.1
theorem dJ5_appendNull_278bc_63 : decode cJ5_appendNull_278bc 63 = .ok (.iload_n 1, 1) := sdJ5_appendNull_278bc_53.2.2.2.2.2.1
theorem dJ5_appendNull_278bc_64 : decode cJ5_appendNull_278bc 64 = .ok (.bipush 110, 2) := sdJ5_appendNull_278bc_53.2.2.2.2.2.2.1
theorem dJ5_appendNull_278bc_66 : decode cJ5_appendNull_278bc 66 = .ok (.bipush 117, 2) := sdJ5_appendNull_278bc_53.2.2.2.2.2.2.2.1
theorem sdJ5_appendNull_278bc_68 : dz_Seg cJ5_appendNull_278bc [(68, .bipush 108, 2), (70, .bipush 108, 2), (72, .invokestatic 226, 3), (75, .istore_n 1, 1), (76, .aload_n 0, 1), (77, .iload_n 1, 1), (78, .putfield 79, 3), (81, .aload_n 0, 1)] := dz_sg _ 68 (by decide +kernel)
theorem dJ5_appendNull_278bc_68 : decode cJ5_appendNull_278bc 68 = .ok (.bipush 108, 2) := sdJ5_appendNull_278bc_68.1
theorem dJ5_appendNull_278bc_70 : decode cJ5_appendNull_278bc 70 = .ok (.bipush 108, 2) := sdJ5_appendNull_278bc_68.2.1
theorem dJ5_appendNull_278bc_72 : decode cJ5_appendNull_278bc 72 = .ok (.invokestatic 226, 3) := sdJ5_appendNull_278bc_68.2.2.1
theorem dJ5_appendNull_278bc_75 : decode cJ5_appendNull_278bc 75 = .ok (.istore_n 1, 1) := sdJ5_appendNull_278bc_68.2.2.2.1
theorem dJ5_appendNull_278bc_76 : decode cJ5_appendNull_278bc 76 = .ok (.aload_n 0, 1) := sdJ5_appendNull_278bc_68.2.2.2.2.1
theorem dJ5_appendNull_278bc_77 : decode cJ5_appendNull_278bc 77 = .ok (.iload_n 1, 1) := sdJ5_appendNull_278bc_68.2.2.2.2.2.1
theorem dJ5_appendNull_278bc_78 : decode cJ5_appendNull_278bc 78 = .ok (.putfield 79, 3) := sdJ5_appendNull_278bc_68.2.2.2.2.2.2.1
theorem dJ5_appendNull_278bc_81 : decode cJ5_appendNull_278bc 81 = .ok (.aload_n 0, 1) := sdJ5_appendNull_278bc_68.2.2.2.2.2.2.2.1
theorem sdJ5_appendNull_278bc_82 : dz_Seg cJ5_appendNull_278bc [(82, .areturn, 1)] := dz_sg _ 82 (by decide +kernel)
theorem dJ5_appendNull_278bc_82 : decode cJ5_appendNull_278bc 82 = .ok (.areturn, 1) := sdJ5_appendNull_278bc_82.1
theorem sdJ5_append_3fe6f_0 : dz_Seg cJ5_append_3fe6f [(0, .aload_n 0, 1), (1, .aload_n 0, 1), (2, .getfield 79, 3), (5, .iconst 1, 1), (6, .iadd, 1), (7, .invokevirtual 100, 3), (10, .aload_n 0, 1), (11, .invokevirtual 83, 3)] := dz_sg _ 0 (by decide +kernel)
theorem dJ5_append_3fe6f_0 : decode cJ5_append_3fe6f 0 = .ok (.aload_n 0, 1) := sdJ5_append_3fe6f_0.1
theorem dJ5_append_3fe6f_1 : decode cJ5_append_3fe6f 1 = .ok (.aload_n 0, 1) := sdJ5_append_3fe6f_0.2.1
theorem dJ5_append_3fe6f_2 : decode cJ5_append_3fe6f 2 = .ok (.getfield 79, 3) := sdJ5_append_3fe6f_0.2.2.1
theorem dJ5_append_3fe6f_5 : decode cJ5_append_3fe6f 5 = .ok (.iconst 1, 1) := sdJ5_append_3fe6f_0.2.2.2.1
theorem dJ5_append_3fe6f_6 : decode cJ5_append_3fe6f 6 = .ok (.iadd, 1) := sdJ5_append_3fe6f_0.2.2.2.2.1
theorem dJ5_append_3fe6f_7 : decode cJ5_append_3fe6f 7 = .ok (.invokevirtual 100, 3) := sdJ5_append_3fe6f_0.2.2.2.2.2.1
theorem dJ5_append_3fe6f_10 : decode cJ5_append_3fe6f 10 = .ok (.aload_n 0, 1) := sdJ5_append_3fe6f_0.2.2.2.2.2.2.1
theorem dJ5_append_3fe6f_11 : decode cJ5_append_3fe6f 11 = .ok (.invokevirtual 83, 3) := sdJ5_append_3fe6f_0.2.2.2.2.2.2.2.1
theorem sdJ5_append_3fe6f_14 : dz_Seg cJ5_append_3fe6f [(14, .ifCond .eq 31, 3), (17, .iload_n 1, 1), (18, .invokestatic 191, 3), (21, .ifCond .eq 24, 3), (24, .aload_n 0, 1), (25, .getfield 15, 3), (28, .aload_n 0, 1), (29, .dup, 1)] := dz_sg _ 14 (by decide +kernel)
theorem dJ5_append_3fe6f_14 : decode cJ5_append_3fe6f 14 = .ok (.ifCond .eq 31, 3) := sdJ5_append_3fe6f_14.1
theorem dJ5_append_3fe6f_17 : decode cJ5_append_3fe6f 17 = .ok (.iload_n 1, 1) := sdJ5_append_3fe6f_14.2.1
theorem dJ5_append_3fe6f_18 : decode cJ5_append_3fe6f 18 = .ok (.invokestatic 191, 3) := sdJ5_append_3fe6f_14.2.2.1
theorem dJ5_append_3fe6f_21 : decode cJ5_append_3fe6f 21 = .ok (.ifCond .eq 24, 3) := sdJ5_append_3fe6f_14.2.2.2.1
theorem dJ5_append_3fe6f_24 : decode cJ5_append_3fe6f 24 = .ok (.aload_n 0, 1) := sdJ5_append_3fe6f_14.2.2.2.2.1
theorem dJ5_append_3fe6f_25 : decode cJ5_append_3fe6f 25 = .ok (.getfield 15, 3) := sdJ5_append_3fe6f_14.2.2.2.2.2.1
theorem dJ5_append_3fe6f_28 : decode cJ5_append_3fe6f 28 = .ok (.aload_n 0, 1) := sdJ5_append_3fe6f_14.2.2.2.2.2.2.1
theorem dJ5_append_3fe6f_29 : decode cJ5_append_3fe6f 29 = .ok (.dup, 1) := sdJ5_append_3fe6f_14.2.2.2.2.2.2.2.1
theorem sdJ5_append_3fe6f_30 : dz_Seg cJ5_append_3fe6f [(30, .getfield 79, 3), (33, .dup_x1, 1), (34, .iconst 1, 1), (35, .iadd, 1), (36, .putfield 79, 3), (39, .iload_n 1, 1), (40, .i2b, 1), (41, .bastore, 1)] := dz_sg _ 30 (by decide +kernel)
theorem dJ5_append_3fe6f_30 : decode cJ5_append_3fe6f 30 = .ok (.getfield 79, 3) := sdJ5_append_3fe6f_30.1
theorem dJ5_append_3fe6f_33 : decode cJ5_append_3fe6f 33 = .ok (.dup_x1, 1) := sdJ5_append_3fe6f_30.2.1
theorem dJ5_append_3fe6f_34 : decode cJ5_append_3fe6f 34 = .ok (.iconst 1, 1) := sdJ5_append_3fe6f_30.2.2.1
theorem dJ5_append_3fe6f_35 : decode cJ5_append_3fe6f 35 = .ok (.iadd, 1) := sdJ5_append_3fe6f_30.2.2.2.1
theorem dJ5_append_3fe6f_36 : decode cJ5_append_3fe6f 36 = .ok (.putfield 79, 3) := sdJ5_append_3fe6f_30.2.2.2.2.1
theorem dJ5_append_3fe6f_39 : decode cJ5_append_3fe6f 39 = .ok (.iload_n 1, 1) := sdJ5_append_3fe6f_30.2.2.2.2.2.1
theorem dJ5_append_3fe6f_40 : decode cJ5_append_3fe6f 40 = .ok (.i2b, 1) := sdJ5_append_3fe6f_30.2.2.2.2.2.2.1
theorem dJ5_append_3fe6f_41 : decode cJ5_append_3fe6f 41 = .ok (.bastore, 1) := sdJ5_append_3fe6f_30.2.2.2.2.2.2.2.1
theorem sdJ5_append_3fe6f_42 : dz_Seg cJ5_append_3fe6f [(42, .goto 33, 3), (45, .aload_n 0, 1), (46, .invokevirtual 83, 3), (49, .ifCond .eq 7, 3), (52, .aload_n 0, 1), (53, .invokevirtual 195, 3), (56, .aload_n 0, 1), (57, .getfield 15, 3)] := dz_sg _ 42 (by decide +kernel)
theorem dJ5_append_3fe6f_42 : decode cJ5_append_3fe6f 42 = .ok (.goto 33, 3) := sdJ5_append_3fe6f_42.1
theorem dJ5_append_3fe6f_45 : decode cJ5_append_3fe6f 45 = .ok (.aload_n 0, 1) := sdJ5_append_3fe6f_42.2.1
theorem dJ5_append_3fe6f_46 : decode cJ5_append_3fe6f 46 = .ok (.invokevirtual 83, 3) := sdJ5_append_3fe6f_42.2.2.1
theorem dJ5_append_3fe6f_49 : decode cJ5_append_3fe6f 49 = .ok (.ifCond .eq 7, 3) := sdJ5_append_3fe6f_42.2.2.2.1
theorem dJ5_append_3fe6f_52 : decode cJ5_append_3fe6f 52 = .ok (.aload_n 0, 1) := sdJ5_append_3fe6f_42.2.2.2.2.1
theorem dJ5_append_3fe6f_53 : decode cJ5_append_3fe6f 53 = .ok (.invokevirtual 195, 3) := sdJ5_append_3fe6f_42.2.2.2.2.2.1
theorem dJ5_append_3fe6f_56 : decode cJ5_append_3fe6f 56 = .ok (.aload_n 0, 1) := sdJ5_append_3fe6f_42.2.2.2.2.2.2.1
theorem dJ5_append_3fe6f_57 : decode cJ5_append_3fe6f 57 = .ok (.getfield 15, 3) := sdJ5_append_3fe6f_42.2.2.2.2.2.2.2.1
theorem sdJ5_append_3fe6f_60 : dz_Seg cJ5_append_3fe6f [(60, .aload_n 0, 1), (61, .dup, 1), (62, .getfield 79, 3), (65, .dup_x1, 1), (66, .iconst 1, 1), (67, .iadd, 1), (68, .putfield 79, 3), (71, .iload_n 1, 1)] := dz_sg _ 60 (by decide +kernel)
theorem dJ5_append_3fe6f_60 : decode cJ5_append_3fe6f 60 = .ok (.aload_n 0, 1) := sdJ5_append_3fe6f_60.1
theorem dJ5_append_3fe6f_61 : decode cJ5_append_3fe6f 61 = .ok (.dup, 1) := sdJ5_append_3fe6f_60.2.1
theorem dJ5_append_3fe6f_62 : decode cJ5_append_3fe6f 62 = .ok (.getfield 79, 3) := sdJ5_append_3fe6f_60.2.2.1
theorem dJ5_append_3fe6f_65 : decode cJ5_append_3fe6f 65 = .ok (.dup_x1, 1) := sdJ5_append_3fe6f_60.2.2.2.1
theorem dJ5_append_3fe6f_66 : decode cJ5_append_3fe6f 66 = .ok (.iconst 1, 1) := sdJ5_append_3fe6f_60.2.2.2.2.1
theorem dJ5_append_3fe6f_67 : decode cJ5_append_3fe6f 67 = .ok (.iadd, 1) := sdJ5_append_3fe6f_60.2.2.2.2.2.1
theorem dJ5_append_3fe6f_68 : decode cJ5_append_3fe6f 68 = .ok (.putfield 79, 3) := sdJ5_append_3fe6f_60.2.2.2.2.2.2.1
theorem dJ5_append_3fe6f_71 : decode cJ5_append_3fe6f 71 = .ok (.iload_n 1, 1) := sdJ5_append_3fe6f_60.2.2.2.2.2.2.2.1
theorem sdJ5_append_3fe6f_72 : dz_Seg cJ5_append_3fe6f [(72, .invokestatic 197, 3), (75, .aload_n 0, 1), (76, .areturn, 1)] := dz_sg _ 72 (by decide +kernel)
theorem dJ5_append_3fe6f_72 : decode cJ5_append_3fe6f 72 = .ok (.invokestatic 197, 3) := sdJ5_append_3fe6f_72.1
theorem dJ5_append_3fe6f_75 : decode cJ5_append_3fe6f 75 = .ok (.aload_n 0, 1) := sdJ5_append_3fe6f_72.2.1
theorem dJ5_append_3fe6f_76 : decode cJ5_append_3fe6f 76 = .ok (.areturn, 1) := sdJ5_append_3fe6f_72.2.2.1
theorem sdJ5_append_c97b9_0 : dz_Seg cJ5_append_c97b9 [(0, .aload_n 0, 1), (1, .getfield 79, 3), (4, .istore_n 2, 1), (5, .iload_n 2, 1), (6, .iload_n 1, 1), (7, .invokestatic 245, 3), (10, .iadd, 1), (11, .istore_n 3, 1)] := dz_sg _ 0 (by decide +kernel)
theorem dJ5_append_c97b9_0 : decode cJ5_append_c97b9 0 = .ok (.aload_n 0, 1) := sdJ5_append_c97b9_0.1
theorem dJ5_append_c97b9_1 : decode cJ5_append_c97b9 1 = .ok (.getfield 79, 3) := sdJ5_append_c97b9_0.2.1
theorem dJ5_append_c97b9_4 : decode cJ5_append_c97b9 4 = .ok (.istore_n 2, 1) := sdJ5_append_c97b9_0.2.2.1
theorem dJ5_append_c97b9_5 : decode cJ5_append_c97b9 5 = .ok (.iload_n 2, 1) := sdJ5_append_c97b9_0.2.2.2.1
theorem dJ5_append_c97b9_6 : decode cJ5_append_c97b9 6 = .ok (.iload_n 1, 1) := sdJ5_append_c97b9_0.2.2.2.2.1
theorem dJ5_append_c97b9_7 : decode cJ5_append_c97b9 7 = .ok (.invokestatic 245, 3) := sdJ5_append_c97b9_0.2.2.2.2.2.1
theorem dJ5_append_c97b9_10 : decode cJ5_append_c97b9 10 = .ok (.iadd, 1) := sdJ5_append_c97b9_0.2.2.2.2.2.2.1
theorem dJ5_append_c97b9_11 : decode cJ5_append_c97b9 11 = .ok (.istore_n 3, 1) := sdJ5_append_c97b9_0.2.2.2.2.2.2.2.1
theorem sdJ5_append_c97b9_12 : dz_Seg cJ5_append_c97b9 [(12, .aload_n 0, 1), (13, .iload_n 3, 1), (14, .invokevirtual 100, 3), (17, .aload_n 0, 1), (18, .invokevirtual 83, 3), (21, .ifCond .eq 16, 3), (24, .iload_n 1, 1), (25, .iload_n 3, 1)] := dz_sg _ 12 (by decide +kernel)
theorem dJ5_append_c97b9_12 : decode cJ5_append_c97b9 12 = .ok (.aload_n 0, 1) := sdJ5_append_c97b9_12.1
theorem dJ5_append_c97b9_13 : decode cJ5_append_c97b9 13 = .ok (.iload_n 3, 1) := sdJ5_append_c97b9_12.2.1
theorem dJ5_append_c97b9_14 : decode cJ5_append_c97b9 14 = .ok (.invokevirtual 100, 3) := sdJ5_append_c97b9_12.2.2.1
theorem dJ5_append_c97b9_17 : decode cJ5_append_c97b9 17 = .ok (.aload_n 0, 1) := sdJ5_append_c97b9_12.2.2.2.1
theorem dJ5_append_c97b9_18 : decode cJ5_append_c97b9 18 = .ok (.invokevirtual 83, 3) := sdJ5_append_c97b9_12.2.2.2.2.1
theorem dJ5_append_c97b9_21 : decode cJ5_append_c97b9 21 = .ok (.ifCond .eq 16, 3) := sdJ5_append_c97b9_12.2.2.2.2.2.1
theorem dJ5_append_c97b9_24 : decode cJ5_append_c97b9 24 = .ok (.iload_n 1, 1) := sdJ5_append_c97b9_12.2.2.2.2.2.2.1
theorem dJ5_append_c97b9_25 : decode cJ5_append_c97b9 25 = .ok (.iload_n 3, 1) := sdJ5_append_c97b9_12.2.2.2.2.2.2.2.1
theorem sdJ5_append_c97b9_26 : dz_Seg cJ5_append_c97b9 [(26, .aload_n 0, 1), (27, .getfield 15, 3), (30, .invokestatic 248, 3), (33, .pop, 1), (34, .goto 14, 3), (37, .iload_n 1, 1), (38, .iload_n 2, 1), (39, .iload_n 3, 1)] := dz_sg _ 26 (by decide +kernel)
theorem dJ5_append_c97b9_26 : decode cJ5_append_c97b9 26 = .ok (.aload_n 0, 1) := sdJ5_append_c97b9_26.1
theorem dJ5_append_c97b9_27 : decode cJ5_append_c97b9 27 = .ok (.getfield 15, 3) := sdJ5_append_c97b9_26.2.1
theorem dJ5_append_c97b9_30 : decode cJ5_append_c97b9 30 = .ok (.invokestatic 248, 3) := sdJ5_append_c97b9_26.2.2.1
theorem dJ5_append_c97b9_33 : decode cJ5_append_c97b9 33 = .ok (.pop, 1) := sdJ5_append_c97b9_26.2.2.2.1
theorem dJ5_append_c97b9_34 : decode cJ5_append_c97b9 34 = .ok (.goto 14, 3) := sdJ5_append_c97b9_26.2.2.2.2.1
theorem dJ5_append_c97b9_37 : decode cJ5_append_c97b9 37 = .ok (.iload_n 1, 1) := sdJ5_append_c97b9_26.2.2.2.2.2.1
theorem dJ5_append_c97b9_38 : decode cJ5_append_c97b9 38 = .ok (.iload_n 2, 1) := sdJ5_append_c97b9_26.2.2.2.2.2.2.1
theorem dJ5_append_c97b9_39 : decode cJ5_append_c97b9 39 = .ok (.iload_n 3, 1) := sdJ5_append_c97b9_26.2.2.2.2.2.2.2.1
theorem sdJ5_append_c97b9_40 : dz_Seg cJ5_append_c97b9 [(40, .aload_n 0, 1), (41, .getfield 15, 3), (44, .invokestatic 251, 3), (47, .pop, 1), (48, .aload_n 0, 1), (49, .iload_n 3, 1), (50, .putfield 79, 3), (53, .aload_n 0, 1)] := dz_sg _ 40 (by decide +kernel)
theorem dJ5_append_c97b9_40 : decode cJ5_append_c97b9 40 = .ok (.aload_n 0, 1) := sdJ5_append_c97b9_40.1
theorem dJ5_append_c97b9_41 : decode cJ5_append_c97b9 41 = .ok (.getfield 15, 3) := sdJ5_append_c97b9_40.2.1
theorem dJ5_append_c97b9_44 : decode cJ5_append_c97b9 44 = .ok (.invokestatic 251, 3) := sdJ5_append_c97b9_40.2.2.1
theorem dJ5_append_c97b9_47 : decode cJ5_append_c97b9 47 = .ok (.pop, 1) := sdJ5_append_c97b9_40.2.2.2.1
theorem dJ5_append_c97b9_48 : decode cJ5_append_c97b9 48 = .ok (.aload_n 0, 1) := sdJ5_append_c97b9_40.2.2.2.2.1
theorem dJ5_append_c97b9_49 : decode cJ5_append_c97b9 49 = .ok (.iload_n 3, 1) := sdJ5_append_c97b9_40.2.2.2.2.2.1
theorem dJ5_append_c97b9_50 : decode cJ5_append_c97b9 50 = .ok (.putfield 79, 3) := sdJ5_append_c97b9_40.2.2.2.2.2.2.1
theorem dJ5_append_c97b9_53 : decode cJ5_append_c97b9 53 = .ok (.aload_n 0, 1) := sdJ5_append_c97b9_40.2.2.2.2.2.2.2.1
theorem sdJ5_append_c97b9_54 : dz_Seg cJ5_append_c97b9 [(54, .areturn, 1)] := dz_sg _ 54 (by decide +kernel)
theorem dJ5_append_c97b9_54 : decode cJ5_append_c97b9 54 = .ok (.areturn, 1) := sdJ5_append_c97b9_54.1
theorem sdJ5_getValue_6d5f1_0 : dz_Seg cJ5_getValue_6d5f1 [(0, .aload_n 0, 1), (1, .getfield 15, 3), (4, .areturn, 1)] := dz_sg _ 0 (by decide +kernel)
theorem dJ5_getValue_6d5f1_0 : decode cJ5_getValue_6d5f1 0 = .ok (.aload_n 0, 1) := sdJ5_getValue_6d5f1_0.1
theorem dJ5_getValue_6d5f1_1 : decode cJ5_getValue_6d5f1 1 = .ok (.getfield 15, 3) := sdJ5_getValue_6d5f1_0.2.1
theorem dJ5_getValue_6d5f1_4 : decode cJ5_getValue_6d5f1 4 = .ok (.areturn, 1) := sdJ5_getValue_6d5f1_0.2.2.1
theorem sdJ5_isLatin1_aae02_0 : dz_Seg cJ5_isLatin1_aae02 [(0, .getstatic 18, 3), (3, .ifCond .eq 14, 3), (6, .aload_n 0, 1), (7, .getfield 22, 3), (10, .ifCond .ne 7, 3), (13, .iconst 1, 1), (14, .goto 4, 3), (17, .iconst 0, 1)] := dz_sg _ 0 (by decide +kernel)
theorem dJ5_isLatin1_aae02_0 : decode cJ5_isLatin1_aae02 0 = .ok (.getstatic 18, 3) := sdJ5_isLatin1_aae02_0.1
theorem dJ5_isLatin1_aae02_3 : decode cJ5_isLatin1_aae02 3 = .ok (.ifCond .eq 14, 3) := sdJ5_isLatin1_aae02_0.2.1
theorem dJ5_isLatin1_aae02_6 : decode cJ5_isLatin1_aae02 6 = .ok (.aload_n 0, 1) := sdJ5_isLatin1_aae02_0.2.2.1
theorem dJ5_isLatin1_aae02_7 : decode cJ5_isLatin1_aae02 7 = .ok (.getfield 22, 3) := sdJ5_isLatin1_aae02_0.2.2.2.1
theorem dJ5_isLatin1_aae02_10 : decode cJ5_isLatin1_aae02 10 = .ok (.ifCond .ne 7, 3) := sdJ5_isLatin1_aae02_0.2.2.2.2.1
theorem dJ5_isLatin1_aae02_13 : decode cJ5_isLatin1_aae02 13 = .ok (.iconst 1, 1) := sdJ5_isLatin1_aae02_0.2.2.2.2.2.1
theorem dJ5_isLatin1_aae02_14 : decode cJ5_isLatin1_aae02 14 = .ok (.goto 4, 3) := sdJ5_isLatin1_aae02_0.2.2.2.2.2.2.1
theorem dJ5_isLatin1_aae02_17 : decode cJ5_isLatin1_aae02 17 = .ok (.iconst 0, 1) := sdJ5_isLatin1_aae02_0.2.2.2.2.2.2.2.1
theorem sdJ5_isLatin1_aae02_18 : dz_Seg cJ5_isLatin1_aae02 [(18, .ireturn, 1)] := dz_sg _ 18 (by decide +kernel)
theorem dJ5_isLatin1_aae02_18 : decode cJ5_isLatin1_aae02 18 = .ok (.ireturn, 1) := sdJ5_isLatin1_aae02_18.1
theorem sdJ5_inflateIfNeededFor_a7421_0 : dz_Seg cJ5_inflateIfNeededFor_a7421 [(0, .getstatic 18, 3), (3, .ifCond .eq 18, 3), (6, .aload_n 0, 1), (7, .getfield 22, 3), (10, .aload_n 1, 1), (11, .invokevirtual 40, 3), (14, .if_icmp .eq 7, 3), (17, .aload_n 0, 1)] := dz_sg _ 0 (by decide +kernel)
theorem dJ5_inflateIfNeededFor_a7421_0 : decode cJ5_inflateIfNeededFor_a7421 0 = .ok (.getstatic 18, 3) := sdJ5_inflateIfNeededFor_a7421_0.1
theorem dJ5_inflateIfNeededFor_a7421_3 : decode cJ5_inflateIfNeededFor_a7421 3 = .ok (.ifCond .eq 18, 3) := sdJ5_inflateIfNeededFor_a7421_0.2.1
theorem dJ5_inflateIfNeededFor_a7421_6 : decode cJ5_inflateIfNeededFor_a7421 6 = .ok (.aload_n 0, 1) := sdJ5_inflateIfNeededFor_a7421_0.2.2.1
theorem dJ5_inflateIfNeededFor_a7421_7 : decode cJ5_inflateIfNeededFor_a7421 7 = .ok (.getfield 22, 3) := sdJ5_inflateIfNeededFor_a7421_0.2.2.2.1
theorem dJ5_inflateIfNeededFor_a7421_10 : decode cJ5_inflateIfNeededFor_a7421 10 = .ok (.aload_n 1, 1) := sdJ5_inflateIfNeededFor_a7421_0.2.2.2.2.1
theorem dJ5_inflateIfNeededFor_a7421_11 : decode cJ5_inflateIfNeededFor_a7421 11 = .ok (.invokevirtual 40, 3) := sdJ5_inflateIfNeededFor_a7421_0.2.2.2.2.2.1
theorem dJ5_inflateIfNeededFor_a7421_14 : decode cJ5_inflateIfNeededFor_a7421 14 = .ok (.if_icmp .eq 7, 3) := sdJ5_inflateIfNeededFor_a7421_0.2.2.2.2.2.2.1
theorem dJ5_inflateIfNeededFor_a7421_17 : decode cJ5_inflateIfNeededFor_a7421 17 = .ok (.aload_n 0, 1) := sdJ5_inflateIfNeededFor_a7421_0.2.2.2.2.2.2.2.1
theorem sdJ5_inflateIfNeededFor_a7421_18 : dz_Seg cJ5_inflateIfNeededFor_a7421 [(18, .invokevirtual 195, 3), (21, .return_, 1)] := dz_sg _ 18 (by decide +kernel)
theorem dJ5_inflateIfNeededFor_a7421_18 : decode cJ5_inflateIfNeededFor_a7421 18 = .ok (.invokevirtual 195, 3) := sdJ5_inflateIfNeededFor_a7421_18.1
theorem dJ5_inflateIfNeededFor_a7421_21 : decode cJ5_inflateIfNeededFor_a7421 21 = .ok (.return_, 1) := sdJ5_inflateIfNeededFor_a7421_18.2.1
theorem sdJ5_putStringAt_47b60_0 : dz_Seg cJ5_putStringAt_47b60 [(0, .aload_n 0, 1), (1, .aload_n 2, 1), (2, .invokevirtual 397, 3), (5, .aload_n 2, 1), (6, .aload_n 0, 1), (7, .getfield 15, 3), (10, .iload_n 1, 1), (11, .aload_n 0, 1)] := dz_sg _ 0 (by decide +kernel)
theorem dJ5_putStringAt_47b60_0 : decode cJ5_putStringAt_47b60 0 = .ok (.aload_n 0, 1) := sdJ5_putStringAt_47b60_0.1
theorem dJ5_putStringAt_47b60_1 : decode cJ5_putStringAt_47b60 1 = .ok (.aload_n 2, 1) := sdJ5_putStringAt_47b60_0.2.1
theorem dJ5_putStringAt_47b60_2 : decode cJ5_putStringAt_47b60 2 = .ok (.invokevirtual 397, 3) := sdJ5_putStringAt_47b60_0.2.2.1
theorem dJ5_putStringAt_47b60_5 : decode cJ5_putStringAt_47b60 5 = .ok (.aload_n 2, 1) := sdJ5_putStringAt_47b60_0.2.2.2.1
theorem dJ5_putStringAt_47b60_6 : decode cJ5_putStringAt_47b60 6 = .ok (.aload_n 0, 1) := sdJ5_putStringAt_47b60_0.2.2.2.2.1
theorem dJ5_putStringAt_47b60_7 : decode cJ5_putStringAt_47b60 7 = .ok (.getfield 15, 3) := sdJ5_putStringAt_47b60_0.2.2.2.2.2.1
theorem dJ5_putStringAt_47b60_10 : decode cJ5_putStringAt_47b60 10 = .ok (.iload_n 1, 1) := sdJ5_putStringAt_47b60_0.2.2.2.2.2.2.1
theorem dJ5_putStringAt_47b60_11 : decode cJ5_putStringAt_47b60 11 = .ok (.aload_n 0, 1) := sdJ5_putStringAt_47b60_0.2.2.2.2.2.2.2.1
theorem sdJ5_putStringAt_47b60_12 : dz_Seg cJ5_putStringAt_47b60 [(12, .getfield 22, 3), (15, .invokevirtual 399, 3), (18, .return_, 1)] := dz_sg _ 12 (by decide +kernel)
theorem dJ5_putStringAt_47b60_12 : decode cJ5_putStringAt_47b60 12 = .ok (.getfield 22, 3) := sdJ5_putStringAt_47b60_12.1
theorem dJ5_putStringAt_47b60_15 : decode cJ5_putStringAt_47b60 15 = .ok (.invokevirtual 399, 3) := sdJ5_putStringAt_47b60_12.2.1
theorem dJ5_putStringAt_47b60_18 : decode cJ5_putStringAt_47b60 18 = .ok (.return_, 1) := sdJ5_putStringAt_47b60_12.2.2.1
theorem sdJ6_getChars_ba4f3_0 : dz_Seg cJ6_getChars_ba4f3 [(0, .iload_n 1, 1), (1, .istore 5, 2), (3, .iload_n 0, 1), (4, .ifCond .ge 7, 3), (7, .iconst 1, 1), (8, .goto 4, 3), (11, .iconst 0, 1), (12, .istore 6, 2)] := dz_sg _ 0 (by decide +kernel)
theorem dJ6_getChars_ba4f3_0 : decode cJ6_getChars_ba4f3 0 = .ok (.iload_n 1, 1) := sdJ6_getChars_ba4f3_0.1
theorem dJ6_getChars_ba4f3_1 : decode cJ6_getChars_ba4f3 1 = .ok (.istore 5, 2) := sdJ6_getChars_ba4f3_0.2.1
theorem dJ6_getChars_ba4f3_3 : decode cJ6_getChars_ba4f3 3 = .ok (.iload_n 0, 1) := sdJ6_getChars_ba4f3_0.2.2.1
theorem dJ6_getChars_ba4f3_4 : decode cJ6_getChars_ba4f3 4 = .ok (.ifCond .ge 7, 3) := sdJ6_getChars_ba4f3_0.2.2.2.1
theorem dJ6_getChars_ba4f3_7 : decode cJ6_getChars_ba4f3 7 = .ok (.iconst 1, 1) := sdJ6_getChars_ba4f3_0.2.2.2.2.1
theorem dJ6_getChars_ba4f3_8 : decode cJ6_getChars_ba4f3 8 = .ok (.goto 4, 3) := sdJ6_getChars_ba4f3_0.2.2.2.2.2.1
theorem dJ6_getChars_ba4f3_11 : decode cJ6_getChars_ba4f3 11 = .ok (.iconst 0, 1) := sdJ6_getChars_ba4f3_0.2.2.2.2.2.2.1
theorem dJ6_getChars_ba4f3_12 : decode cJ6_getChars_ba4f3 12 = .ok (.istore 6, 2) := sdJ6_getChars_ba4f3_0.2.2.2.2.2.2.2.1
theorem sdJ6_getChars_ba4f3_14 : dz_Seg cJ6_getChars_ba4f3 [(14, .iload 6, 2), (16, .ifCond .ne 6, 3), (19, .iload_n 0, 1), (20, .ineg, 1), (21, .istore_n 0, 1), (22, .iload_n 0, 1), (23, .bipush (-100), 2), (25, .if_icmp .gt 47, 3)] := dz_sg _ 14 (by decide +kernel)
theorem dJ6_getChars_ba4f3_14 : decode cJ6_getChars_ba4f3 14 = .ok (.iload 6, 2) := sdJ6_getChars_ba4f3_14.1
theorem dJ6_getChars_ba4f3_16 : decode cJ6_getChars_ba4f3 16 = .ok (.ifCond .ne 6, 3) := sdJ6_getChars_ba4f3_14.2.1
theorem dJ6_getChars_ba4f3_19 : decode cJ6_getChars_ba4f3 19 = .ok (.iload_n 0, 1) := sdJ6_getChars_ba4f3_14.2.2.1
theorem dJ6_getChars_ba4f3_20 : decode cJ6_getChars_ba4f3 20 = .ok (.ineg, 1) := sdJ6_getChars_ba4f3_14.2.2.2.1
theorem dJ6_getChars_ba4f3_21 : decode cJ6_getChars_ba4f3 21 = .ok (.istore_n 0, 1) := sdJ6_getChars_ba4f3_14.2.2.2.2.1
theorem dJ6_getChars_ba4f3_22 : decode cJ6_getChars_ba4f3 22 = .ok (.iload_n 0, 1) := sdJ6_getChars_ba4f3_14.2.2.2.2.2.1
theorem dJ6_getChars_ba4f3_23 : decode cJ6_getChars_ba4f3 23 = .ok (.bipush (-100), 2) := sdJ6_getChars_ba4f3_14.2.2.2.2.2.2.1
theorem dJ6_getChars_ba4f3_25 : decode cJ6_getChars_ba4f3 25 = .ok (.if_icmp .gt 47, 3) := sdJ6_getChars_ba4f3_14.2.2.2.2.2.2.2.1
theorem sdJ6_getChars_ba4f3_28 : dz_Seg cJ6_getChars_ba4f3 [(28, .iload_n 0, 1), (29, .bipush 100, 2), (31, .idiv, 1), (32, .istore_n 3, 1), (33, .iload_n 3, 1), (34, .bipush 100, 2), (36, .imul, 1), (37, .iload_n 0, 1)] := dz_sg _ 28 (by decide +kernel)
theorem dJ6_getChars_ba4f3_28 : decode cJ6_getChars_ba4f3 28 = .ok (.iload_n 0, 1) := sdJ6_getChars_ba4f3_28.1
theorem dJ6_getChars_ba4f3_29 : decode cJ6_getChars_ba4f3 29 = .ok (.bipush 100, 2) := sdJ6_getChars_ba4f3_28.2.1
theorem dJ6_getChars_ba4f3_31 : decode cJ6_getChars_ba4f3 31 = .ok (.idiv, 1) := sdJ6_getChars_ba4f3_28.2.2.1
theorem dJ6_getChars_ba4f3_32 : decode cJ6_getChars_ba4f3 32 = .ok (.istore_n 3, 1) := sdJ6_getChars_ba4f3_28.2.2.2.1
theorem dJ6_getChars_ba4f3_33 : decode cJ6_getChars_ba4f3 33 = .ok (.iload_n 3, 1) := sdJ6_getChars_ba4f3_28.2.2.2.2.1
theorem dJ6_getChars_ba4f3_34 : decode cJ6_getChars_ba4f3 34 = .ok (.bipush 100, 2) := sdJ6_getChars_ba4f3_28.2.2.2.2.2.1
theorem dJ6_getChars_ba4f3_36 : decode cJ6_getChars_ba4f3 36 = .ok (.imul, 1) := sdJ6_getChars_ba4f3_28.2.2.2.2.2.2.1
theorem dJ6_getChars_ba4f3_37 : decode cJ6_getChars_ba4f3 37 = .ok (.iload_n 0, 1) := sdJ6_getChars_ba4f3_28.2.2.2.2.2.2.2.1
theorem sdJ6_getChars_ba4f3_38 : dz_Seg cJ6_getChars_ba4f3 [(38, .isub, 1), (39, .istore 4, 2), (41, .iload_n 3, 1), (42, .istore_n 0, 1), (43, .aload_n 2, 1), (44, .iinc 5 (-1), 3), (47, .iload 5, 2), (49, .getstatic 83, 3)] := dz_sg _ 38 (by decide +kernel)
theorem dJ6_getChars_ba4f3_38 : decode cJ6_getChars_ba4f3 38 = .ok (.isub, 1) := sdJ6_getChars_ba4f3_38.1
theorem dJ6_getChars_ba4f3_39 : decode cJ6_getChars_ba4f3 39 = .ok (.istore 4, 2) := sdJ6_getChars_ba4f3_38.2.1
theorem dJ6_getChars_ba4f3_41 : decode cJ6_getChars_ba4f3 41 = .ok (.iload_n 3, 1) := sdJ6_getChars_ba4f3_38.2.2.1
theorem dJ6_getChars_ba4f3_42 : decode cJ6_getChars_ba4f3 42 = .ok (.istore_n 0, 1) := sdJ6_getChars_ba4f3_38.2.2.2.1
theorem dJ6_getChars_ba4f3_43 : decode cJ6_getChars_ba4f3 43 = .ok (.aload_n 2, 1) := sdJ6_getChars_ba4f3_38.2.2.2.2.1
theorem dJ6_getChars_ba4f3_44 : decode cJ6_getChars_ba4f3 44 = .ok (.iinc 5 (-1), 3) := sdJ6_getChars_ba4f3_38.2.2.2.2.2.1
theorem dJ6_getChars_ba4f3_47 : decode cJ6_getChars_ba4f3 47 = .ok (.iload 5, 2) := sdJ6_getChars_ba4f3_38.2.2.2.2.2.2.1
theorem dJ6_getChars_ba4f3_49 : decode cJ6_getChars_ba4f3 49 = .ok (.getstatic 83, 3) := sdJ6_getChars_ba4f3_38.2.2.2.2.2.2.2.1
theorem sdJ6_getChars_ba4f3_52 : dz_Seg cJ6_getChars_ba4f3 [(52, .iload 4, 2), (54, .baload, 1), (55, .bastore, 1), (56, .aload_n 2, 1), (57, .iinc 5 (-1), 3), (60, .iload 5, 2), (62, .getstatic 87, 3), (65, .iload 4, 2)] := dz_sg _ 52 (by decide +kernel)
theorem dJ6_getChars_ba4f3_52 : decode cJ6_getChars_ba4f3 52 = .ok (.iload 4, 2) := sdJ6_getChars_ba4f3_52.1
theorem dJ6_getChars_ba4f3_54 : decode cJ6_getChars_ba4f3 54 = .ok (.baload, 1) := sdJ6_getChars_ba4f3_52.2.1
theorem dJ6_getChars_ba4f3_55 : decode cJ6_getChars_ba4f3 55 = .ok (.bastore, 1) := sdJ6_getChars_ba4f3_52.2.2.1
theorem dJ6_getChars_ba4f3_56 : decode cJ6_getChars_ba4f3 56 = .ok (.aload_n 2, 1) := sdJ6_getChars_ba4f3_52.2.2.2.1
theorem dJ6_getChars_ba4f3_57 : decode cJ6_getChars_ba4f3 57 = .ok (.iinc 5 (-1), 3) := sdJ6_getChars_ba4f3_52.2.2.2.2.1
theorem dJ6_getChars_ba4f3_60 : decode cJ6_getChars_ba4f3 60 = .ok (.iload 5, 2) := sdJ6_getChars_ba4f3_52.2.2.2.2.2.1
theorem dJ6_getChars_ba4f3_62 : decode cJ6_getChars_ba4f3 62 = .ok (.getstatic 87, 3) := sdJ6_getChars_ba4f3_52.2.2.2.2.2.2.1
theorem dJ6_getChars_ba4f3_65 : decode cJ6_getChars_ba4f3 65 = .ok (.iload 4, 2) := sdJ6_getChars_ba4f3_52.2.2.2.2.2.2.2.1
theorem sdJ6_getChars_ba4f3_67 : dz_Seg cJ6_getChars_ba4f3 [(67, .baload, 1), (68, .bastore, 1), (69, .goto (-47), 3), (72, .aload_n 2, 1), (73, .iinc 5 (-1), 3), (76, .iload 5, 2), (78, .getstatic 83, 3), (81, .iload_n 0, 1)] := dz_sg _ 67 (by decide +kernel)
theorem dJ6_getChars_ba4f3_67 : decode cJ6_getChars_ba4f3 67 = .ok (.baload, 1) := sdJ6_getChars_ba4f3_67.1
theorem dJ6_getChars_ba4f3_68 : decode cJ6_getChars_ba4f3 68 = .ok (.bastore, 1) := sdJ6_getChars_ba4f3_67.2.1
theorem dJ6_getChars_ba4f3_69 : decode cJ6_getChars_ba4f3 69 = .ok (.goto (-47), 3) := sdJ6_getChars_ba4f3_67.2.2.1
theorem dJ6_getChars_ba4f3_72 : decode cJ6_getChars_ba4f3 72 = .ok (.aload_n 2, 1) := sdJ6_getChars_ba4f3_67.2.2.2.1
theorem dJ6_getChars_ba4f3_73 : decode cJ6_getChars_ba4f3 73 = .ok (.iinc 5 (-1), 3) := sdJ6_getChars_ba4f3_67.2.2.2.2.1
theorem dJ6_getChars_ba4f3_76 : decode cJ6_getChars_ba4f3 76 = .ok (.iload 5, 2) := sdJ6_getChars_ba4f3_67.2.2.2.2.2.1
theorem dJ6_getChars_ba4f3_78 : decode cJ6_getChars_ba4f3 78 = .ok (.getstatic 83, 3) := sdJ6_getChars_ba4f3_67.2.2.2.2.2.2.1
theorem dJ6_getChars_ba4f3_81 : decode cJ6_getChars_ba4f3 81 = .ok (.iload_n 0, 1) := sdJ6_getChars_ba4f3_67.2.2.2.2.2.2.2.1
theorem sdJ6_getChars_ba4f3_82 : dz_Seg cJ6_getChars_ba4f3 [(82, .ineg, 1), (83, .baload, 1), (84, .bastore, 1), (85, .iload_n 0, 1), (86, .bipush (-9), 2), (88, .if_icmp .ge 16, 3), (91, .aload_n 2, 1), (92, .iinc 5 (-1), 3)] := dz_sg _ 82 (by decide +kernel)
theorem dJ6_getChars_ba4f3_82 : decode cJ6_getChars_ba4f3 82 = .ok (.ineg, 1) := sdJ6_getChars_ba4f3_82.1
theorem dJ6_getChars_ba4f3_83 : decode cJ6_getChars_ba4f3 83 = .ok (.baload, 1) := sdJ6_getChars_ba4f3_82.2.1
theorem dJ6_getChars_ba4f3_84 : decode cJ6_getChars_ba4f3 84 = .ok (.bastore, 1) := sdJ6_getChars_ba4f3_82.2.2.1
theorem dJ6_getChars_ba4f3_85 : decode cJ6_getChars_ba4f3 85 = .ok (.iload_n 0, 1) := sdJ6_getChars_ba4f3_82.2.2.2.1
theorem dJ6_getChars_ba4f3_86 : decode cJ6_getChars_ba4f3 86 = .ok (.bipush (-9), 2) := sdJ6_getChars_ba4f3_82.2.2.2.2.1
theorem dJ6_getChars_ba4f3_88 : decode cJ6_getChars_ba4f3 88 = .ok (.if_icmp .ge 16, 3) := sdJ6_getChars_ba4f3_82.2.2.2.2.2.1
theorem dJ6_getChars_ba4f3_91 : decode cJ6_getChars_ba4f3 91 = .ok (.aload_n 2, 1) := sdJ6_getChars_ba4f3_82.2.2.2.2.2.2.1
theorem dJ6_getChars_ba4f3_92 : decode cJ6_getChars_ba4f3 92 = .ok (.iinc 5 (-1), 3) := sdJ6_getChars_ba4f3_82.2.2.2.2.2.2.2.1
theorem sdJ6_getChars_ba4f3_95 : dz_Seg cJ6_getChars_ba4f3 [(95, .iload 5, 2), (97, .getstatic 87, 3), (100, .iload_n 0, 1), (101, .ineg, 1), (102, .baload, 1), (103, .bastore, 1), (104, .iload 6, 2), (106, .ifCond .eq 12, 3)] := dz_sg _ 95 (by decide +kernel)
theorem dJ6_getChars_ba4f3_95 : decode cJ6_getChars_ba4f3 95 = .ok (.iload 5, 2) := sdJ6_getChars_ba4f3_95.1
theorem dJ6_getChars_ba4f3_97 : decode cJ6_getChars_ba4f3 97 = .ok (.getstatic 87, 3) := sdJ6_getChars_ba4f3_95.2.1
theorem dJ6_getChars_ba4f3_100 : decode cJ6_getChars_ba4f3 100 = .ok (.iload_n 0, 1) := sdJ6_getChars_ba4f3_95.2.2.1
theorem dJ6_getChars_ba4f3_101 : decode cJ6_getChars_ba4f3 101 = .ok (.ineg, 1) := sdJ6_getChars_ba4f3_95.2.2.2.1
theorem dJ6_getChars_ba4f3_102 : decode cJ6_getChars_ba4f3 102 = .ok (.baload, 1) := sdJ6_getChars_ba4f3_95.2.2.2.2.1
theorem dJ6_getChars_ba4f3_103 : decode cJ6_getChars_ba4f3 103 = .ok (.bastore, 1) := sdJ6_getChars_ba4f3_95.2.2.2.2.2.1
theorem dJ6_getChars_ba4f3_104 : decode cJ6_getChars_ba4f3 104 = .ok (.iload 6, 2) := sdJ6_getChars_ba4f3_95.2.2.2.2.2.2.1
theorem dJ6_getChars_ba4f3_106 : decode cJ6_getChars_ba4f3 106 = .ok (.ifCond .eq 12, 3) := sdJ6_getChars_ba4f3_95.2.2.2.2.2.2.2.1
theorem sdJ6_getChars_ba4f3_109 : dz_Seg cJ6_getChars_ba4f3 [(109, .aload_n 2, 1), (110, .iinc 5 (-1), 3), (113, .iload 5, 2), (115, .bipush 45, 2), (117, .bastore, 1), (118, .iload 5, 2), (120, .ireturn, 1)] := dz_sg _ 109 (by decide +kernel)
theorem dJ6_getChars_ba4f3_109 : decode cJ6_getChars_ba4f3 109 = .ok (.aload_n 2, 1) := sdJ6_getChars_ba4f3_109.1
theorem dJ6_getChars_ba4f3_110 : decode cJ6_getChars_ba4f3 110 = .ok (.iinc 5 (-1), 3) := sdJ6_getChars_ba4f3_109.2.1
theorem dJ6_getChars_ba4f3_113 : decode cJ6_getChars_ba4f3 113 = .ok (.iload 5, 2) := sdJ6_getChars_ba4f3_109.2.2.1
theorem dJ6_getChars_ba4f3_115 : decode cJ6_getChars_ba4f3 115 = .ok (.bipush 45, 2) := sdJ6_getChars_ba4f3_109.2.2.2.1
theorem dJ6_getChars_ba4f3_117 : decode cJ6_getChars_ba4f3 117 = .ok (.bastore, 1) := sdJ6_getChars_ba4f3_109.2.2.2.2.1
theorem dJ6_getChars_ba4f3_118 : decode cJ6_getChars_ba4f3 118 = .ok (.iload 5, 2) := sdJ6_getChars_ba4f3_109.2.2.2.2.2.1
theorem dJ6_getChars_ba4f3_120 : decode cJ6_getChars_ba4f3 120 = .ok (.ireturn, 1) := sdJ6_getChars_ba4f3_109.2.2.2.2.2.2.1
theorem sdJ6_stringSize_0f7a4_0 : dz_Seg cJ6_stringSize_0f7a4 [(0, .iconst 1, 1), (1, .istore_n 1, 1), (2, .iload_n 0, 1), (3, .ifCond .lt 8, 3), (6, .iconst 0, 1), (7, .istore_n 1, 1), (8, .iload_n 0, 1), (9, .ineg, 1)] := dz_sg _ 0 (by decide +kernel)
theorem dJ6_stringSize_0f7a4_0 : decode cJ6_stringSize_0f7a4 0 = .ok (.iconst 1, 1) := sdJ6_stringSize_0f7a4_0.1
theorem dJ6_stringSize_0f7a4_1 : decode cJ6_stringSize_0f7a4 1 = .ok (.istore_n 1, 1) := sdJ6_stringSize_0f7a4_0.2.1
theorem dJ6_stringSize_0f7a4_2 : decode cJ6_stringSize_0f7a4 2 = .ok (.iload_n 0, 1) := sdJ6_stringSize_0f7a4_0.2.2.1
theorem dJ6_stringSize_0f7a4_3 : decode cJ6_stringSize_0f7a4 3 = .ok (.ifCond .lt 8, 3) := sdJ6_stringSize_0f7a4_0.2.2.2.1
theorem dJ6_stringSize_0f7a4_6 : decode cJ6_stringSize_0f7a4 6 = .ok (.iconst 0, 1) := sdJ6_stringSize_0f7a4_0.2.2.2.2.1
theorem dJ6_stringSize_0f7a4_7 : decode cJ6_stringSize_0f7a4 7 = .ok (.istore_n 1, 1) := sdJ6_stringSize_0f7a4_0.2.2.2.2.2.1
theorem dJ6_stringSize_0f7a4_8 : decode cJ6_stringSize_0f7a4 8 = .ok (.iload_n 0, 1) := sdJ6_stringSize_0f7a4_0.2.2.2.2.2.2.1
theorem dJ6_stringSize_0f7a4_9 : decode cJ6_stringSize_0f7a4 9 = .ok (.ineg, 1) := sdJ6_stringSize_0f7a4_0.2.2.2.2.2.2.2.1
theorem sdJ6_stringSize_0f7a4_10 : dz_Seg cJ6_stringSize_0f7a4 [(10, .istore_n 0, 1), (11, .bipush (-10), 2), (13, .istore_n 2, 1), (14, .iconst 1, 1), (15, .istore_n 3, 1), (16, .iload_n 3, 1), (17, .bipush 10, 2), (19, .if_icmp .ge 23, 3)] := dz_sg _ 10 (by decide +kernel)
theorem dJ6_stringSize_0f7a4_10 : decode cJ6_stringSize_0f7a4 10 = .ok (.istore_n 0, 1) := sdJ6_stringSize_0f7a4_10.1
theorem dJ6_stringSize_0f7a4_11 : decode cJ6_stringSize_0f7a4 11 = .ok (.bipush (-10), 2) := sdJ6_stringSize_0f7a4_10.2.1
theorem dJ6_stringSize_0f7a4_13 : decode cJ6_stringSize_0f7a4 13 = .ok (.istore_n 2, 1) := sdJ6_stringSize_0f7a4_10.2.2.1
theorem dJ6_stringSize_0f7a4_14 : decode cJ6_stringSize_0f7a4 14 = .ok (.iconst 1, 1) := sdJ6_stringSize_0f7a4_10.2.2.2.1
theorem dJ6_stringSize_0f7a4_15 : decode cJ6_stringSize_0f7a4 15 = .ok (.istore_n 3, 1) := sdJ6_stringSize_0f7a4_10.2.2.2.2.1
theorem dJ6_stringSize_0f7a4_16 : decode cJ6_stringSize_0f7a4 16 = .ok (.iload_n 3, 1) := sdJ6_stringSize_0f7a4_10.2.2.2.2.2.1
theorem dJ6_stringSize_0f7a4_17 : decode cJ6_stringSize_0f7a4 17 = .ok (.bipush 10, 2) := sdJ6_stringSize_0f7a4_10.2.2.2.2.2.2.1
theorem dJ6_stringSize_0f7a4_19 : decode cJ6_stringSize_0f7a4 19 = .ok (.if_icmp .ge 23, 3) := sdJ6_stringSize_0f7a4_10.2.2.2.2.2.2.2.1
theorem sdJ6_stringSize_0f7a4_22 : dz_Seg cJ6_stringSize_0f7a4 [(22, .iload_n 0, 1), (23, .iload_n 2, 1), (24, .if_icmp .le 7, 3), (27, .iload_n 3, 1), (28, .iload_n 1, 1), (29, .iadd, 1), (30, .ireturn, 1), (31, .bipush 10, 2)] := dz_sg _ 22 (by decide +kernel)
theorem dJ6_stringSize_0f7a4_22 : decode cJ6_stringSize_0f7a4 22 = .ok (.iload_n 0, 1) := sdJ6_stringSize_0f7a4_22.1
theorem dJ6_stringSize_0f7a4_23 : decode cJ6_stringSize_0f7a4 23 = .ok (.iload_n 2, 1) := sdJ6_stringSize_0f7a4_22.2.1
theorem dJ6_stringSize_0f7a4_24 : decode cJ6_stringSize_0f7a4 24 = .ok (.if_icmp .le 7, 3) := sdJ6_stringSize_0f7a4_22.2.2.1
theorem dJ6_stringSize_0f7a4_27 : decode cJ6_stringSize_0f7a4 27 = .ok (.iload_n 3, 1) := sdJ6_stringSize_0f7a4_22.2.2.2.1
theorem dJ6_stringSize_0f7a4_28 : decode cJ6_stringSize_0f7a4 28 = .ok (.iload_n 1, 1) := sdJ6_stringSize_0f7a4_22.2.2.2.2.1
theorem dJ6_stringSize_0f7a4_29 : decode cJ6_stringSize_0f7a4 29 = .ok (.iadd, 1) := sdJ6_stringSize_0f7a4_22.2.2.2.2.2.1
theorem dJ6_stringSize_0f7a4_30 : decode cJ6_stringSize_0f7a4 30 = .ok (.ireturn, 1) := sdJ6_stringSize_0f7a4_22.2.2.2.2.2.2.1
theorem dJ6_stringSize_0f7a4_31 : decode cJ6_stringSize_0f7a4 31 = .ok (.bipush 10, 2) := sdJ6_stringSize_0f7a4_22.2.2.2.2.2.2.2.1
theorem sdJ6_stringSize_0f7a4_33 : dz_Seg cJ6_stringSize_0f7a4 [(33, .iload_n 2, 1), (34, .imul, 1), (35, .istore_n 2, 1), (36, .iinc 3 1, 3), (39, .goto (-23), 3), (42, .bipush 10, 2), (44, .iload_n 1, 1), (45, .iadd, 1)] := dz_sg _ 33 (by decide +kernel)
theorem dJ6_stringSize_0f7a4_33 : decode cJ6_stringSize_0f7a4 33 = .ok (.iload_n 2, 1) := sdJ6_stringSize_0f7a4_33.1
theorem dJ6_stringSize_0f7a4_34 : decode cJ6_stringSize_0f7a4 34 = .ok (.imul, 1) := sdJ6_stringSize_0f7a4_33.2.1
theorem dJ6_stringSize_0f7a4_35 : decode cJ6_stringSize_0f7a4 35 = .ok (.istore_n 2, 1) := sdJ6_stringSize_0f7a4_33.2.2.1
theorem dJ6_stringSize_0f7a4_36 : decode cJ6_stringSize_0f7a4 36 = .ok (.iinc 3 1, 3) := sdJ6_stringSize_0f7a4_33.2.2.2.1
theorem dJ6_stringSize_0f7a4_39 : decode cJ6_stringSize_0f7a4 39 = .ok (.goto (-23), 3) := sdJ6_stringSize_0f7a4_33.2.2.2.2.1
theorem dJ6_stringSize_0f7a4_42 : decode cJ6_stringSize_0f7a4 42 = .ok (.bipush 10, 2) := sdJ6_stringSize_0f7a4_33.2.2.2.2.2.1
theorem dJ6_stringSize_0f7a4_44 : decode cJ6_stringSize_0f7a4 44 = .ok (.iload_n 1, 1) := sdJ6_stringSize_0f7a4_33.2.2.2.2.2.2.1
theorem dJ6_stringSize_0f7a4_45 : decode cJ6_stringSize_0f7a4 45 = .ok (.iadd, 1) := sdJ6_stringSize_0f7a4_33.2.2.2.2.2.2.2.1
theorem sdJ6_stringSize_0f7a4_46 : dz_Seg cJ6_stringSize_0f7a4 [(46, .ireturn, 1)] := dz_sg _ 46 (by decide +kernel)
theorem dJ6_stringSize_0f7a4_46 : decode cJ6_stringSize_0f7a4 46 = .ok (.ireturn, 1) := sdJ6_stringSize_0f7a4_46.1
theorem sdJ0_init_81219_0 : dz_Seg cJ0_init_81219 [(0, .aload_n 0, 1), (1, .aload_n 1, 1), (2, .aconst_null, 1), (3, .invokespecial 489, 3), (6, .return_, 1)] := dz_sg _ 0 (by decide +kernel)
theorem dJ0_init_81219_0 : decode cJ0_init_81219 0 = .ok (.aload_n 0, 1) := sdJ0_init_81219_0.1
theorem dJ0_init_81219_1 : decode cJ0_init_81219 1 = .ok (.aload_n 1, 1) := sdJ0_init_81219_0.2.1
theorem dJ0_init_81219_2 : decode cJ0_init_81219 2 = .ok (.aconst_null, 1) := sdJ0_init_81219_0.2.2.1
theorem dJ0_init_81219_3 : decode cJ0_init_81219 3 = .ok (.invokespecial 489, 3) := sdJ0_init_81219_0.2.2.2.1
theorem dJ0_init_81219_6 : decode cJ0_init_81219 6 = .ok (.return_, 1) := sdJ0_init_81219_0.2.2.2.2.1
theorem sdJ0_length_8abf5_0 : dz_Seg cJ0_length_8abf5 [(0, .aload_n 0, 1), (1, .getfield 9, 3), (4, .arraylength, 1), (5, .aload_n 0, 1), (6, .invokevirtual 335, 3), (9, .ishr, 1), (10, .ireturn, 1)] := dz_sg _ 0 (by decide +kernel)
theorem dJ0_length_8abf5_0 : decode cJ0_length_8abf5 0 = .ok (.aload_n 0, 1) := sdJ0_length_8abf5_0.1
theorem dJ0_length_8abf5_1 : decode cJ0_length_8abf5 1 = .ok (.getfield 9, 3) := sdJ0_length_8abf5_0.2.1
theorem dJ0_length_8abf5_4 : decode cJ0_length_8abf5 4 = .ok (.arraylength, 1) := sdJ0_length_8abf5_0.2.2.1
theorem dJ0_length_8abf5_5 : decode cJ0_length_8abf5 5 = .ok (.aload_n 0, 1) := sdJ0_length_8abf5_0.2.2.2.1
theorem dJ0_length_8abf5_6 : decode cJ0_length_8abf5 6 = .ok (.invokevirtual 335, 3) := sdJ0_length_8abf5_0.2.2.2.2.1
theorem dJ0_length_8abf5_9 : decode cJ0_length_8abf5 9 = .ok (.ishr, 1) := sdJ0_length_8abf5_0.2.2.2.2.2.1
theorem dJ0_length_8abf5_10 : decode cJ0_length_8abf5 10 = .ok (.ireturn, 1) := sdJ0_length_8abf5_0.2.2.2.2.2.2.1
theorem sdJ0_charAt_5068e_0 : dz_Seg cJ0_charAt_5068e [(0, .aload_n 0, 1), (1, .invokevirtual 492, 3), (4, .ifCond .eq 12, 3), (7, .aload_n 0, 1), (8, .getfield 9, 3), (11, .iload_n 1, 1), (12, .invokestatic 495, 3), (15, .ireturn, 1)] := dz_sg _ 0 (by decide +kernel)
theorem dJ0_charAt_5068e_0 : decode cJ0_charAt_5068e 0 = .ok (.aload_n 0, 1) := sdJ0_charAt_5068e_0.1
theorem dJ0_charAt_5068e_1 : decode cJ0_charAt_5068e 1 = .ok (.invokevirtual 492, 3) := sdJ0_charAt_5068e_0.2.1
theorem dJ0_charAt_5068e_4 : decode cJ0_charAt_5068e 4 = .ok (.ifCond .eq 12, 3) := sdJ0_charAt_5068e_0.2.2.1
theorem dJ0_charAt_5068e_7 : decode cJ0_charAt_5068e 7 = .ok (.aload_n 0, 1) := sdJ0_charAt_5068e_0.2.2.2.1
theorem dJ0_charAt_5068e_8 : decode cJ0_charAt_5068e 8 = .ok (.getfield 9, 3) := sdJ0_charAt_5068e_0.2.2.2.2.1
theorem dJ0_charAt_5068e_11 : decode cJ0_charAt_5068e 11 = .ok (.iload_n 1, 1) := sdJ0_charAt_5068e_0.2.2.2.2.2.1
theorem dJ0_charAt_5068e_12 : decode cJ0_charAt_5068e 12 = .ok (.invokestatic 495, 3) := sdJ0_charAt_5068e_0.2.2.2.2.2.2.1
theorem dJ0_charAt_5068e_15 : decode cJ0_charAt_5068e 15 = .ok (.ireturn, 1) := sdJ0_charAt_5068e_0.2.2.2.2.2.2.2.1
theorem sdJ0_charAt_5068e_16 : dz_Seg cJ0_charAt_5068e [(16, .aload_n 0, 1), (17, .getfield 9, 3), (20, .iload_n 1, 1), (21, .invokestatic 498, 3), (24, .ireturn, 1)] := dz_sg _ 16 (by decide +kernel)
theorem dJ0_charAt_5068e_16 : decode cJ0_charAt_5068e 16 = .ok (.aload_n 0, 1) := sdJ0_charAt_5068e_16.1
theorem dJ0_charAt_5068e_17 : decode cJ0_charAt_5068e 17 = .ok (.getfield 9, 3) := sdJ0_charAt_5068e_16.2.1
theorem dJ0_charAt_5068e_20 : decode cJ0_charAt_5068e 20 = .ok (.iload_n 1, 1) := sdJ0_charAt_5068e_16.2.2.1
theorem dJ0_charAt_5068e_21 : decode cJ0_charAt_5068e 21 = .ok (.invokestatic 498, 3) := sdJ0_charAt_5068e_16.2.2.2.1
theorem dJ0_charAt_5068e_24 : decode cJ0_charAt_5068e 24 = .ok (.ireturn, 1) := sdJ0_charAt_5068e_16.2.2.2.2.1
theorem sdJ0_getBytes_840e7_0 : dz_Seg cJ0_getBytes_840e7 [(0, .aload_n 0, 1), (1, .invokevirtual 335, 3), (4, .iload_n 3, 1), (5, .if_icmp .ne 23, 3), (8, .aload_n 0, 1), (9, .getfield 9, 3), (12, .iconst 0, 1), (13, .aload_n 1, 1)] := dz_sg _ 0 (by decide +kernel)
theorem dJ0_getBytes_840e7_0 : decode cJ0_getBytes_840e7 0 = .ok (.aload_n 0, 1) := sdJ0_getBytes_840e7_0.1
theorem dJ0_getBytes_840e7_1 : decode cJ0_getBytes_840e7 1 = .ok (.invokevirtual 335, 3) := sdJ0_getBytes_840e7_0.2.1
theorem dJ0_getBytes_840e7_4 : decode cJ0_getBytes_840e7 4 = .ok (.iload_n 3, 1) := sdJ0_getBytes_840e7_0.2.2.1
theorem dJ0_getBytes_840e7_5 : decode cJ0_getBytes_840e7 5 = .ok (.if_icmp .ne 23, 3) := sdJ0_getBytes_840e7_0.2.2.2.1
theorem dJ0_getBytes_840e7_8 : decode cJ0_getBytes_840e7 8 = .ok (.aload_n 0, 1) := sdJ0_getBytes_840e7_0.2.2.2.2.1
theorem dJ0_getBytes_840e7_9 : decode cJ0_getBytes_840e7 9 = .ok (.getfield 9, 3) := sdJ0_getBytes_840e7_0.2.2.2.2.2.1
theorem dJ0_getBytes_840e7_12 : decode cJ0_getBytes_840e7 12 = .ok (.iconst 0, 1) := sdJ0_getBytes_840e7_0.2.2.2.2.2.2.1
theorem dJ0_getBytes_840e7_13 : decode cJ0_getBytes_840e7 13 = .ok (.aload_n 1, 1) := sdJ0_getBytes_840e7_0.2.2.2.2.2.2.2.1
theorem sdJ0_getBytes_840e7_14 : dz_Seg cJ0_getBytes_840e7 [(14, .iload_n 2, 1), (15, .iload_n 3, 1), (16, .ishl, 1), (17, .aload_n 0, 1), (18, .getfield 9, 3), (21, .arraylength, 1), (22, .invokestatic 212, 3), (25, .goto 18, 3)] := dz_sg _ 14 (by decide +kernel)
theorem dJ0_getBytes_840e7_14 : decode cJ0_getBytes_840e7 14 = .ok (.iload_n 2, 1) := sdJ0_getBytes_840e7_14.1
theorem dJ0_getBytes_840e7_15 : decode cJ0_getBytes_840e7 15 = .ok (.iload_n 3, 1) := sdJ0_getBytes_840e7_14.2.1
theorem dJ0_getBytes_840e7_16 : decode cJ0_getBytes_840e7 16 = .ok (.ishl, 1) := sdJ0_getBytes_840e7_14.2.2.1
theorem dJ0_getBytes_840e7_17 : decode cJ0_getBytes_840e7 17 = .ok (.aload_n 0, 1) := sdJ0_getBytes_840e7_14.2.2.2.1
theorem dJ0_getBytes_840e7_18 : decode cJ0_getBytes_840e7 18 = .ok (.getfield 9, 3) := sdJ0_getBytes_840e7_14.2.2.2.2.1
theorem dJ0_getBytes_840e7_21 : decode cJ0_getBytes_840e7 21 = .ok (.arraylength, 1) := sdJ0_getBytes_840e7_14.2.2.2.2.2.1
theorem dJ0_getBytes_840e7_22 : decode cJ0_getBytes_840e7 22 = .ok (.invokestatic 212, 3) := sdJ0_getBytes_840e7_14.2.2.2.2.2.2.1
theorem dJ0_getBytes_840e7_25 : decode cJ0_getBytes_840e7 25 = .ok (.goto 18, 3) := sdJ0_getBytes_840e7_14.2.2.2.2.2.2.2.1
theorem sdJ0_getBytes_840e7_28 : dz_Seg cJ0_getBytes_840e7 [(28, .aload_n 0, 1), (29, .getfield 9, 3), (32, .iconst 0, 1), (33, .aload_n 1, 1), (34, .iload_n 2, 1), (35, .aload_n 0, 1), (36, .getfield 9, 3), (39, .arraylength, 1)] := dz_sg _ 28 (by decide +kernel)
theorem dJ0_getBytes_840e7_28 : decode cJ0_getBytes_840e7 28 = .ok (.aload_n 0, 1) := sdJ0_getBytes_840e7_28.1
theorem dJ0_getBytes_840e7_29 : decode cJ0_getBytes_840e7 29 = .ok (.getfield 9, 3) := sdJ0_getBytes_840e7_28.2.1
theorem dJ0_getBytes_840e7_32 : decode cJ0_getBytes_840e7 32 = .ok (.iconst 0, 1) := sdJ0_getBytes_840e7_28.2.2.1
theorem dJ0_getBytes_840e7_33 : decode cJ0_getBytes_840e7 33 = .ok (.aload_n 1, 1) := sdJ0_getBytes_840e7_28.2.2.2.1
theorem dJ0_getBytes_840e7_34 : decode cJ0_getBytes_840e7 34 = .ok (.iload_n 2, 1) := sdJ0_getBytes_840e7_28.2.2.2.2.1
theorem dJ0_getBytes_840e7_35 : decode cJ0_getBytes_840e7 35 = .ok (.aload_n 0, 1) := sdJ0_getBytes_840e7_28.2.2.2.2.2.1
theorem dJ0_getBytes_840e7_36 : decode cJ0_getBytes_840e7 36 = .ok (.getfield 9, 3) := sdJ0_getBytes_840e7_28.2.2.2.2.2.2.1
theorem dJ0_getBytes_840e7_39 : decode cJ0_getBytes_840e7 39 = .ok (.arraylength, 1) := sdJ0_getBytes_840e7_28.2.2.2.2.2.2.2.1
theorem sdJ0_getBytes_840e7_40 : dz_Seg cJ0_getBytes_840e7 [(40, .invokestatic 106, 3), (43, .return_, 1)] := dz_sg _ 40 (by decide +kernel)
theorem dJ0_getBytes_840e7_40 : decode cJ0_getBytes_840e7 40 = .ok (.invokestatic 106, 3) := sdJ0_getBytes_840e7_40.1
theorem dJ0_getBytes_840e7_43 : decode cJ0_getBytes_840e7 43 = .ok (.return_, 1) := sdJ0_getBytes_840e7_40.2.1
theorem sdJ0_init_db425_0 : dz_Seg cJ0_init_db425 [(0, .aload_n 0, 1), (1, .invokespecial 1, 3), (4, .aload_n 1, 1), (5, .invokevirtual 552, 3), (8, .astore_n 3, 1), (9, .aload_n 1, 1), (10, .invokevirtual 549, 3), (13, .istore 4, 2)] := dz_sg _ 0 (by decide +kernel)
theorem dJ0_init_db425_0 : decode cJ0_init_db425 0 = .ok (.aload_n 0, 1) := sdJ0_init_db425_0.1
theorem dJ0_init_db425_1 : decode cJ0_init_db425 1 = .ok (.invokespecial 1, 3) := sdJ0_init_db425_0.2.1
theorem dJ0_init_db425_4 : decode cJ0_init_db425 4 = .ok (.aload_n 1, 1) := sdJ0_init_db425_0.2.2.1
theorem dJ0_init_db425_5 : decode cJ0_init_db425 5 = .ok (.invokevirtual 552, 3) := sdJ0_init_db425_0.2.2.2.1
theorem dJ0_init_db425_8 : decode cJ0_init_db425 8 = .ok (.astore_n 3, 1) := sdJ0_init_db425_0.2.2.2.2.1
theorem dJ0_init_db425_9 : decode cJ0_init_db425 9 = .ok (.aload_n 1, 1) := sdJ0_init_db425_0.2.2.2.2.2.1
theorem dJ0_init_db425_10 : decode cJ0_init_db425 10 = .ok (.invokevirtual 549, 3) := sdJ0_init_db425_0.2.2.2.2.2.2.1
theorem dJ0_init_db425_13 : decode cJ0_init_db425 13 = .ok (.istore 4, 2) := sdJ0_init_db425_0.2.2.2.2.2.2.2.1
theorem sdJ0_init_db425_15 : dz_Seg cJ0_init_db425 [(15, .aload_n 1, 1), (16, .invokevirtual 1047, 3), (19, .ifCond .eq 22, 3), (22, .aload_n 0, 1), (23, .iconst 0, 1), (24, .putfield 15, 3), (27, .aload_n 0, 1), (28, .aload_n 3, 1)] := dz_sg _ 15 (by decide +kernel)
theorem dJ0_init_db425_15 : decode cJ0_init_db425 15 = .ok (.aload_n 1, 1) := sdJ0_init_db425_15.1
theorem dJ0_init_db425_16 : decode cJ0_init_db425 16 = .ok (.invokevirtual 1047, 3) := sdJ0_init_db425_15.2.1
theorem dJ0_init_db425_19 : decode cJ0_init_db425 19 = .ok (.ifCond .eq 22, 3) := sdJ0_init_db425_15.2.2.1
theorem dJ0_init_db425_22 : decode cJ0_init_db425 22 = .ok (.aload_n 0, 1) := sdJ0_init_db425_15.2.2.2.1
theorem dJ0_init_db425_23 : decode cJ0_init_db425 23 = .ok (.iconst 0, 1) := sdJ0_init_db425_15.2.2.2.2.1
theorem dJ0_init_db425_24 : decode cJ0_init_db425 24 = .ok (.putfield 15, 3) := sdJ0_init_db425_15.2.2.2.2.2.1
theorem dJ0_init_db425_27 : decode cJ0_init_db425 27 = .ok (.aload_n 0, 1) := sdJ0_init_db425_15.2.2.2.2.2.2.1
theorem dJ0_init_db425_28 : decode cJ0_init_db425 28 = .ok (.aload_n 3, 1) := sdJ0_init_db425_15.2.2.2.2.2.2.2.1
theorem sdJ0_init_db425_29 : dz_Seg cJ0_init_db425 [(29, .iconst 0, 1), (30, .iload 4, 2), (32, .invokestatic 54, 3), (35, .putfield 9, 3), (38, .goto 59, 3), (41, .getstatic 38, 3), (44, .ifCond .eq 35, 3), (47, .aload_n 1, 1)] := dz_sg _ 29 (by decide +kernel)
theorem dJ0_init_db425_29 : decode cJ0_init_db425 29 = .ok (.iconst 0, 1) := sdJ0_init_db425_29.1
theorem dJ0_init_db425_30 : decode cJ0_init_db425 30 = .ok (.iload 4, 2) := sdJ0_init_db425_29.2.1
theorem dJ0_init_db425_32 : decode cJ0_init_db425 32 = .ok (.invokestatic 54, 3) := sdJ0_init_db425_29.2.2.1
theorem dJ0_init_db425_35 : decode cJ0_init_db425 35 = .ok (.putfield 9, 3) := sdJ0_init_db425_29.2.2.2.1
theorem dJ0_init_db425_38 : decode cJ0_init_db425 38 = .ok (.goto 59, 3) := sdJ0_init_db425_29.2.2.2.2.1
theorem dJ0_init_db425_41 : decode cJ0_init_db425 41 = .ok (.getstatic 38, 3) := sdJ0_init_db425_29.2.2.2.2.2.1
theorem dJ0_init_db425_44 : decode cJ0_init_db425 44 = .ok (.ifCond .eq 35, 3) := sdJ0_init_db425_29.2.2.2.2.2.2.1
theorem dJ0_init_db425_47 : decode cJ0_init_db425 47 = .ok (.aload_n 1, 1) := sdJ0_init_db425_29.2.2.2.2.2.2.2.1
theorem sdJ0_init_db425_48 : dz_Seg cJ0_init_db425 [(48, .getfield 1048, 3), (51, .ifCond .eq 28, 3), (54, .aload_n 0, 1), (55, .aload_n 3, 1), (56, .iconst 0, 1), (57, .iload 4, 2), (59, .invokestatic 1051, 3), (62, .putfield 9, 3)] := dz_sg _ 48 (by decide +kernel)
theorem dJ0_init_db425_48 : decode cJ0_init_db425 48 = .ok (.getfield 1048, 3) := sdJ0_init_db425_48.1
theorem dJ0_init_db425_51 : decode cJ0_init_db425 51 = .ok (.ifCond .eq 28, 3) := sdJ0_init_db425_48.2.1
theorem dJ0_init_db425_54 : decode cJ0_init_db425 54 = .ok (.aload_n 0, 1) := sdJ0_init_db425_48.2.2.1
theorem dJ0_init_db425_55 : decode cJ0_init_db425 55 = .ok (.aload_n 3, 1) := sdJ0_init_db425_48.2.2.2.1
theorem dJ0_init_db425_56 : decode cJ0_init_db425 56 = .ok (.iconst 0, 1) := sdJ0_init_db425_48.2.2.2.2.1
theorem dJ0_init_db425_57 : decode cJ0_init_db425 57 = .ok (.iload 4, 2) := sdJ0_init_db425_48.2.2.2.2.2.1
theorem dJ0_init_db425_59 : decode cJ0_init_db425 59 = .ok (.invokestatic 1051, 3) := sdJ0_init_db425_48.2.2.2.2.2.2.1
theorem dJ0_init_db425_62 : decode cJ0_init_db425 62 = .ok (.putfield 9, 3) := sdJ0_init_db425_48.2.2.2.2.2.2.2.1
theorem sdJ0_init_db425_65 : dz_Seg cJ0_init_db425 [(65, .aload_n 0, 1), (66, .aload_n 0, 1), (67, .getfield 9, 3), (70, .iload 4, 2), (72, .invokestatic 47, 3), (75, .putfield 15, 3), (78, .return_, 1), (79, .aload_n 0, 1)] := dz_sg _ 65 (by decide +kernel)
theorem dJ0_init_db425_65 : decode cJ0_init_db425 65 = .ok (.aload_n 0, 1) := sdJ0_init_db425_65.1
theorem dJ0_init_db425_66 : decode cJ0_init_db425 66 = .ok (.aload_n 0, 1) := sdJ0_init_db425_65.2.1
theorem dJ0_init_db425_67 : decode cJ0_init_db425 67 = .ok (.getfield 9, 3) := sdJ0_init_db425_65.2.2.1
theorem dJ0_init_db425_70 : decode cJ0_init_db425 70 = .ok (.iload 4, 2) := sdJ0_init_db425_65.2.2.2.1
theorem dJ0_init_db425_72 : decode cJ0_init_db425 72 = .ok (.invokestatic 47, 3) := sdJ0_init_db425_65.2.2.2.2.1
theorem dJ0_init_db425_75 : decode cJ0_init_db425 75 = .ok (.putfield 15, 3) := sdJ0_init_db425_65.2.2.2.2.2.1
theorem dJ0_init_db425_78 : decode cJ0_init_db425 78 = .ok (.return_, 1) := sdJ0_init_db425_65.2.2.2.2.2.2.1
theorem dJ0_init_db425_79 : decode cJ0_init_db425 79 = .ok (.aload_n 0, 1) := sdJ0_init_db425_65.2.2.2.2.2.2.2.1
theorem sdJ0_init_db425_80 : dz_Seg cJ0_init_db425 [(80, .iconst 1, 1), (81, .putfield 15, 3), (84, .aload_n 0, 1), (85, .aload_n 3, 1), (86, .iconst 0, 1), (87, .iload 4, 2), (89, .iconst 1, 1), (90, .ishl, 1)] := dz_sg _ 80 (by decide +kernel)
theorem dJ0_init_db425_80 : decode cJ0_init_db425 80 = .ok (.iconst 1, 1) := sdJ0_init_db425_80.1
theorem dJ0_init_db425_81 : decode cJ0_init_db425 81 = .ok (.putfield 15, 3) := sdJ0_init_db425_80.2.1
theorem dJ0_init_db425_84 : decode cJ0_init_db425 84 = .ok (.aload_n 0, 1) := sdJ0_init_db425_80.2.2.1
theorem dJ0_init_db425_85 : decode cJ0_init_db425 85 = .ok (.aload_n 3, 1) := sdJ0_init_db425_80.2.2.2.1
theorem dJ0_init_db425_86 : decode cJ0_init_db425 86 = .ok (.iconst 0, 1) := sdJ0_init_db425_80.2.2.2.2.1
theorem dJ0_init_db425_87 : decode cJ0_init_db425 87 = .ok (.iload 4, 2) := sdJ0_init_db425_80.2.2.2.2.2.1
theorem dJ0_init_db425_89 : decode cJ0_init_db425 89 = .ok (.iconst 1, 1) := sdJ0_init_db425_80.2.2.2.2.2.2.1
theorem dJ0_init_db425_90 : decode cJ0_init_db425 90 = .ok (.ishl, 1) := sdJ0_init_db425_80.2.2.2.2.2.2.2.1
theorem sdJ0_init_db425_91 : dz_Seg cJ0_init_db425 [(91, .invokestatic 54, 3), (94, .putfield 9, 3), (97, .return_, 1)] := dz_sg _ 91 (by decide +kernel)
theorem dJ0_init_db425_91 : decode cJ0_init_db425 91 = .ok (.invokestatic 54, 3) := sdJ0_init_db425_91.1
theorem dJ0_init_db425_94 : decode cJ0_init_db425 94 = .ok (.putfield 9, 3) := sdJ0_init_db425_91.2.1
theorem dJ0_init_db425_97 : decode cJ0_init_db425 97 = .ok (.return_, 1) := sdJ0_init_db425_91.2.2.1
theorem sdJ0_coder_7d493_0 : dz_Seg cJ0_coder_7d493 [(0, .getstatic 38, 3), (3, .ifCond .eq 10, 3), (6, .aload_n 0, 1), (7, .getfield 15, 3), (10, .goto 4, 3), (13, .iconst 1, 1), (14, .ireturn, 1)] := dz_sg _ 0 (by decide +kernel)
theorem dJ0_coder_7d493_0 : decode cJ0_coder_7d493 0 = .ok (.getstatic 38, 3) := sdJ0_coder_7d493_0.1
theorem dJ0_coder_7d493_3 : decode cJ0_coder_7d493 3 = .ok (.ifCond .eq 10, 3) := sdJ0_coder_7d493_0.2.1
theorem dJ0_coder_7d493_6 : decode cJ0_coder_7d493 6 = .ok (.aload_n 0, 1) := sdJ0_coder_7d493_0.2.2.1
theorem dJ0_coder_7d493_7 : decode cJ0_coder_7d493 7 = .ok (.getfield 15, 3) := sdJ0_coder_7d493_0.2.2.2.1
theorem dJ0_coder_7d493_10 : decode cJ0_coder_7d493 10 = .ok (.goto 4, 3) := sdJ0_coder_7d493_0.2.2.2.2.1
theorem dJ0_coder_7d493_13 : decode cJ0_coder_7d493 13 = .ok (.iconst 1, 1) := sdJ0_coder_7d493_0.2.2.2.2.2.1
theorem dJ0_coder_7d493_14 : decode cJ0_coder_7d493 14 = .ok (.ireturn, 1) := sdJ0_coder_7d493_0.2.2.2.2.2.2.1
theorem sdJ0_isLatin1_aae02_0 : dz_Seg cJ0_isLatin1_aae02 [(0, .getstatic 38, 3), (3, .ifCond .eq 14, 3), (6, .aload_n 0, 1), (7, .getfield 15, 3), (10, .ifCond .ne 7, 3), (13, .iconst 1, 1), (14, .goto 4, 3), (17, .iconst 0, 1)] := dz_sg _ 0 (by decide +kernel)
theorem dJ0_isLatin1_aae02_0 : decode cJ0_isLatin1_aae02 0 = .ok (.getstatic 38, 3) := sdJ0_isLatin1_aae02_0.1
theorem dJ0_isLatin1_aae02_3 : decode cJ0_isLatin1_aae02 3 = .ok (.ifCond .eq 14, 3) := sdJ0_isLatin1_aae02_0.2.1
theorem dJ0_isLatin1_aae02_6 : decode cJ0_isLatin1_aae02 6 = .ok (.aload_n 0, 1) := sdJ0_isLatin1_aae02_0.2.2.1
theorem dJ0_isLatin1_aae02_7 : decode cJ0_isLatin1_aae02 7 = .ok (.getfield 15, 3) := sdJ0_isLatin1_aae02_0.2.2.2.1
theorem dJ0_isLatin1_aae02_10 : decode cJ0_isLatin1_aae02 10 = .ok (.ifCond .ne 7, 3) := sdJ0_isLatin1_aae02_0.2.2.2.2.1
theorem dJ0_isLatin1_aae02_13 : decode cJ0_isLatin1_aae02 13 = .ok (.iconst 1, 1) := sdJ0_isLatin1_aae02_0.2.2.2.2.2.1
theorem dJ0_isLatin1_aae02_14 : decode cJ0_isLatin1_aae02 14 = .ok (.goto 4, 3) := sdJ0_isLatin1_aae02_0.2.2.2.2.2.2.1
theorem dJ0_isLatin1_aae02_17 : decode cJ0_isLatin1_aae02 17 = .ok (.iconst 0, 1) := sdJ0_isLatin1_aae02_0.2.2.2.2.2.2.2.1
theorem sdJ0_isLatin1_aae02_18 : dz_Seg cJ0_isLatin1_aae02 [(18, .ireturn, 1)] := dz_sg _ 18 (by decide +kernel)
theorem dJ0_isLatin1_aae02_18 : decode cJ0_isLatin1_aae02 18 = .ok (.ireturn, 1) := sdJ0_isLatin1_aae02_18.1
theorem sdJ0_checkIndex_df160_0 : dz_Seg cJ0_checkIndex_df160 [(0, .iload_n 0, 1), (1, .iload_n 1, 1), (2, .getstatic 1053, 3), (5, .invokestatic 1059, 3), (8, .pop, 1), (9, .return_, 1)] := dz_sg _ 0 (by decide +kernel)
theorem dJ0_checkIndex_df160_0 : decode cJ0_checkIndex_df160 0 = .ok (.iload_n 0, 1) := sdJ0_checkIndex_df160_0.1
theorem dJ0_checkIndex_df160_1 : decode cJ0_checkIndex_df160 1 = .ok (.iload_n 1, 1) := sdJ0_checkIndex_df160_0.2.1
theorem dJ0_checkIndex_df160_2 : decode cJ0_checkIndex_df160 2 = .ok (.getstatic 1053, 3) := sdJ0_checkIndex_df160_0.2.2.1
theorem dJ0_checkIndex_df160_5 : decode cJ0_checkIndex_df160 5 = .ok (.invokestatic 1059, 3) := sdJ0_checkIndex_df160_0.2.2.2.1
theorem dJ0_checkIndex_df160_8 : decode cJ0_checkIndex_df160 8 = .ok (.pop, 1) := sdJ0_checkIndex_df160_0.2.2.2.2.1
theorem dJ0_checkIndex_df160_9 : decode cJ0_checkIndex_df160 9 = .ok (.return_, 1) := sdJ0_checkIndex_df160_0.2.2.2.2.2.1
theorem sdJ0_checkBoundsOffCount_cabcc_0 : dz_Seg cJ0_checkBoundsOffCount_cabcc [(0, .iload_n 0, 1), (1, .iload_n 1, 1), (2, .iload_n 2, 1), (3, .getstatic 1053, 3), (6, .invokestatic 1065, 3), (9, .ireturn, 1)] := dz_sg _ 0 (by decide +kernel)
theorem dJ0_checkBoundsOffCount_cabcc_0 : decode cJ0_checkBoundsOffCount_cabcc 0 = .ok (.iload_n 0, 1) := sdJ0_checkBoundsOffCount_cabcc_0.1
theorem dJ0_checkBoundsOffCount_cabcc_1 : decode cJ0_checkBoundsOffCount_cabcc 1 = .ok (.iload_n 1, 1) := sdJ0_checkBoundsOffCount_cabcc_0.2.1
theorem dJ0_checkBoundsOffCount_cabcc_2 : decode cJ0_checkBoundsOffCount_cabcc 2 = .ok (.iload_n 2, 1) := sdJ0_checkBoundsOffCount_cabcc_0.2.2.1
theorem dJ0_checkBoundsOffCount_cabcc_3 : decode cJ0_checkBoundsOffCount_cabcc 3 = .ok (.getstatic 1053, 3) := sdJ0_checkBoundsOffCount_cabcc_0.2.2.2.1
theorem dJ0_checkBoundsOffCount_cabcc_6 : decode cJ0_checkBoundsOffCount_cabcc 6 = .ok (.invokestatic 1065, 3) := sdJ0_checkBoundsOffCount_cabcc_0.2.2.2.2.1
theorem dJ0_checkBoundsOffCount_cabcc_9 : decode cJ0_checkBoundsOffCount_cabcc 9 = .ok (.ireturn, 1) := sdJ0_checkBoundsOffCount_cabcc_0.2.2.2.2.2.1
theorem sdJ0_checkBoundsBeginEnd_23922_0 : dz_Seg cJ0_checkBoundsBeginEnd_23922 [(0, .iload_n 0, 1), (1, .iload_n 1, 1), (2, .iload_n 2, 1), (3, .getstatic 1053, 3), (6, .invokestatic 1062, 3), (9, .pop, 1), (10, .return_, 1)] := dz_sg _ 0 (by decide +kernel)
theorem dJ0_checkBoundsBeginEnd_23922_0 : decode cJ0_checkBoundsBeginEnd_23922 0 = .ok (.iload_n 0, 1) := sdJ0_checkBoundsBeginEnd_23922_0.1
theorem dJ0_checkBoundsBeginEnd_23922_1 : decode cJ0_checkBoundsBeginEnd_23922 1 = .ok (.iload_n 1, 1) := sdJ0_checkBoundsBeginEnd_23922_0.2.1
theorem dJ0_checkBoundsBeginEnd_23922_2 : decode cJ0_checkBoundsBeginEnd_23922 2 = .ok (.iload_n 2, 1) := sdJ0_checkBoundsBeginEnd_23922_0.2.2.1
theorem dJ0_checkBoundsBeginEnd_23922_3 : decode cJ0_checkBoundsBeginEnd_23922 3 = .ok (.getstatic 1053, 3) := sdJ0_checkBoundsBeginEnd_23922_0.2.2.2.1
theorem dJ0_checkBoundsBeginEnd_23922_6 : decode cJ0_checkBoundsBeginEnd_23922 6 = .ok (.invokestatic 1062, 3) := sdJ0_checkBoundsBeginEnd_23922_0.2.2.2.2.1
theorem dJ0_checkBoundsBeginEnd_23922_9 : decode cJ0_checkBoundsBeginEnd_23922 9 = .ok (.pop, 1) := sdJ0_checkBoundsBeginEnd_23922_0.2.2.2.2.2.1
theorem dJ0_checkBoundsBeginEnd_23922_10 : decode cJ0_checkBoundsBeginEnd_23922 10 = .ok (.return_, 1) := sdJ0_checkBoundsBeginEnd_23922_0.2.2.2.2.2.2.1
theorem sdJ4_init_da8c8_0 : dz_Seg cJ4_init_da8c8 [(0, .aload_n 0, 1), (1, .bipush 16, 2), (3, .invokespecial 1, 3), (6, .return_, 1)] := dz_sg _ 0 (by decide +kernel)
theorem dJ4_init_da8c8_0 : decode cJ4_init_da8c8 0 = .ok (.aload_n 0, 1) := sdJ4_init_da8c8_0.1
theorem dJ4_init_da8c8_1 : decode cJ4_init_da8c8 1 = .ok (.bipush 16, 2) := sdJ4_init_da8c8_0.2.1
theorem dJ4_init_da8c8_3 : decode cJ4_init_da8c8 3 = .ok (.invokespecial 1, 3) := sdJ4_init_da8c8_0.2.2.1
theorem dJ4_init_da8c8_6 : decode cJ4_init_da8c8 6 = .ok (.return_, 1) := sdJ4_init_da8c8_0.2.2.2.1
theorem sdJ4_append_15ec4_0 : dz_Seg cJ4_append_15ec4 [(0, .aload_n 0, 1), (1, .aload_n 1, 1), (2, .invokespecial 29, 3), (5, .pop, 1), (6, .aload_n 0, 1), (7, .areturn, 1)] := dz_sg _ 0 (by decide +kernel)
theorem dJ4_append_15ec4_0 : decode cJ4_append_15ec4 0 = .ok (.aload_n 0, 1) := sdJ4_append_15ec4_0.1
theorem dJ4_append_15ec4_1 : decode cJ4_append_15ec4 1 = .ok (.aload_n 1, 1) := sdJ4_append_15ec4_0.2.1
theorem dJ4_append_15ec4_2 : decode cJ4_append_15ec4 2 = .ok (.invokespecial 29, 3) := sdJ4_append_15ec4_0.2.2.1
theorem dJ4_append_15ec4_5 : decode cJ4_append_15ec4 5 = .ok (.pop, 1) := sdJ4_append_15ec4_0.2.2.2.1
theorem dJ4_append_15ec4_6 : decode cJ4_append_15ec4 6 = .ok (.aload_n 0, 1) := sdJ4_append_15ec4_0.2.2.2.2.1
theorem dJ4_append_15ec4_7 : decode cJ4_append_15ec4 7 = .ok (.areturn, 1) := sdJ4_append_15ec4_0.2.2.2.2.2.1
theorem sdJ4_append_cf468_0 : dz_Seg cJ4_append_cf468 [(0, .aload_n 0, 1), (1, .iload_n 1, 1), (2, .invokespecial 50, 3), (5, .pop, 1), (6, .aload_n 0, 1), (7, .areturn, 1)] := dz_sg _ 0 (by decide +kernel)
theorem dJ4_append_cf468_0 : decode cJ4_append_cf468 0 = .ok (.aload_n 0, 1) := sdJ4_append_cf468_0.1
theorem dJ4_append_cf468_1 : decode cJ4_append_cf468 1 = .ok (.iload_n 1, 1) := sdJ4_append_cf468_0.2.1
theorem dJ4_append_cf468_2 : decode cJ4_append_cf468 2 = .ok (.invokespecial 50, 3) := sdJ4_append_cf468_0.2.2.1
theorem dJ4_append_cf468_5 : decode cJ4_append_cf468 5 = .ok (.pop, 1) := sdJ4_append_cf468_0.2.2.2.1
theorem dJ4_append_cf468_6 : decode cJ4_append_cf468 6 = .ok (.aload_n 0, 1) := sdJ4_append_cf468_0.2.2.2.2.1
theorem dJ4_append_cf468_7 : decode cJ4_append_cf468 7 = .ok (.areturn, 1) := sdJ4_append_cf468_0.2.2.2.2.2.1
theorem sdJ4_append_bf812_0 : dz_Seg cJ4_append_bf812 [(0, .aload_n 0, 1), (1, .iload_n 1, 1), (2, .invokespecial 53, 3), (5, .pop, 1), (6, .aload_n 0, 1), (7, .areturn, 1)] := dz_sg _ 0 (by decide +kernel)
theorem dJ4_append_bf812_0 : decode cJ4_append_bf812 0 = .ok (.aload_n 0, 1) := sdJ4_append_bf812_0.1
theorem dJ4_append_bf812_1 : decode cJ4_append_bf812 1 = .ok (.iload_n 1, 1) := sdJ4_append_bf812_0.2.1
theorem dJ4_append_bf812_2 : decode cJ4_append_bf812 2 = .ok (.invokespecial 53, 3) := sdJ4_append_bf812_0.2.2.1
theorem dJ4_append_bf812_5 : decode cJ4_append_bf812 5 = .ok (.pop, 1) := sdJ4_append_bf812_0.2.2.2.1
theorem dJ4_append_bf812_6 : decode cJ4_append_bf812 6 = .ok (.aload_n 0, 1) := sdJ4_append_bf812_0.2.2.2.2.1
theorem dJ4_append_bf812_7 : decode cJ4_append_bf812 7 = .ok (.areturn, 1) := sdJ4_append_bf812_0.2.2.2.2.2.1
theorem sdJ4_toString_0e30d_0 : dz_Seg cJ4_toString_0e30d [(0, .new 18, 3), (3, .dup, 1), (4, .aload_n 0, 1), (5, .invokespecial 137, 3), (8, .areturn, 1)] := dz_sg _ 0 (by decide +kernel)
theorem dJ4_toString_0e30d_0 : decode cJ4_toString_0e30d 0 = .ok (.new 18, 3) := sdJ4_toString_0e30d_0.1
theorem dJ4_toString_0e30d_3 : decode cJ4_toString_0e30d 3 = .ok (.dup, 1) := sdJ4_toString_0e30d_0.2.1
theorem dJ4_toString_0e30d_4 : decode cJ4_toString_0e30d 4 = .ok (.aload_n 0, 1) := sdJ4_toString_0e30d_0.2.2.1
theorem dJ4_toString_0e30d_5 : decode cJ4_toString_0e30d 5 = .ok (.invokespecial 137, 3) := sdJ4_toString_0e30d_0.2.2.2.1
theorem dJ4_toString_0e30d_8 : decode cJ4_toString_0e30d 8 = .ok (.areturn, 1) := sdJ4_toString_0e30d_0.2.2.2.2.1
theorem sdJ4_length_8abf5_0 : dz_Seg cJ4_length_8abf5 [(0, .aload_n 0, 1), (1, .invokespecial 343, 3), (4, .ireturn, 1)] := dz_sg _ 0 (by decide +kernel)
theorem dJ4_length_8abf5_0 : decode cJ4_length_8abf5 0 = .ok (.aload_n 0, 1) := sdJ4_length_8abf5_0.1
theorem dJ4_length_8abf5_1 : decode cJ4_length_8abf5 1 = .ok (.invokespecial 343, 3) := sdJ4_length_8abf5_0.2.1
theorem dJ4_length_8abf5_4 : decode cJ4_length_8abf5 4 = .ok (.ireturn, 1) := sdJ4_length_8abf5_0.2.2.1
theorem sdJ1_charAt_3b067_0 : dz_Seg cJ1_charAt_3b067 [(0, .iload_n 1, 1), (1, .aload_n 0, 1), (2, .arraylength, 1), (3, .invokestatic 9, 3), (6, .aload_n 0, 1), (7, .iload_n 1, 1), (8, .baload, 1), (9, .sipush 255, 3)] := dz_sg _ 0 (by decide +kernel)
theorem dJ1_charAt_3b067_0 : decode cJ1_charAt_3b067 0 = .ok (.iload_n 1, 1) := sdJ1_charAt_3b067_0.1
theorem dJ1_charAt_3b067_1 : decode cJ1_charAt_3b067 1 = .ok (.aload_n 0, 1) := sdJ1_charAt_3b067_0.2.1
theorem dJ1_charAt_3b067_2 : decode cJ1_charAt_3b067 2 = .ok (.arraylength, 1) := sdJ1_charAt_3b067_0.2.2.1
theorem dJ1_charAt_3b067_3 : decode cJ1_charAt_3b067 3 = .ok (.invokestatic 9, 3) := sdJ1_charAt_3b067_0.2.2.2.1
theorem dJ1_charAt_3b067_6 : decode cJ1_charAt_3b067 6 = .ok (.aload_n 0, 1) := sdJ1_charAt_3b067_0.2.2.2.2.1
theorem dJ1_charAt_3b067_7 : decode cJ1_charAt_3b067 7 = .ok (.iload_n 1, 1) := sdJ1_charAt_3b067_0.2.2.2.2.2.1
theorem dJ1_charAt_3b067_8 : decode cJ1_charAt_3b067 8 = .ok (.baload, 1) := sdJ1_charAt_3b067_0.2.2.2.2.2.2.1
theorem dJ1_charAt_3b067_9 : decode cJ1_charAt_3b067 9 = .ok (.sipush 255, 3) := sdJ1_charAt_3b067_0.2.2.2.2.2.2.2.1
theorem sdJ1_charAt_3b067_12 : dz_Seg cJ1_charAt_3b067 [(12, .iand, 1), (13, .i2c, 1), (14, .ireturn, 1)] := dz_sg _ 12 (by decide +kernel)
theorem dJ1_charAt_3b067_12 : decode cJ1_charAt_3b067 12 = .ok (.iand, 1) := sdJ1_charAt_3b067_12.1
theorem dJ1_charAt_3b067_13 : decode cJ1_charAt_3b067 13 = .ok (.i2c, 1) := sdJ1_charAt_3b067_12.2.1
theorem dJ1_charAt_3b067_14 : decode cJ1_charAt_3b067 14 = .ok (.ireturn, 1) := sdJ1_charAt_3b067_12.2.2.1
theorem sdJ1_canEncode_fc78d_0 : dz_Seg cJ1_canEncode_fc78d [(0, .iload_n 0, 1), (1, .sipush 255, 3), (4, .if_icmp .gt 7, 3), (7, .iconst 1, 1), (8, .goto 4, 3), (11, .iconst 0, 1), (12, .ireturn, 1)] := dz_sg _ 0 (by decide +kernel)
theorem dJ1_canEncode_fc78d_0 : decode cJ1_canEncode_fc78d 0 = .ok (.iload_n 0, 1) := sdJ1_canEncode_fc78d_0.1
theorem dJ1_canEncode_fc78d_1 : decode cJ1_canEncode_fc78d 1 = .ok (.sipush 255, 3) := sdJ1_canEncode_fc78d_0.2.1
theorem dJ1_canEncode_fc78d_4 : decode cJ1_canEncode_fc78d 4 = .ok (.if_icmp .gt 7, 3) := sdJ1_canEncode_fc78d_0.2.2.1
theorem dJ1_canEncode_fc78d_7 : decode cJ1_canEncode_fc78d 7 = .ok (.iconst 1, 1) := sdJ1_canEncode_fc78d_0.2.2.2.1
theorem dJ1_canEncode_fc78d_8 : decode cJ1_canEncode_fc78d 8 = .ok (.goto 4, 3) := sdJ1_canEncode_fc78d_0.2.2.2.2.1
theorem dJ1_canEncode_fc78d_11 : decode cJ1_canEncode_fc78d 11 = .ok (.iconst 0, 1) := sdJ1_canEncode_fc78d_0.2.2.2.2.2.1
theorem dJ1_canEncode_fc78d_12 : decode cJ1_canEncode_fc78d 12 = .ok (.ireturn, 1) := sdJ1_canEncode_fc78d_0.2.2.2.2.2.2.1
theorem sdJ1_inflate_0e8fd_0 : dz_Seg cJ1_inflate_0e8fd [(0, .aload_n 0, 1), (1, .iload_n 1, 1), (2, .aload_n 2, 1), (3, .iload_n 3, 1), (4, .iload 4, 2), (6, .invokestatic 240, 3), (9, .return_, 1)] := dz_sg _ 0 (by decide +kernel)
theorem dJ1_inflate_0e8fd_0 : decode cJ1_inflate_0e8fd 0 = .ok (.aload_n 0, 1) := sdJ1_inflate_0e8fd_0.1
theorem dJ1_inflate_0e8fd_1 : decode cJ1_inflate_0e8fd 1 = .ok (.iload_n 1, 1) := sdJ1_inflate_0e8fd_0.2.1
theorem dJ1_inflate_0e8fd_2 : decode cJ1_inflate_0e8fd 2 = .ok (.aload_n 2, 1) := sdJ1_inflate_0e8fd_0.2.2.1
theorem dJ1_inflate_0e8fd_3 : decode cJ1_inflate_0e8fd 3 = .ok (.iload_n 3, 1) := sdJ1_inflate_0e8fd_0.2.2.2.1
theorem dJ1_inflate_0e8fd_4 : decode cJ1_inflate_0e8fd 4 = .ok (.iload 4, 2) := sdJ1_inflate_0e8fd_0.2.2.2.2.1
theorem dJ1_inflate_0e8fd_6 : decode cJ1_inflate_0e8fd 6 = .ok (.invokestatic 240, 3) := sdJ1_inflate_0e8fd_0.2.2.2.2.2.1
theorem dJ1_inflate_0e8fd_9 : decode cJ1_inflate_0e8fd 9 = .ok (.return_, 1) := sdJ1_inflate_0e8fd_0.2.2.2.2.2.2.1
theorem sdJ7_copyOf_9075b_0 : dz_Seg cJ7_copyOf_9075b [(0, .iload_n 1, 1), (1, .aload_n 0, 1), (2, .arraylength, 1), (3, .if_icmp .ne 11, 3), (6, .aload_n 0, 1), (7, .invokevirtual 310, 3), (10, .checkcast 311, 3), (13, .areturn, 1)] := dz_sg _ 0 (by decide +kernel)
theorem dJ7_copyOf_9075b_0 : decode cJ7_copyOf_9075b 0 = .ok (.iload_n 1, 1) := sdJ7_copyOf_9075b_0.1
theorem dJ7_copyOf_9075b_1 : decode cJ7_copyOf_9075b 1 = .ok (.aload_n 0, 1) := sdJ7_copyOf_9075b_0.2.1
theorem dJ7_copyOf_9075b_2 : decode cJ7_copyOf_9075b 2 = .ok (.arraylength, 1) := sdJ7_copyOf_9075b_0.2.2.1
theorem dJ7_copyOf_9075b_3 : decode cJ7_copyOf_9075b 3 = .ok (.if_icmp .ne 11, 3) := sdJ7_copyOf_9075b_0.2.2.2.1
theorem dJ7_copyOf_9075b_6 : decode cJ7_copyOf_9075b 6 = .ok (.aload_n 0, 1) := sdJ7_copyOf_9075b_0.2.2.2.2.1
theorem dJ7_copyOf_9075b_7 : decode cJ7_copyOf_9075b 7 = .ok (.invokevirtual 310, 3) := sdJ7_copyOf_9075b_0.2.2.2.2.2.1
theorem dJ7_copyOf_9075b_10 : decode cJ7_copyOf_9075b 10 = .ok (.checkcast 311, 3) := sdJ7_copyOf_9075b_0.2.2.2.2.2.2.1
theorem dJ7_copyOf_9075b_13 : decode cJ7_copyOf_9075b 13 = .ok (.areturn, 1) := sdJ7_copyOf_9075b_0.2.2.2.2.2.2.2.1
theorem sdJ7_copyOf_9075b_14 : dz_Seg cJ7_copyOf_9075b [(14, .iload_n 1, 1), (15, .newarray .byte, 2), (17, .astore_n 2, 1), (18, .aload_n 0, 1), (19, .iconst 0, 1), (20, .aload_n 2, 1), (21, .iconst 0, 1), (22, .aload_n 0, 1)] := dz_sg _ 14 (by decide +kernel)
theorem dJ7_copyOf_9075b_14 : decode cJ7_copyOf_9075b 14 = .ok (.iload_n 1, 1) := sdJ7_copyOf_9075b_14.1
theorem dJ7_copyOf_9075b_15 : decode cJ7_copyOf_9075b 15 = .ok (.newarray .byte, 2) := sdJ7_copyOf_9075b_14.2.1
theorem dJ7_copyOf_9075b_17 : decode cJ7_copyOf_9075b 17 = .ok (.astore_n 2, 1) := sdJ7_copyOf_9075b_14.2.2.1
theorem dJ7_copyOf_9075b_18 : decode cJ7_copyOf_9075b 18 = .ok (.aload_n 0, 1) := sdJ7_copyOf_9075b_14.2.2.2.1
theorem dJ7_copyOf_9075b_19 : decode cJ7_copyOf_9075b 19 = .ok (.iconst 0, 1) := sdJ7_copyOf_9075b_14.2.2.2.2.1
theorem dJ7_copyOf_9075b_20 : decode cJ7_copyOf_9075b 20 = .ok (.aload_n 2, 1) := sdJ7_copyOf_9075b_14.2.2.2.2.2.1
theorem dJ7_copyOf_9075b_21 : decode cJ7_copyOf_9075b 21 = .ok (.iconst 0, 1) := sdJ7_copyOf_9075b_14.2.2.2.2.2.2.1
theorem dJ7_copyOf_9075b_22 : decode cJ7_copyOf_9075b 22 = .ok (.aload_n 0, 1) := sdJ7_copyOf_9075b_14.2.2.2.2.2.2.2.1
theorem sdJ7_copyOf_9075b_23 : dz_Seg cJ7_copyOf_9075b [(23, .arraylength, 1), (24, .iload_n 1, 1), (25, .invokestatic 304, 3), (28, .invokestatic 150, 3), (31, .aload_n 2, 1), (32, .areturn, 1)] := dz_sg _ 23 (by decide +kernel)
theorem dJ7_copyOf_9075b_23 : decode cJ7_copyOf_9075b 23 = .ok (.arraylength, 1) := sdJ7_copyOf_9075b_23.1
theorem dJ7_copyOf_9075b_24 : decode cJ7_copyOf_9075b 24 = .ok (.iload_n 1, 1) := sdJ7_copyOf_9075b_23.2.1
theorem dJ7_copyOf_9075b_25 : decode cJ7_copyOf_9075b 25 = .ok (.invokestatic 304, 3) := sdJ7_copyOf_9075b_23.2.2.1
theorem dJ7_copyOf_9075b_28 : decode cJ7_copyOf_9075b 28 = .ok (.invokestatic 150, 3) := sdJ7_copyOf_9075b_23.2.2.2.1
theorem dJ7_copyOf_9075b_31 : decode cJ7_copyOf_9075b 31 = .ok (.aload_n 2, 1) := sdJ7_copyOf_9075b_23.2.2.2.2.1
theorem dJ7_copyOf_9075b_32 : decode cJ7_copyOf_9075b 32 = .ok (.areturn, 1) := sdJ7_copyOf_9075b_23.2.2.2.2.2.1
theorem sdJ7_checkLength_df160_0 : dz_Seg cJ7_checkLength_df160 [(0, .iload_n 1, 1), (1, .iload_n 0, 1), (2, .if_icmp .ge 35, 3), (5, .new 43, 3), (8, .dup, 1), (9, .new 45, 3), (12, .dup, 1), (13, .invokespecial 47, 3)] := dz_sg _ 0 (by decide +kernel)
theorem dJ7_checkLength_df160_0 : decode cJ7_checkLength_df160 0 = .ok (.iload_n 1, 1) := sdJ7_checkLength_df160_0.1
theorem dJ7_checkLength_df160_1 : decode cJ7_checkLength_df160 1 = .ok (.iload_n 0, 1) := sdJ7_checkLength_df160_0.2.1
theorem dJ7_checkLength_df160_2 : decode cJ7_checkLength_df160 2 = .ok (.if_icmp .ge 35, 3) := sdJ7_checkLength_df160_0.2.2.1
theorem dJ7_checkLength_df160_5 : decode cJ7_checkLength_df160 5 = .ok (.new 43, 3) := sdJ7_checkLength_df160_0.2.2.2.1
theorem dJ7_checkLength_df160_8 : decode cJ7_checkLength_df160 8 = .ok (.dup, 1) := sdJ7_checkLength_df160_0.2.2.2.2.1
theorem dJ7_checkLength_df160_9 : decode cJ7_checkLength_df160 9 = .ok (.new 45, 3) := sdJ7_checkLength_df160_0.2.2.2.2.2.1
theorem dJ7_checkLength_df160_12 : decode cJ7_checkLength_df160 12 = .ok (.dup, 1) := sdJ7_checkLength_df160_0.2.2.2.2.2.2.1
theorem dJ7_checkLength_df160_13 : decode cJ7_checkLength_df160 13 = .ok (.invokespecial 47, 3) := sdJ7_checkLength_df160_0.2.2.2.2.2.2.2.1
theorem sdJ7_checkLength_df160_16 : dz_Seg cJ7_checkLength_df160 [(16, .iload_n 0, 1), (17, .invokevirtual 54, 3), (20, .ldc_w 337, 3), (23, .invokevirtual 50, 3), (26, .iload_n 1, 1), (27, .invokevirtual 54, 3), (30, .invokevirtual 61, 3), (33, .invokespecial 65, 3)] := dz_sg _ 16 (by decide +kernel)
theorem dJ7_checkLength_df160_16 : decode cJ7_checkLength_df160 16 = .ok (.iload_n 0, 1) := sdJ7_checkLength_df160_16.1
theorem dJ7_checkLength_df160_17 : decode cJ7_checkLength_df160 17 = .ok (.invokevirtual 54, 3) := sdJ7_checkLength_df160_16.2.1
theorem dJ7_checkLength_df160_20 : decode cJ7_checkLength_df160 20 = .ok (.ldc_w 337, 3) := sdJ7_checkLength_df160_16.2.2.1
theorem dJ7_checkLength_df160_23 : decode cJ7_checkLength_df160 23 = .ok (.invokevirtual 50, 3) := sdJ7_checkLength_df160_16.2.2.2.1
theorem dJ7_checkLength_df160_26 : decode cJ7_checkLength_df160 26 = .ok (.iload_n 1, 1) := sdJ7_checkLength_df160_16.2.2.2.2.1
theorem dJ7_checkLength_df160_27 : decode cJ7_checkLength_df160 27 = .ok (.invokevirtual 54, 3) := sdJ7_checkLength_df160_16.2.2.2.2.2.1
theorem dJ7_checkLength_df160_30 : decode cJ7_checkLength_df160 30 = .ok (.invokevirtual 61, 3) := sdJ7_checkLength_df160_16.2.2.2.2.2.2.1
theorem dJ7_checkLength_df160_33 : decode cJ7_checkLength_df160 33 = .ok (.invokespecial 65, 3) := sdJ7_checkLength_df160_16.2.2.2.2.2.2.2.1
theorem sdJ7_checkLength_df160_36 : dz_Seg cJ7_checkLength_df160 [(36, .athrow, 1), (37, .return_, 1)] := dz_sg _ 36 (by decide +kernel)
theorem dJ7_checkLength_df160_36 : decode cJ7_checkLength_df160 36 = .ok (.athrow, 1) := sdJ7_checkLength_df160_36.1
theorem dJ7_checkLength_df160_37 : decode cJ7_checkLength_df160 37 = .ok (.return_, 1) := sdJ7_checkLength_df160_36.2.1
theorem sdJ7_copyOfRange_39247_0 : dz_Seg cJ7_copyOfRange_39247 [(0, .iload_n 1, 1), (1, .ifCond .ne 9, 3), (4, .iload_n 2, 1), (5, .aload_n 0, 1), (6, .arraylength, 1), (7, .if_icmp .eq 10, 3), (10, .aload_n 0, 1), (11, .iload_n 1, 1)] := dz_sg _ 0 (by decide +kernel)
theorem dJ7_copyOfRange_39247_0 : decode cJ7_copyOfRange_39247 0 = .ok (.iload_n 1, 1) := sdJ7_copyOfRange_39247_0.1
theorem dJ7_copyOfRange_39247_1 : decode cJ7_copyOfRange_39247 1 = .ok (.ifCond .ne 9, 3) := sdJ7_copyOfRange_39247_0.2.1
theorem dJ7_copyOfRange_39247_4 : decode cJ7_copyOfRange_39247 4 = .ok (.iload_n 2, 1) := sdJ7_copyOfRange_39247_0.2.2.1
theorem dJ7_copyOfRange_39247_5 : decode cJ7_copyOfRange_39247 5 = .ok (.aload_n 0, 1) := sdJ7_copyOfRange_39247_0.2.2.2.1
theorem dJ7_copyOfRange_39247_6 : decode cJ7_copyOfRange_39247 6 = .ok (.arraylength, 1) := sdJ7_copyOfRange_39247_0.2.2.2.2.1
theorem dJ7_copyOfRange_39247_7 : decode cJ7_copyOfRange_39247 7 = .ok (.if_icmp .eq 10, 3) := sdJ7_copyOfRange_39247_0.2.2.2.2.2.1
theorem dJ7_copyOfRange_39247_10 : decode cJ7_copyOfRange_39247 10 = .ok (.aload_n 0, 1) := sdJ7_copyOfRange_39247_0.2.2.2.2.2.2.1
theorem dJ7_copyOfRange_39247_11 : decode cJ7_copyOfRange_39247 11 = .ok (.iload_n 1, 1) := sdJ7_copyOfRange_39247_0.2.2.2.2.2.2.2.1
theorem sdJ7_copyOfRange_39247_12 : dz_Seg cJ7_copyOfRange_39247 [(12, .iload_n 2, 1), (13, .invokestatic 339, 3), (16, .areturn, 1), (17, .aload_n 0, 1), (18, .invokevirtual 310, 3), (21, .checkcast 311, 3), (24, .areturn, 1)] := dz_sg _ 12 (by decide +kernel)
theorem dJ7_copyOfRange_39247_12 : decode cJ7_copyOfRange_39247 12 = .ok (.iload_n 2, 1) := sdJ7_copyOfRange_39247_12.1
theorem dJ7_copyOfRange_39247_13 : decode cJ7_copyOfRange_39247 13 = .ok (.invokestatic 339, 3) := sdJ7_copyOfRange_39247_12.2.1
theorem dJ7_copyOfRange_39247_16 : decode cJ7_copyOfRange_39247 16 = .ok (.areturn, 1) := sdJ7_copyOfRange_39247_12.2.2.1
theorem dJ7_copyOfRange_39247_17 : decode cJ7_copyOfRange_39247 17 = .ok (.aload_n 0, 1) := sdJ7_copyOfRange_39247_12.2.2.2.1
theorem dJ7_copyOfRange_39247_18 : decode cJ7_copyOfRange_39247 18 = .ok (.invokevirtual 310, 3) := sdJ7_copyOfRange_39247_12.2.2.2.2.1
theorem dJ7_copyOfRange_39247_21 : decode cJ7_copyOfRange_39247 21 = .ok (.checkcast 311, 3) := sdJ7_copyOfRange_39247_12.2.2.2.2.2.1
theorem dJ7_copyOfRange_39247_24 : decode cJ7_copyOfRange_39247 24 = .ok (.areturn, 1) := sdJ7_copyOfRange_39247_12.2.2.2.2.2.2.1
theorem sdJ7_copyOfRangeByte_39247_0 : dz_Seg cJ7_copyOfRangeByte_39247 [(0, .iload_n 1, 1), (1, .iload_n 2, 1), (2, .invokestatic 343, 3), (5, .iload_n 2, 1), (6, .iload_n 1, 1), (7, .isub, 1), (8, .istore_n 3, 1), (9, .iload_n 3, 1)] := dz_sg _ 0 (by decide +kernel)
theorem dJ7_copyOfRangeByte_39247_0 : decode cJ7_copyOfRangeByte_39247 0 = .ok (.iload_n 1, 1) := sdJ7_copyOfRangeByte_39247_0.1
theorem dJ7_copyOfRangeByte_39247_1 : decode cJ7_copyOfRangeByte_39247 1 = .ok (.iload_n 2, 1) := sdJ7_copyOfRangeByte_39247_0.2.1
theorem dJ7_copyOfRangeByte_39247_2 : decode cJ7_copyOfRangeByte_39247 2 = .ok (.invokestatic 343, 3) := sdJ7_copyOfRangeByte_39247_0.2.2.1
theorem dJ7_copyOfRangeByte_39247_5 : decode cJ7_copyOfRangeByte_39247 5 = .ok (.iload_n 2, 1) := sdJ7_copyOfRangeByte_39247_0.2.2.2.1
theorem dJ7_copyOfRangeByte_39247_6 : decode cJ7_copyOfRangeByte_39247 6 = .ok (.iload_n 1, 1) := sdJ7_copyOfRangeByte_39247_0.2.2.2.2.1
theorem dJ7_copyOfRangeByte_39247_7 : decode cJ7_copyOfRangeByte_39247 7 = .ok (.isub, 1) := sdJ7_copyOfRangeByte_39247_0.2.2.2.2.2.1
theorem dJ7_copyOfRangeByte_39247_8 : decode cJ7_copyOfRangeByte_39247 8 = .ok (.istore_n 3, 1) := sdJ7_copyOfRangeByte_39247_0.2.2.2.2.2.2.1
theorem dJ7_copyOfRangeByte_39247_9 : decode cJ7_copyOfRangeByte_39247 9 = .ok (.iload_n 3, 1) := sdJ7_copyOfRangeByte_39247_0.2.2.2.2.2.2.2.1
theorem sdJ7_copyOfRangeByte_39247_10 : dz_Seg cJ7_copyOfRangeByte_39247 [(10, .newarray .byte, 2), (12, .astore 4, 2), (14, .aload_n 0, 1), (15, .iload_n 1, 1), (16, .aload 4, 2), (18, .iconst 0, 1), (19, .aload_n 0, 1), (20, .arraylength, 1)] := dz_sg _ 10 (by decide +kernel)
theorem dJ7_copyOfRangeByte_39247_10 : decode cJ7_copyOfRangeByte_39247 10 = .ok (.newarray .byte, 2) := sdJ7_copyOfRangeByte_39247_10.1
theorem dJ7_copyOfRangeByte_39247_12 : decode cJ7_copyOfRangeByte_39247 12 = .ok (.astore 4, 2) := sdJ7_copyOfRangeByte_39247_10.2.1
theorem dJ7_copyOfRangeByte_39247_14 : decode cJ7_copyOfRangeByte_39247 14 = .ok (.aload_n 0, 1) := sdJ7_copyOfRangeByte_39247_10.2.2.1
theorem dJ7_copyOfRangeByte_39247_15 : decode cJ7_copyOfRangeByte_39247 15 = .ok (.iload_n 1, 1) := sdJ7_copyOfRangeByte_39247_10.2.2.2.1
theorem dJ7_copyOfRangeByte_39247_16 : decode cJ7_copyOfRangeByte_39247 16 = .ok (.aload 4, 2) := sdJ7_copyOfRangeByte_39247_10.2.2.2.2.1
theorem dJ7_copyOfRangeByte_39247_18 : decode cJ7_copyOfRangeByte_39247 18 = .ok (.iconst 0, 1) := sdJ7_copyOfRangeByte_39247_10.2.2.2.2.2.1
theorem dJ7_copyOfRangeByte_39247_19 : decode cJ7_copyOfRangeByte_39247 19 = .ok (.aload_n 0, 1) := sdJ7_copyOfRangeByte_39247_10.2.2.2.2.2.2.1
theorem dJ7_copyOfRangeByte_39247_20 : decode cJ7_copyOfRangeByte_39247 20 = .ok (.arraylength, 1) := sdJ7_copyOfRangeByte_39247_10.2.2.2.2.2.2.2.1
theorem sdJ7_copyOfRangeByte_39247_21 : dz_Seg cJ7_copyOfRangeByte_39247 [(21, .iload_n 1, 1), (22, .isub, 1), (23, .iload_n 3, 1), (24, .invokestatic 304, 3), (27, .invokestatic 150, 3), (30, .aload 4, 2), (32, .areturn, 1)] := dz_sg _ 21 (by decide +kernel)
theorem dJ7_copyOfRangeByte_39247_21 : decode cJ7_copyOfRangeByte_39247 21 = .ok (.iload_n 1, 1) := sdJ7_copyOfRangeByte_39247_21.1
theorem dJ7_copyOfRangeByte_39247_22 : decode cJ7_copyOfRangeByte_39247 22 = .ok (.isub, 1) := sdJ7_copyOfRangeByte_39247_21.2.1
theorem dJ7_copyOfRangeByte_39247_23 : decode cJ7_copyOfRangeByte_39247 23 = .ok (.iload_n 3, 1) := sdJ7_copyOfRangeByte_39247_21.2.2.1
theorem dJ7_copyOfRangeByte_39247_24 : decode cJ7_copyOfRangeByte_39247 24 = .ok (.invokestatic 304, 3) := sdJ7_copyOfRangeByte_39247_21.2.2.2.1
theorem dJ7_copyOfRangeByte_39247_27 : decode cJ7_copyOfRangeByte_39247 27 = .ok (.invokestatic 150, 3) := sdJ7_copyOfRangeByte_39247_21.2.2.2.2.1
theorem dJ7_copyOfRangeByte_39247_30 : decode cJ7_copyOfRangeByte_39247 30 = .ok (.aload 4, 2) := sdJ7_copyOfRangeByte_39247_21.2.2.2.2.2.1
theorem dJ7_copyOfRangeByte_39247_32 : decode cJ7_copyOfRangeByte_39247 32 = .ok (.areturn, 1) := sdJ7_copyOfRangeByte_39247_21.2.2.2.2.2.2.1
theorem sdJ8_newLength_cabcc_0 : dz_Seg cJ8_newLength_cabcc [(0, .iload_n 0, 1), (1, .iload_n 1, 1), (2, .iload_n 2, 1), (3, .invokestatic 194, 3), (6, .iadd, 1), (7, .istore_n 3, 1), (8, .iconst 0, 1), (9, .iload_n 3, 1)] := dz_sg _ 0 (by decide +kernel)
theorem dJ8_newLength_cabcc_0 : decode cJ8_newLength_cabcc 0 = .ok (.iload_n 0, 1) := sdJ8_newLength_cabcc_0.1
theorem dJ8_newLength_cabcc_1 : decode cJ8_newLength_cabcc 1 = .ok (.iload_n 1, 1) := sdJ8_newLength_cabcc_0.2.1
theorem dJ8_newLength_cabcc_2 : decode cJ8_newLength_cabcc 2 = .ok (.iload_n 2, 1) := sdJ8_newLength_cabcc_0.2.2.1
theorem dJ8_newLength_cabcc_3 : decode cJ8_newLength_cabcc 3 = .ok (.invokestatic 194, 3) := sdJ8_newLength_cabcc_0.2.2.2.1
theorem dJ8_newLength_cabcc_6 : decode cJ8_newLength_cabcc 6 = .ok (.iadd, 1) := sdJ8_newLength_cabcc_0.2.2.2.2.1
theorem dJ8_newLength_cabcc_7 : decode cJ8_newLength_cabcc 7 = .ok (.istore_n 3, 1) := sdJ8_newLength_cabcc_0.2.2.2.2.2.1
theorem dJ8_newLength_cabcc_8 : decode cJ8_newLength_cabcc 8 = .ok (.iconst 0, 1) := sdJ8_newLength_cabcc_0.2.2.2.2.2.2.1
theorem dJ8_newLength_cabcc_9 : decode cJ8_newLength_cabcc 9 = .ok (.iload_n 3, 1) := sdJ8_newLength_cabcc_0.2.2.2.2.2.2.2.1
theorem sdJ8_newLength_cabcc_10 : dz_Seg cJ8_newLength_cabcc [(10, .if_icmp .ge 11, 3), (13, .iload_n 3, 1), (14, .ldc 200, 2), (16, .if_icmp .gt 5, 3), (19, .iload_n 3, 1), (20, .ireturn, 1), (21, .iload_n 0, 1), (22, .iload_n 1, 1)] := dz_sg _ 10 (by decide +kernel)
theorem dJ8_newLength_cabcc_10 : decode cJ8_newLength_cabcc 10 = .ok (.if_icmp .ge 11, 3) := sdJ8_newLength_cabcc_10.1
theorem dJ8_newLength_cabcc_13 : decode cJ8_newLength_cabcc 13 = .ok (.iload_n 3, 1) := sdJ8_newLength_cabcc_10.2.1
theorem dJ8_newLength_cabcc_14 : decode cJ8_newLength_cabcc 14 = .ok (.ldc 200, 2) := sdJ8_newLength_cabcc_10.2.2.1
theorem dJ8_newLength_cabcc_16 : decode cJ8_newLength_cabcc 16 = .ok (.if_icmp .gt 5, 3) := sdJ8_newLength_cabcc_10.2.2.2.1
theorem dJ8_newLength_cabcc_19 : decode cJ8_newLength_cabcc 19 = .ok (.iload_n 3, 1) := sdJ8_newLength_cabcc_10.2.2.2.2.1
theorem dJ8_newLength_cabcc_20 : decode cJ8_newLength_cabcc 20 = .ok (.ireturn, 1) := sdJ8_newLength_cabcc_10.2.2.2.2.2.1
theorem dJ8_newLength_cabcc_21 : decode cJ8_newLength_cabcc 21 = .ok (.iload_n 0, 1) := sdJ8_newLength_cabcc_10.2.2.2.2.2.2.1
theorem dJ8_newLength_cabcc_22 : decode cJ8_newLength_cabcc 22 = .ok (.iload_n 1, 1) := sdJ8_newLength_cabcc_10.2.2.2.2.2.2.2.1
theorem sdJ8_newLength_cabcc_23 : dz_Seg cJ8_newLength_cabcc [(23, .invokestatic 201, 3), (26, .ireturn, 1)] := dz_sg _ 23 (by decide +kernel)
theorem dJ8_newLength_cabcc_23 : decode cJ8_newLength_cabcc 23 = .ok (.invokestatic 201, 3) := sdJ8_newLength_cabcc_23.1
theorem dJ8_newLength_cabcc_26 : decode cJ8_newLength_cabcc 26 = .ok (.ireturn, 1) := sdJ8_newLength_cabcc_23.2.1
theorem sdJ8_hugeLength_7cf53_0 : dz_Seg cJ8_hugeLength_7cf53 [(0, .iload_n 0, 1), (1, .iload_n 1, 1), (2, .iadd, 1), (3, .istore_n 2, 1), (4, .iload_n 2, 1), (5, .ifCond .ge 44, 3), (8, .new 204, 3), (11, .dup, 1)] := dz_sg _ 0 (by decide +kernel)
theorem dJ8_hugeLength_7cf53_0 : decode cJ8_hugeLength_7cf53 0 = .ok (.iload_n 0, 1) := sdJ8_hugeLength_7cf53_0.1
theorem dJ8_hugeLength_7cf53_1 : decode cJ8_hugeLength_7cf53 1 = .ok (.iload_n 1, 1) := sdJ8_hugeLength_7cf53_0.2.1
theorem dJ8_hugeLength_7cf53_2 : decode cJ8_hugeLength_7cf53 2 = .ok (.iadd, 1) := sdJ8_hugeLength_7cf53_0.2.2.1
theorem dJ8_hugeLength_7cf53_3 : decode cJ8_hugeLength_7cf53 3 = .ok (.istore_n 2, 1) := sdJ8_hugeLength_7cf53_0.2.2.2.1
theorem dJ8_hugeLength_7cf53_4 : decode cJ8_hugeLength_7cf53 4 = .ok (.iload_n 2, 1) := sdJ8_hugeLength_7cf53_0.2.2.2.2.1
theorem dJ8_hugeLength_7cf53_5 : decode cJ8_hugeLength_7cf53 5 = .ok (.ifCond .ge 44, 3) := sdJ8_hugeLength_7cf53_0.2.2.2.2.2.1
theorem dJ8_hugeLength_7cf53_8 : decode cJ8_hugeLength_7cf53 8 = .ok (.new 204, 3) := sdJ8_hugeLength_7cf53_0.2.2.2.2.2.2.1
theorem dJ8_hugeLength_7cf53_11 : decode cJ8_hugeLength_7cf53 11 = .ok (.dup, 1) := sdJ8_hugeLength_7cf53_0.2.2.2.2.2.2.2.1
theorem sdJ8_hugeLength_7cf53_12 : dz_Seg cJ8_hugeLength_7cf53 [(12, .new 89, 3), (15, .dup, 1), (16, .invokespecial 91, 3), (19, .ldc 206, 2), (21, .invokevirtual 94, 3), (24, .iload_n 0, 1), (25, .invokevirtual 98, 3), (28, .ldc 208, 2)] := dz_sg _ 12 (by decide +kernel)
theorem dJ8_hugeLength_7cf53_12 : decode cJ8_hugeLength_7cf53 12 = .ok (.new 89, 3) := sdJ8_hugeLength_7cf53_12.1
theorem dJ8_hugeLength_7cf53_15 : decode cJ8_hugeLength_7cf53 15 = .ok (.dup, 1) := sdJ8_hugeLength_7cf53_12.2.1
theorem dJ8_hugeLength_7cf53_16 : decode cJ8_hugeLength_7cf53 16 = .ok (.invokespecial 91, 3) := sdJ8_hugeLength_7cf53_12.2.2.1
theorem dJ8_hugeLength_7cf53_19 : decode cJ8_hugeLength_7cf53 19 = .ok (.ldc 206, 2) := sdJ8_hugeLength_7cf53_12.2.2.2.1
theorem dJ8_hugeLength_7cf53_21 : decode cJ8_hugeLength_7cf53 21 = .ok (.invokevirtual 94, 3) := sdJ8_hugeLength_7cf53_12.2.2.2.2.1
theorem dJ8_hugeLength_7cf53_24 : decode cJ8_hugeLength_7cf53 24 = .ok (.iload_n 0, 1) := sdJ8_hugeLength_7cf53_12.2.2.2.2.2.1
theorem dJ8_hugeLength_7cf53_25 : decode cJ8_hugeLength_7cf53 25 = .ok (.invokevirtual 98, 3) := sdJ8_hugeLength_7cf53_12.2.2.2.2.2.2.1
theorem dJ8_hugeLength_7cf53_28 : decode cJ8_hugeLength_7cf53 28 = .ok (.ldc 208, 2) := sdJ8_hugeLength_7cf53_12.2.2.2.2.2.2.2.1
theorem sdJ8_hugeLength_7cf53_30 : dz_Seg cJ8_hugeLength_7cf53 [(30, .invokevirtual 94, 3), (33, .iload_n 1, 1), (34, .invokevirtual 98, 3), (37, .ldc 210, 2), (39, .invokevirtual 94, 3), (42, .invokevirtual 101, 3), (45, .invokespecial 212, 3), (48, .athrow, 1)] := dz_sg _ 30 (by decide +kernel)
theorem dJ8_hugeLength_7cf53_30 : decode cJ8_hugeLength_7cf53 30 = .ok (.invokevirtual 94, 3) := sdJ8_hugeLength_7cf53_30.1
theorem dJ8_hugeLength_7cf53_33 : decode cJ8_hugeLength_7cf53 33 = .ok (.iload_n 1, 1) := sdJ8_hugeLength_7cf53_30.2.1
theorem dJ8_hugeLength_7cf53_34 : decode cJ8_hugeLength_7cf53 34 = .ok (.invokevirtual 98, 3) := sdJ8_hugeLength_7cf53_30.2.2.1
theorem dJ8_hugeLength_7cf53_37 : decode cJ8_hugeLength_7cf53 37 = .ok (.ldc 210, 2) := sdJ8_hugeLength_7cf53_30.2.2.2.1
theorem dJ8_hugeLength_7cf53_39 : decode cJ8_hugeLength_7cf53 39 = .ok (.invokevirtual 94, 3) := sdJ8_hugeLength_7cf53_30.2.2.2.2.1
theorem dJ8_hugeLength_7cf53_42 : decode cJ8_hugeLength_7cf53 42 = .ok (.invokevirtual 101, 3) := sdJ8_hugeLength_7cf53_30.2.2.2.2.2.1
theorem dJ8_hugeLength_7cf53_45 : decode cJ8_hugeLength_7cf53 45 = .ok (.invokespecial 212, 3) := sdJ8_hugeLength_7cf53_30.2.2.2.2.2.2.1
theorem dJ8_hugeLength_7cf53_48 : decode cJ8_hugeLength_7cf53 48 = .ok (.athrow, 1) := sdJ8_hugeLength_7cf53_30.2.2.2.2.2.2.2.1
theorem sdJ8_hugeLength_7cf53_49 : dz_Seg cJ8_hugeLength_7cf53 [(49, .iload_n 2, 1), (50, .ldc 200, 2), (52, .if_icmp .gt 6, 3), (55, .ldc 200, 2), (57, .ireturn, 1), (58, .iload_n 2, 1), (59, .ireturn, 1)] := dz_sg _ 49 (by decide +kernel)
theorem dJ8_hugeLength_7cf53_49 : decode cJ8_hugeLength_7cf53 49 = .ok (.iload_n 2, 1) := sdJ8_hugeLength_7cf53_49.1
theorem dJ8_hugeLength_7cf53_50 : decode cJ8_hugeLength_7cf53 50 = .ok (.ldc 200, 2) := sdJ8_hugeLength_7cf53_49.2.1
theorem dJ8_hugeLength_7cf53_52 : decode cJ8_hugeLength_7cf53 52 = .ok (.if_icmp .gt 6, 3) := sdJ8_hugeLength_7cf53_49.2.2.1
theorem dJ8_hugeLength_7cf53_55 : decode cJ8_hugeLength_7cf53 55 = .ok (.ldc 200, 2) := sdJ8_hugeLength_7cf53_49.2.2.2.1
theorem dJ8_hugeLength_7cf53_57 : decode cJ8_hugeLength_7cf53 57 = .ok (.ireturn, 1) := sdJ8_hugeLength_7cf53_49.2.2.2.2.1
theorem dJ8_hugeLength_7cf53_58 : decode cJ8_hugeLength_7cf53 58 = .ok (.iload_n 2, 1) := sdJ8_hugeLength_7cf53_49.2.2.2.2.2.1
theorem dJ8_hugeLength_7cf53_59 : decode cJ8_hugeLength_7cf53 59 = .ok (.ireturn, 1) := sdJ8_hugeLength_7cf53_49.2.2.2.2.2.2.1
theorem sdJ3_checkIndex_8e157_0 : dz_Seg cJ3_checkIndex_8e157 [(0, .iload_n 0, 1), (1, .ifCond .lt 8, 3), (4, .iload_n 0, 1), (5, .iload_n 1, 1), (6, .if_icmp .lt 10, 3), (9, .aload_n 2, 1), (10, .iload_n 0, 1), (11, .iload_n 1, 1)] := dz_sg _ 0 (by decide +kernel)
theorem dJ3_checkIndex_8e157_0 : decode cJ3_checkIndex_8e157 0 = .ok (.iload_n 0, 1) := sdJ3_checkIndex_8e157_0.1
theorem dJ3_checkIndex_8e157_1 : decode cJ3_checkIndex_8e157 1 = .ok (.ifCond .lt 8, 3) := sdJ3_checkIndex_8e157_0.2.1
theorem dJ3_checkIndex_8e157_4 : decode cJ3_checkIndex_8e157 4 = .ok (.iload_n 0, 1) := sdJ3_checkIndex_8e157_0.2.2.1
theorem dJ3_checkIndex_8e157_5 : decode cJ3_checkIndex_8e157 5 = .ok (.iload_n 1, 1) := sdJ3_checkIndex_8e157_0.2.2.2.1
theorem dJ3_checkIndex_8e157_6 : decode cJ3_checkIndex_8e157 6 = .ok (.if_icmp .lt 10, 3) := sdJ3_checkIndex_8e157_0.2.2.2.2.1
theorem dJ3_checkIndex_8e157_9 : decode cJ3_checkIndex_8e157 9 = .ok (.aload_n 2, 1) := sdJ3_checkIndex_8e157_0.2.2.2.2.2.1
theorem dJ3_checkIndex_8e157_10 : decode cJ3_checkIndex_8e157 10 = .ok (.iload_n 0, 1) := sdJ3_checkIndex_8e157_0.2.2.2.2.2.2.1
theorem dJ3_checkIndex_8e157_11 : decode cJ3_checkIndex_8e157 11 = .ok (.iload_n 1, 1) := sdJ3_checkIndex_8e157_0.2.2.2.2.2.2.2.1
theorem sdJ3_checkIndex_8e157_12 : dz_Seg cJ3_checkIndex_8e157 [(12, .invokestatic 95, 3), (15, .athrow, 1), (16, .iload_n 0, 1), (17, .ireturn, 1)] := dz_sg _ 12 (by decide +kernel)
theorem dJ3_checkIndex_8e157_12 : decode cJ3_checkIndex_8e157 12 = .ok (.invokestatic 95, 3) := sdJ3_checkIndex_8e157_12.1
theorem dJ3_checkIndex_8e157_15 : decode cJ3_checkIndex_8e157 15 = .ok (.athrow, 1) := sdJ3_checkIndex_8e157_12.2.1
theorem dJ3_checkIndex_8e157_16 : decode cJ3_checkIndex_8e157 16 = .ok (.iload_n 0, 1) := sdJ3_checkIndex_8e157_12.2.2.1
theorem dJ3_checkIndex_8e157_17 : decode cJ3_checkIndex_8e157 17 = .ok (.ireturn, 1) := sdJ3_checkIndex_8e157_12.2.2.2.1
theorem sdJ3_checkFromToIndex_8c36e_0 : dz_Seg cJ3_checkFromToIndex_8c36e [(0, .iload_n 0, 1), (1, .ifCond .lt 13, 3), (4, .iload_n 0, 1), (5, .iload_n 1, 1), (6, .if_icmp .gt 8, 3), (9, .iload_n 1, 1), (10, .iload_n 2, 1), (11, .if_icmp .le 11, 3)] := dz_sg _ 0 (by decide +kernel)
theorem dJ3_checkFromToIndex_8c36e_0 : decode cJ3_checkFromToIndex_8c36e 0 = .ok (.iload_n 0, 1) := sdJ3_checkFromToIndex_8c36e_0.1
theorem dJ3_checkFromToIndex_8c36e_1 : decode cJ3_checkFromToIndex_8c36e 1 = .ok (.ifCond .lt 13, 3) := sdJ3_checkFromToIndex_8c36e_0.2.1
theorem dJ3_checkFromToIndex_8c36e_4 : decode cJ3_checkFromToIndex_8c36e 4 = .ok (.iload_n 0, 1) := sdJ3_checkFromToIndex_8c36e_0.2.2.1
theorem dJ3_checkFromToIndex_8c36e_5 : decode cJ3_checkFromToIndex_8c36e 5 = .ok (.iload_n 1, 1) := sdJ3_checkFromToIndex_8c36e_0.2.2.2.1
theorem dJ3_checkFromToIndex_8c36e_6 : decode cJ3_checkFromToIndex_8c36e 6 = .ok (.if_icmp .gt 8, 3) := sdJ3_checkFromToIndex_8c36e_0.2.2.2.2.1
theorem dJ3_checkFromToIndex_8c36e_9 : decode cJ3_checkFromToIndex_8c36e 9 = .ok (.iload_n 1, 1) := sdJ3_checkFromToIndex_8c36e_0.2.2.2.2.2.1
theorem dJ3_checkFromToIndex_8c36e_10 : decode cJ3_checkFromToIndex_8c36e 10 = .ok (.iload_n 2, 1) := sdJ3_checkFromToIndex_8c36e_0.2.2.2.2.2.2.1
theorem dJ3_checkFromToIndex_8c36e_11 : decode cJ3_checkFromToIndex_8c36e 11 = .ok (.if_icmp .le 11, 3) := sdJ3_checkFromToIndex_8c36e_0.2.2.2.2.2.2.2.1
theorem sdJ3_checkFromToIndex_8c36e_14 : dz_Seg cJ3_checkFromToIndex_8c36e [(14, .aload_n 3, 1), (15, .iload_n 0, 1), (16, .iload_n 1, 1), (17, .iload_n 2, 1), (18, .invokestatic 99, 3), (21, .athrow, 1), (22, .iload_n 0, 1), (23, .ireturn, 1)] := dz_sg _ 14 (by decide +kernel)
theorem dJ3_checkFromToIndex_8c36e_14 : decode cJ3_checkFromToIndex_8c36e 14 = .ok (.aload_n 3, 1) := sdJ3_checkFromToIndex_8c36e_14.1
theorem dJ3_checkFromToIndex_8c36e_15 : decode cJ3_checkFromToIndex_8c36e 15 = .ok (.iload_n 0, 1) := sdJ3_checkFromToIndex_8c36e_14.2.1
theorem dJ3_checkFromToIndex_8c36e_16 : decode cJ3_checkFromToIndex_8c36e 16 = .ok (.iload_n 1, 1) := sdJ3_checkFromToIndex_8c36e_14.2.2.1
theorem dJ3_checkFromToIndex_8c36e_17 : decode cJ3_checkFromToIndex_8c36e 17 = .ok (.iload_n 2, 1) := sdJ3_checkFromToIndex_8c36e_14.2.2.2.1
theorem dJ3_checkFromToIndex_8c36e_18 : decode cJ3_checkFromToIndex_8c36e 18 = .ok (.invokestatic 99, 3) := sdJ3_checkFromToIndex_8c36e_14.2.2.2.2.1
theorem dJ3_checkFromToIndex_8c36e_21 : decode cJ3_checkFromToIndex_8c36e 21 = .ok (.athrow, 1) := sdJ3_checkFromToIndex_8c36e_14.2.2.2.2.2.1
theorem dJ3_checkFromToIndex_8c36e_22 : decode cJ3_checkFromToIndex_8c36e 22 = .ok (.iload_n 0, 1) := sdJ3_checkFromToIndex_8c36e_14.2.2.2.2.2.2.1
theorem dJ3_checkFromToIndex_8c36e_23 : decode cJ3_checkFromToIndex_8c36e 23 = .ok (.ireturn, 1) := sdJ3_checkFromToIndex_8c36e_14.2.2.2.2.2.2.2.1
theorem sdJ3_checkFromIndexSize_8c36e_0 : dz_Seg cJ3_checkFromIndexSize_8c36e [(0, .iload_n 2, 1), (1, .iload_n 0, 1), (2, .ior, 1), (3, .iload_n 1, 1), (4, .ior, 1), (5, .ifCond .lt 10, 3), (8, .iload_n 1, 1), (9, .iload_n 2, 1)] := dz_sg _ 0 (by decide +kernel)
theorem dJ3_checkFromIndexSize_8c36e_0 : decode cJ3_checkFromIndexSize_8c36e 0 = .ok (.iload_n 2, 1) := sdJ3_checkFromIndexSize_8c36e_0.1
theorem dJ3_checkFromIndexSize_8c36e_1 : decode cJ3_checkFromIndexSize_8c36e 1 = .ok (.iload_n 0, 1) := sdJ3_checkFromIndexSize_8c36e_0.2.1
theorem dJ3_checkFromIndexSize_8c36e_2 : decode cJ3_checkFromIndexSize_8c36e 2 = .ok (.ior, 1) := sdJ3_checkFromIndexSize_8c36e_0.2.2.1
theorem dJ3_checkFromIndexSize_8c36e_3 : decode cJ3_checkFromIndexSize_8c36e 3 = .ok (.iload_n 1, 1) := sdJ3_checkFromIndexSize_8c36e_0.2.2.2.1
theorem dJ3_checkFromIndexSize_8c36e_4 : decode cJ3_checkFromIndexSize_8c36e 4 = .ok (.ior, 1) := sdJ3_checkFromIndexSize_8c36e_0.2.2.2.2.1
theorem dJ3_checkFromIndexSize_8c36e_5 : decode cJ3_checkFromIndexSize_8c36e 5 = .ok (.ifCond .lt 10, 3) := sdJ3_checkFromIndexSize_8c36e_0.2.2.2.2.2.1
theorem dJ3_checkFromIndexSize_8c36e_8 : decode cJ3_checkFromIndexSize_8c36e 8 = .ok (.iload_n 1, 1) := sdJ3_checkFromIndexSize_8c36e_0.2.2.2.2.2.2.1
theorem dJ3_checkFromIndexSize_8c36e_9 : decode cJ3_checkFromIndexSize_8c36e 9 = .ok (.iload_n 2, 1) := sdJ3_checkFromIndexSize_8c36e_0.2.2.2.2.2.2.2.1
theorem sdJ3_checkFromIndexSize_8c36e_10 : dz_Seg cJ3_checkFromIndexSize_8c36e [(10, .iload_n 0, 1), (11, .isub, 1), (12, .if_icmp .le 11, 3), (15, .aload_n 3, 1), (16, .iload_n 0, 1), (17, .iload_n 1, 1), (18, .iload_n 2, 1), (19, .invokestatic 103, 3)] := dz_sg _ 10 (by decide +kernel)
theorem dJ3_checkFromIndexSize_8c36e_10 : decode cJ3_checkFromIndexSize_8c36e 10 = .ok (.iload_n 0, 1) := sdJ3_checkFromIndexSize_8c36e_10.1
theorem dJ3_checkFromIndexSize_8c36e_11 : decode cJ3_checkFromIndexSize_8c36e 11 = .ok (.isub, 1) := sdJ3_checkFromIndexSize_8c36e_10.2.1
theorem dJ3_checkFromIndexSize_8c36e_12 : decode cJ3_checkFromIndexSize_8c36e 12 = .ok (.if_icmp .le 11, 3) := sdJ3_checkFromIndexSize_8c36e_10.2.2.1
theorem dJ3_checkFromIndexSize_8c36e_15 : decode cJ3_checkFromIndexSize_8c36e 15 = .ok (.aload_n 3, 1) := sdJ3_checkFromIndexSize_8c36e_10.2.2.2.1
theorem dJ3_checkFromIndexSize_8c36e_16 : decode cJ3_checkFromIndexSize_8c36e 16 = .ok (.iload_n 0, 1) := sdJ3_checkFromIndexSize_8c36e_10.2.2.2.2.1
theorem dJ3_checkFromIndexSize_8c36e_17 : decode cJ3_checkFromIndexSize_8c36e 17 = .ok (.iload_n 1, 1) := sdJ3_checkFromIndexSize_8c36e_10.2.2.2.2.2.1
theorem dJ3_checkFromIndexSize_8c36e_18 : decode cJ3_checkFromIndexSize_8c36e 18 = .ok (.iload_n 2, 1) := sdJ3_checkFromIndexSize_8c36e_10.2.2.2.2.2.2.1
theorem dJ3_checkFromIndexSize_8c36e_19 : decode cJ3_checkFromIndexSize_8c36e 19 = .ok (.invokestatic 103, 3) := sdJ3_checkFromIndexSize_8c36e_10.2.2.2.2.2.2.2.1
theorem sdJ3_checkFromIndexSize_8c36e_22 : dz_Seg cJ3_checkFromIndexSize_8c36e [(22, .athrow, 1), (23, .iload_n 0, 1), (24, .ireturn, 1)] := dz_sg _ 22 (by decide +kernel)
theorem dJ3_checkFromIndexSize_8c36e_22 : decode cJ3_checkFromIndexSize_8c36e 22 = .ok (.athrow, 1) := sdJ3_checkFromIndexSize_8c36e_22.1
theorem dJ3_checkFromIndexSize_8c36e_23 : decode cJ3_checkFromIndexSize_8c36e 23 = .ok (.iload_n 0, 1) := sdJ3_checkFromIndexSize_8c36e_22.2.1
theorem dJ3_checkFromIndexSize_8c36e_24 : decode cJ3_checkFromIndexSize_8c36e 24 = .ok (.ireturn, 1) := sdJ3_checkFromIndexSize_8c36e_22.2.2.1
theorem sdL_init_0 : dz_Seg cL_init [(0, .aload_n 0, 1), (1, .invokespecial 1, 3), (4, .aload_n 0, 1), (5, .iconst 0, 1), (6, .newarray .int, 2), (8, .putfield 7, 3), (11, .aload_n 0, 1), (12, .bipush 8, 2)] := dz_sg _ 0 (by decide +kernel)
theorem dL_init_0 : decode cL_init 0 = .ok (.aload_n 0, 1) := sdL_init_0.1
theorem dL_init_1 : decode cL_init 1 = .ok (.invokespecial 1, 3) := sdL_init_0.2.1
theorem dL_init_4 : decode cL_init 4 = .ok (.aload_n 0, 1) := sdL_init_0.2.2.1
theorem dL_init_5 : decode cL_init 5 = .ok (.iconst 0, 1) := sdL_init_0.2.2.2.1
theorem dL_init_6 : decode cL_init 6 = .ok (.newarray .int, 2) := sdL_init_0.2.2.2.2.1
theorem dL_init_8 : decode cL_init 8 = .ok (.putfield 7, 3) := sdL_init_0.2.2.2.2.2.1
theorem dL_init_11 : decode cL_init 11 = .ok (.aload_n 0, 1) := sdL_init_0.2.2.2.2.2.2.1
theorem dL_init_12 : decode cL_init 12 = .ok (.bipush 8, 2) := sdL_init_0.2.2.2.2.2.2.2.1
theorem sdL_init_14 : dz_Seg cL_init [(14, .newarray .int, 2), (16, .putfield 13, 3), (19, .aload_n 0, 1), (20, .bipush 8, 2), (22, .newarray .int, 2), (24, .putfield 16, 3), (27, .aload_n 0, 1), (28, .bipush 8, 2)] := dz_sg _ 14 (by decide +kernel)
theorem dL_init_14 : decode cL_init 14 = .ok (.newarray .int, 2) := sdL_init_14.1
theorem dL_init_16 : decode cL_init 16 = .ok (.putfield 13, 3) := sdL_init_14.2.1
theorem dL_init_19 : decode cL_init 19 = .ok (.aload_n 0, 1) := sdL_init_14.2.2.1
theorem dL_init_20 : decode cL_init 20 = .ok (.bipush 8, 2) := sdL_init_14.2.2.2.1
theorem dL_init_22 : decode cL_init 22 = .ok (.newarray .int, 2) := sdL_init_14.2.2.2.2.1
theorem dL_init_24 : decode cL_init 24 = .ok (.putfield 16, 3) := sdL_init_14.2.2.2.2.2.1
theorem dL_init_27 : decode cL_init 27 = .ok (.aload_n 0, 1) := sdL_init_14.2.2.2.2.2.2.1
theorem dL_init_28 : decode cL_init 28 = .ok (.bipush 8, 2) := sdL_init_14.2.2.2.2.2.2.2.1
theorem sdL_init_30 : dz_Seg cL_init [(30, .newarray .int, 2), (32, .putfield 19, 3), (35, .return_, 1)] := dz_sg _ 30 (by decide +kernel)
theorem dL_init_30 : decode cL_init 30 = .ok (.newarray .int, 2) := sdL_init_30.1
theorem dL_init_32 : decode cL_init 32 = .ok (.putfield 19, 3) := sdL_init_30.2.1
theorem dL_init_35 : decode cL_init 35 = .ok (.return_, 1) := sdL_init_30.2.2.1
theorem sdL_among_0 : dz_Seg cL_among [(0, .iload_n 0, 1), (1, .iload_n 1, 1), (2, .irem, 1), (3, .istore_n 2, 1), (4, .iload_n 2, 1), (5, .ifCond .ge 9, 3), (8, .iload_n 2, 1), (9, .iload_n 1, 1)] := dz_sg _ 0 (by decide +kernel)
theorem dL_among_0 : decode cL_among 0 = .ok (.iload_n 0, 1) := sdL_among_0.1
theorem dL_among_1 : decode cL_among 1 = .ok (.iload_n 1, 1) := sdL_among_0.2.1
theorem dL_among_2 : decode cL_among 2 = .ok (.irem, 1) := sdL_among_0.2.2.1
theorem dL_among_3 : decode cL_among 3 = .ok (.istore_n 2, 1) := sdL_among_0.2.2.2.1
theorem dL_among_4 : decode cL_among 4 = .ok (.iload_n 2, 1) := sdL_among_0.2.2.2.2.1
theorem dL_among_5 : decode cL_among 5 = .ok (.ifCond .ge 9, 3) := sdL_among_0.2.2.2.2.2.1
theorem dL_among_8 : decode cL_among 8 = .ok (.iload_n 2, 1) := sdL_among_0.2.2.2.2.2.2.1
theorem dL_among_9 : decode cL_among 9 = .ok (.iload_n 1, 1) := sdL_among_0.2.2.2.2.2.2.2.1
theorem sdL_among_10 : dz_Seg cL_among [(10, .iadd, 1), (11, .goto 4, 3), (14, .iload_n 2, 1), (15, .ireturn, 1)] := dz_sg _ 10 (by decide +kernel)
theorem dL_among_10 : decode cL_among 10 = .ok (.iadd, 1) := sdL_among_10.1
theorem dL_among_11 : decode cL_among 11 = .ok (.goto 4, 3) := sdL_among_10.2.1
theorem dL_among_14 : decode cL_among 14 = .ok (.iload_n 2, 1) := sdL_among_10.2.2.1
theorem dL_among_15 : decode cL_among 15 = .ok (.ireturn, 1) := sdL_among_10.2.2.2.1
theorem sdL_cell_0 : dz_Seg cL_cell [(0, .iload_n 1, 1), (1, .aload_n 0, 1), (2, .arraylength, 1), (3, .if_icmp .ge 9, 3), (6, .aload_n 0, 1), (7, .iload_n 1, 1), (8, .iaload, 1), (9, .goto 10, 3)] := dz_sg _ 0 (by decide +kernel)
theorem dL_cell_0 : decode cL_cell 0 = .ok (.iload_n 1, 1) := sdL_cell_0.1
theorem dL_cell_1 : decode cL_cell 1 = .ok (.aload_n 0, 1) := sdL_cell_0.2.1
theorem dL_cell_2 : decode cL_cell 2 = .ok (.arraylength, 1) := sdL_cell_0.2.2.1
theorem dL_cell_3 : decode cL_cell 3 = .ok (.if_icmp .ge 9, 3) := sdL_cell_0.2.2.2.1
theorem dL_cell_6 : decode cL_cell 6 = .ok (.aload_n 0, 1) := sdL_cell_0.2.2.2.2.1
theorem dL_cell_7 : decode cL_cell 7 = .ok (.iload_n 1, 1) := sdL_cell_0.2.2.2.2.2.1
theorem dL_cell_8 : decode cL_cell 8 = .ok (.iaload, 1) := sdL_cell_0.2.2.2.2.2.2.1
theorem dL_cell_9 : decode cL_cell 9 = .ok (.goto 10, 3) := sdL_cell_0.2.2.2.2.2.2.2.1
theorem sdL_cell_12 : dz_Seg cL_cell [(12, .sipush 7919, 3), (15, .iload_n 1, 1), (16, .imul, 1), (17, .iconst 5, 1), (18, .iadd, 1), (19, .ireturn, 1)] := dz_sg _ 12 (by decide +kernel)
theorem dL_cell_12 : decode cL_cell 12 = .ok (.sipush 7919, 3) := sdL_cell_12.1
theorem dL_cell_15 : decode cL_cell 15 = .ok (.iload_n 1, 1) := sdL_cell_12.2.1
theorem dL_cell_16 : decode cL_cell 16 = .ok (.imul, 1) := sdL_cell_12.2.2.1
theorem dL_cell_17 : decode cL_cell 17 = .ok (.iconst 5, 1) := sdL_cell_12.2.2.2.1
theorem dL_cell_18 : decode cL_cell 18 = .ok (.iadd, 1) := sdL_cell_12.2.2.2.2.1
theorem dL_cell_19 : decode cL_cell 19 = .ok (.ireturn, 1) := sdL_cell_12.2.2.2.2.2.1
theorem sdL_four_0 : dz_Seg cL_four [(0, .iconst 0, 1), (1, .istore_n 2, 1), (2, .iload_n 1, 1), (3, .istore_n 3, 1), (4, .iload_n 3, 1), (5, .iload_n 1, 1), (6, .iconst 4, 1), (7, .iadd, 1)] := dz_sg _ 0 (by decide +kernel)
theorem dL_four_0 : decode cL_four 0 = .ok (.iconst 0, 1) := sdL_four_0.1
theorem dL_four_1 : decode cL_four 1 = .ok (.istore_n 2, 1) := sdL_four_0.2.1
theorem dL_four_2 : decode cL_four 2 = .ok (.iload_n 1, 1) := sdL_four_0.2.2.1
theorem dL_four_3 : decode cL_four 3 = .ok (.istore_n 3, 1) := sdL_four_0.2.2.2.1
theorem dL_four_4 : decode cL_four 4 = .ok (.iload_n 3, 1) := sdL_four_0.2.2.2.2.1
theorem dL_four_5 : decode cL_four 5 = .ok (.iload_n 1, 1) := sdL_four_0.2.2.2.2.2.1
theorem dL_four_6 : decode cL_four 6 = .ok (.iconst 4, 1) := sdL_four_0.2.2.2.2.2.2.1
theorem dL_four_7 : decode cL_four 7 = .ok (.iadd, 1) := sdL_four_0.2.2.2.2.2.2.2.1
theorem sdL_four_8 : dz_Seg cL_four [(8, .if_icmp .ge 33, 3), (11, .iload_n 2, 1), (12, .bipush 8, 2), (14, .ishl, 1), (15, .iload_n 3, 1), (16, .aload_n 0, 1), (17, .invokevirtual 22, 3), (20, .if_icmp .ge 11, 3)] := dz_sg _ 8 (by decide +kernel)
theorem dL_four_8 : decode cL_four 8 = .ok (.if_icmp .ge 33, 3) := sdL_four_8.1
theorem dL_four_11 : decode cL_four 11 = .ok (.iload_n 2, 1) := sdL_four_8.2.1
theorem dL_four_12 : decode cL_four 12 = .ok (.bipush 8, 2) := sdL_four_8.2.2.1
theorem dL_four_14 : decode cL_four 14 = .ok (.ishl, 1) := sdL_four_8.2.2.2.1
theorem dL_four_15 : decode cL_four 15 = .ok (.iload_n 3, 1) := sdL_four_8.2.2.2.2.1
theorem dL_four_16 : decode cL_four 16 = .ok (.aload_n 0, 1) := sdL_four_8.2.2.2.2.2.1
theorem dL_four_17 : decode cL_four 17 = .ok (.invokevirtual 22, 3) := sdL_four_8.2.2.2.2.2.2.1
theorem dL_four_20 : decode cL_four 20 = .ok (.if_icmp .ge 11, 3) := sdL_four_8.2.2.2.2.2.2.2.1
theorem sdL_four_23 : dz_Seg cL_four [(23, .aload_n 0, 1), (24, .iload_n 3, 1), (25, .invokevirtual 28, 3), (28, .goto 5, 3), (31, .bipush 32, 2), (33, .ior, 1), (34, .istore_n 2, 1), (35, .iinc 3 1, 3)] := dz_sg _ 23 (by decide +kernel)
theorem dL_four_23 : decode cL_four 23 = .ok (.aload_n 0, 1) := sdL_four_23.1
theorem dL_four_24 : decode cL_four 24 = .ok (.iload_n 3, 1) := sdL_four_23.2.1
theorem dL_four_25 : decode cL_four 25 = .ok (.invokevirtual 28, 3) := sdL_four_23.2.2.1
theorem dL_four_28 : decode cL_four 28 = .ok (.goto 5, 3) := sdL_four_23.2.2.2.1
theorem dL_four_31 : decode cL_four 31 = .ok (.bipush 32, 2) := sdL_four_23.2.2.2.2.1
theorem dL_four_33 : decode cL_four 33 = .ok (.ior, 1) := sdL_four_23.2.2.2.2.2.1
theorem dL_four_34 : decode cL_four 34 = .ok (.istore_n 2, 1) := sdL_four_23.2.2.2.2.2.2.1
theorem dL_four_35 : decode cL_four 35 = .ok (.iinc 3 1, 3) := sdL_four_23.2.2.2.2.2.2.2.1
theorem sdL_four_38 : dz_Seg cL_four [(38, .goto (-34), 3), (41, .iload_n 2, 1), (42, .ireturn, 1)] := dz_sg _ 38 (by decide +kernel)
theorem dL_four_38 : decode cL_four 38 = .ok (.goto (-34), 3) := sdL_four_38.1
theorem dL_four_41 : decode cL_four 41 = .ok (.iload_n 2, 1) := sdL_four_38.2.1
theorem dL_four_42 : decode cL_four 42 = .ok (.ireturn, 1) := sdL_four_38.2.2.1
theorem sdL_load_0 : dz_Seg cL_load [(0, .iconst 0, 1), (1, .istore_n 2, 1), (2, .iload_n 2, 1), (3, .aload_n 1, 1), (4, .invokevirtual 22, 3), (7, .if_icmp .ge 50, 3), (10, .aload_n 0, 1), (11, .aload_n 1, 1)] := dz_sg _ 0 (by decide +kernel)
theorem dL_load_0 : decode cL_load 0 = .ok (.iconst 0, 1) := sdL_load_0.1
theorem dL_load_1 : decode cL_load 1 = .ok (.istore_n 2, 1) := sdL_load_0.2.1
theorem dL_load_2 : decode cL_load 2 = .ok (.iload_n 2, 1) := sdL_load_0.2.2.1
theorem dL_load_3 : decode cL_load 3 = .ok (.aload_n 1, 1) := sdL_load_0.2.2.2.1
theorem dL_load_4 : decode cL_load 4 = .ok (.invokevirtual 22, 3) := sdL_load_0.2.2.2.2.1
theorem dL_load_7 : decode cL_load 7 = .ok (.if_icmp .ge 50, 3) := sdL_load_0.2.2.2.2.2.1
theorem dL_load_10 : decode cL_load 10 = .ok (.aload_n 0, 1) := sdL_load_0.2.2.2.2.2.2.1
theorem dL_load_11 : decode cL_load 11 = .ok (.aload_n 1, 1) := sdL_load_0.2.2.2.2.2.2.2.1
theorem sdL_load_12 : dz_Seg cL_load [(12, .iload_n 2, 1), (13, .invokestatic 32, 3), (16, .aload_n 1, 1), (17, .iload_n 2, 1), (18, .iconst 4, 1), (19, .iadd, 1), (20, .invokestatic 32, 3), (23, .aload_n 1, 1)] := dz_sg _ 12 (by decide +kernel)
theorem dL_load_12 : decode cL_load 12 = .ok (.iload_n 2, 1) := sdL_load_12.1
theorem dL_load_13 : decode cL_load 13 = .ok (.invokestatic 32, 3) := sdL_load_12.2.1
theorem dL_load_16 : decode cL_load 16 = .ok (.aload_n 1, 1) := sdL_load_12.2.2.1
theorem dL_load_17 : decode cL_load 17 = .ok (.iload_n 2, 1) := sdL_load_12.2.2.2.1
theorem dL_load_18 : decode cL_load 18 = .ok (.iconst 4, 1) := sdL_load_12.2.2.2.2.1
theorem dL_load_19 : decode cL_load 19 = .ok (.iadd, 1) := sdL_load_12.2.2.2.2.2.1
theorem dL_load_20 : decode cL_load 20 = .ok (.invokestatic 32, 3) := sdL_load_12.2.2.2.2.2.2.1
theorem dL_load_23 : decode cL_load 23 = .ok (.aload_n 1, 1) := sdL_load_12.2.2.2.2.2.2.2.1
theorem sdL_load_24 : dz_Seg cL_load [(24, .iload_n 2, 1), (25, .bipush 8, 2), (27, .iadd, 1), (28, .invokestatic 32, 3), (31, .aload_n 1, 1), (32, .iload_n 2, 1), (33, .bipush 12, 2), (35, .iadd, 1)] := dz_sg _ 24 (by decide +kernel)
theorem dL_load_24 : decode cL_load 24 = .ok (.iload_n 2, 1) := sdL_load_24.1
theorem dL_load_25 : decode cL_load 25 = .ok (.bipush 8, 2) := sdL_load_24.2.1
theorem dL_load_27 : decode cL_load 27 = .ok (.iadd, 1) := sdL_load_24.2.2.1
theorem dL_load_28 : decode cL_load 28 = .ok (.invokestatic 32, 3) := sdL_load_24.2.2.2.1
theorem dL_load_31 : decode cL_load 31 = .ok (.aload_n 1, 1) := sdL_load_24.2.2.2.2.1
theorem dL_load_32 : decode cL_load 32 = .ok (.iload_n 2, 1) := sdL_load_24.2.2.2.2.2.1
theorem dL_load_33 : decode cL_load 33 = .ok (.bipush 12, 2) := sdL_load_24.2.2.2.2.2.2.1
theorem dL_load_35 : decode cL_load 35 = .ok (.iadd, 1) := sdL_load_24.2.2.2.2.2.2.2.1
theorem sdL_load_36 : dz_Seg cL_load [(36, .invokestatic 32, 3), (39, .aload_n 1, 1), (40, .iload_n 2, 1), (41, .bipush 16, 2), (43, .iadd, 1), (44, .invokestatic 32, 3), (47, .invokevirtual 36, 3), (50, .pop, 1)] := dz_sg _ 36 (by decide +kernel)
theorem dL_load_36 : decode cL_load 36 = .ok (.invokestatic 32, 3) := sdL_load_36.1
theorem dL_load_39 : decode cL_load 39 = .ok (.aload_n 1, 1) := sdL_load_36.2.1
theorem dL_load_40 : decode cL_load 40 = .ok (.iload_n 2, 1) := sdL_load_36.2.2.1
theorem dL_load_41 : decode cL_load 41 = .ok (.bipush 16, 2) := sdL_load_36.2.2.2.1
theorem dL_load_43 : decode cL_load 43 = .ok (.iadd, 1) := sdL_load_36.2.2.2.2.1
theorem dL_load_44 : decode cL_load 44 = .ok (.invokestatic 32, 3) := sdL_load_36.2.2.2.2.2.1
theorem dL_load_47 : decode cL_load 47 = .ok (.invokevirtual 36, 3) := sdL_load_36.2.2.2.2.2.2.1
theorem dL_load_50 : decode cL_load 50 = .ok (.pop, 1) := sdL_load_36.2.2.2.2.2.2.2.1
theorem sdL_load_51 : dz_Seg cL_load [(51, .iinc 2 20, 3), (54, .goto (-52), 3), (57, .aload_n 0, 1), (58, .aload_n 1, 1), (59, .invokevirtual 22, 3), (62, .invokevirtual 42, 3), (65, .ireturn, 1)] := dz_sg _ 51 (by decide +kernel)
theorem dL_load_51 : decode cL_load 51 = .ok (.iinc 2 20, 3) := sdL_load_51.1
theorem dL_load_54 : decode cL_load 54 = .ok (.goto (-52), 3) := sdL_load_51.2.1
theorem dL_load_57 : decode cL_load 57 = .ok (.aload_n 0, 1) := sdL_load_51.2.2.1
theorem dL_load_58 : decode cL_load 58 = .ok (.aload_n 1, 1) := sdL_load_51.2.2.2.1
theorem dL_load_59 : decode cL_load 59 = .ok (.invokevirtual 22, 3) := sdL_load_51.2.2.2.2.1
theorem dL_load_62 : decode cL_load 62 = .ok (.invokevirtual 42, 3) := sdL_load_51.2.2.2.2.2.1
theorem dL_load_65 : decode cL_load 65 = .ok (.ireturn, 1) := sdL_load_51.2.2.2.2.2.2.1
theorem sdL_chosen_0 : dz_Seg cL_chosen [(0, .aload_n 0, 1), (1, .getfield 7, 3), (4, .aload_n 0, 1), (5, .getfield 46, 3), (8, .invokestatic 50, 3), (11, .iload_n 1, 1), (12, .invokestatic 54, 3), (15, .istore_n 2, 1)] := dz_sg _ 0 (by decide +kernel)
theorem dL_chosen_0 : decode cL_chosen 0 = .ok (.aload_n 0, 1) := sdL_chosen_0.1
theorem dL_chosen_1 : decode cL_chosen 1 = .ok (.getfield 7, 3) := sdL_chosen_0.2.1
theorem dL_chosen_4 : decode cL_chosen 4 = .ok (.aload_n 0, 1) := sdL_chosen_0.2.2.1
theorem dL_chosen_5 : decode cL_chosen 5 = .ok (.getfield 46, 3) := sdL_chosen_0.2.2.2.1
theorem dL_chosen_8 : decode cL_chosen 8 = .ok (.invokestatic 50, 3) := sdL_chosen_0.2.2.2.2.1
theorem dL_chosen_11 : decode cL_chosen 11 = .ok (.iload_n 1, 1) := sdL_chosen_0.2.2.2.2.2.1
theorem dL_chosen_12 : decode cL_chosen 12 = .ok (.invokestatic 54, 3) := sdL_chosen_0.2.2.2.2.2.2.1
theorem dL_chosen_15 : decode cL_chosen 15 = .ok (.istore_n 2, 1) := sdL_chosen_0.2.2.2.2.2.2.2.1
theorem sdL_chosen_16 : dz_Seg cL_chosen [(16, .aload_n 0, 1), (17, .dup, 1), (18, .getfield 46, 3), (21, .iconst 1, 1), (22, .iadd, 1), (23, .putfield 46, 3), (26, .iload_n 2, 1), (27, .ireturn, 1)] := dz_sg _ 16 (by decide +kernel)
theorem dL_chosen_16 : decode cL_chosen 16 = .ok (.aload_n 0, 1) := sdL_chosen_16.1
theorem dL_chosen_17 : decode cL_chosen 17 = .ok (.dup, 1) := sdL_chosen_16.2.1
theorem dL_chosen_18 : decode cL_chosen 18 = .ok (.getfield 46, 3) := sdL_chosen_16.2.2.1
theorem dL_chosen_21 : decode cL_chosen 21 = .ok (.iconst 1, 1) := sdL_chosen_16.2.2.2.1
theorem dL_chosen_22 : decode cL_chosen 22 = .ok (.iadd, 1) := sdL_chosen_16.2.2.2.2.1
theorem dL_chosen_23 : decode cL_chosen 23 = .ok (.putfield 46, 3) := sdL_chosen_16.2.2.2.2.2.1
theorem dL_chosen_26 : decode cL_chosen 26 = .ok (.iload_n 2, 1) := sdL_chosen_16.2.2.2.2.2.2.1
theorem dL_chosen_27 : decode cL_chosen 27 = .ok (.ireturn, 1) := sdL_chosen_16.2.2.2.2.2.2.2.1
theorem sdL_list_0 : dz_Seg cL_list [(0, .ldc 58, 2), (2, .astore_n 2, 1), (3, .iconst 1, 1), (4, .aload_n 0, 1), (5, .iconst 3, 1), (6, .invokevirtual 60, 3), (9, .iadd, 1), (10, .istore_n 3, 1)] := dz_sg _ 0 (by decide +kernel)
theorem dL_list_0 : decode cL_list 0 = .ok (.ldc 58, 2) := sdL_list_0.1
theorem dL_list_2 : decode cL_list 2 = .ok (.astore_n 2, 1) := sdL_list_0.2.1
theorem dL_list_3 : decode cL_list 3 = .ok (.iconst 1, 1) := sdL_list_0.2.2.1
theorem dL_list_4 : decode cL_list 4 = .ok (.aload_n 0, 1) := sdL_list_0.2.2.2.1
theorem dL_list_5 : decode cL_list 5 = .ok (.iconst 3, 1) := sdL_list_0.2.2.2.2.1
theorem dL_list_6 : decode cL_list 6 = .ok (.invokevirtual 60, 3) := sdL_list_0.2.2.2.2.2.1
theorem dL_list_9 : decode cL_list 9 = .ok (.iadd, 1) := sdL_list_0.2.2.2.2.2.2.1
theorem dL_list_10 : decode cL_list 10 = .ok (.istore_n 3, 1) := sdL_list_0.2.2.2.2.2.2.2.1
theorem sdL_list_11 : dz_Seg cL_list [(11, .iconst 0, 1), (12, .istore 4, 2), (14, .iload 4, 2), (16, .iload_n 3, 1), (17, .if_icmp .ge 56, 3), (20, .new 63, 3), (23, .dup, 1), (24, .invokespecial 65, 3)] := dz_sg _ 11 (by decide +kernel)
theorem dL_list_11 : decode cL_list 11 = .ok (.iconst 0, 1) := sdL_list_11.1
theorem dL_list_12 : decode cL_list 12 = .ok (.istore 4, 2) := sdL_list_11.2.1
theorem dL_list_14 : decode cL_list 14 = .ok (.iload 4, 2) := sdL_list_11.2.2.1
theorem dL_list_16 : decode cL_list 16 = .ok (.iload_n 3, 1) := sdL_list_11.2.2.2.1
theorem dL_list_17 : decode cL_list 17 = .ok (.if_icmp .ge 56, 3) := sdL_list_11.2.2.2.2.1
theorem dL_list_20 : decode cL_list 20 = .ok (.new 63, 3) := sdL_list_11.2.2.2.2.2.1
theorem dL_list_23 : decode cL_list 23 = .ok (.dup, 1) := sdL_list_11.2.2.2.2.2.2.1
theorem dL_list_24 : decode cL_list 24 = .ok (.invokespecial 65, 3) := sdL_list_11.2.2.2.2.2.2.2.1
theorem sdL_list_27 : dz_Seg cL_list [(27, .aload_n 2, 1), (28, .invokevirtual 66, 3), (31, .ldc 70, 2), (33, .invokevirtual 66, 3), (36, .bipush 97, 2), (38, .iload 4, 2), (40, .iadd, 1), (41, .i2c, 1)] := dz_sg _ 27 (by decide +kernel)
theorem dL_list_27 : decode cL_list 27 = .ok (.aload_n 2, 1) := sdL_list_27.1
theorem dL_list_28 : decode cL_list 28 = .ok (.invokevirtual 66, 3) := sdL_list_27.2.1
theorem dL_list_31 : decode cL_list 31 = .ok (.ldc 70, 2) := sdL_list_27.2.2.1
theorem dL_list_33 : decode cL_list 33 = .ok (.invokevirtual 66, 3) := sdL_list_27.2.2.2.1
theorem dL_list_36 : decode cL_list 36 = .ok (.bipush 97, 2) := sdL_list_27.2.2.2.2.1
theorem dL_list_38 : decode cL_list 38 = .ok (.iload 4, 2) := sdL_list_27.2.2.2.2.2.1
theorem dL_list_40 : decode cL_list 40 = .ok (.iadd, 1) := sdL_list_27.2.2.2.2.2.2.1
theorem dL_list_41 : decode cL_list 41 = .ok (.i2c, 1) := sdL_list_27.2.2.2.2.2.2.2.1
theorem sdL_list_42 : dz_Seg cL_list [(42, .invokevirtual 72, 3), (45, .ldc 75, 2), (47, .invokevirtual 66, 3), (50, .aload_n 0, 1), (51, .iconst 4, 1), (52, .invokevirtual 60, 3), (55, .invokevirtual 77, 3), (58, .ldc 80, 2)] := dz_sg _ 42 (by decide +kernel)
theorem dL_list_42 : decode cL_list 42 = .ok (.invokevirtual 72, 3) := sdL_list_42.1
theorem dL_list_45 : decode cL_list 45 = .ok (.ldc 75, 2) := sdL_list_42.2.1
theorem dL_list_47 : decode cL_list 47 = .ok (.invokevirtual 66, 3) := sdL_list_42.2.2.1
theorem dL_list_50 : decode cL_list 50 = .ok (.aload_n 0, 1) := sdL_list_42.2.2.2.1
theorem dL_list_51 : decode cL_list 51 = .ok (.iconst 4, 1) := sdL_list_42.2.2.2.2.1
theorem dL_list_52 : decode cL_list 52 = .ok (.invokevirtual 60, 3) := sdL_list_42.2.2.2.2.2.1
theorem dL_list_55 : decode cL_list 55 = .ok (.invokevirtual 77, 3) := sdL_list_42.2.2.2.2.2.2.1
theorem dL_list_58 : decode cL_list 58 = .ok (.ldc 80, 2) := sdL_list_42.2.2.2.2.2.2.2.1
theorem sdL_list_60 : dz_Seg cL_list [(60, .invokevirtual 66, 3), (63, .invokevirtual 82, 3), (66, .astore_n 2, 1), (67, .iinc 4 1, 3), (70, .goto (-56), 3), (73, .iconst 2, 1), (74, .aload_n 0, 1), (75, .iload_n 1, 1)] := dz_sg _ 60 (by decide +kernel)
theorem dL_list_60 : decode cL_list 60 = .ok (.invokevirtual 66, 3) := sdL_list_60.1
theorem dL_list_63 : decode cL_list 63 = .ok (.invokevirtual 82, 3) := sdL_list_60.2.1
theorem dL_list_66 : decode cL_list 66 = .ok (.astore_n 2, 1) := sdL_list_60.2.2.1
theorem dL_list_67 : decode cL_list 67 = .ok (.iinc 4 1, 3) := sdL_list_60.2.2.2.1
theorem dL_list_70 : decode cL_list 70 = .ok (.goto (-56), 3) := sdL_list_60.2.2.2.2.1
theorem dL_list_73 : decode cL_list 73 = .ok (.iconst 2, 1) := sdL_list_60.2.2.2.2.2.1
theorem dL_list_74 : decode cL_list 74 = .ok (.aload_n 0, 1) := sdL_list_60.2.2.2.2.2.2.1
theorem dL_list_75 : decode cL_list 75 = .ok (.iload_n 1, 1) := sdL_list_60.2.2.2.2.2.2.2.1
theorem sdL_list_76 : dz_Seg cL_list [(76, .iconst 1, 1), (77, .isub, 1), (78, .invokevirtual 60, 3), (81, .iadd, 1), (82, .istore 4, 2), (84, .iconst 0, 1), (85, .istore 5, 2), (87, .iload 5, 2)] := dz_sg _ 76 (by decide +kernel)
theorem dL_list_76 : decode cL_list 76 = .ok (.iconst 1, 1) := sdL_list_76.1
theorem dL_list_77 : decode cL_list 77 = .ok (.isub, 1) := sdL_list_76.2.1
theorem dL_list_78 : decode cL_list 78 = .ok (.invokevirtual 60, 3) := sdL_list_76.2.2.1
theorem dL_list_81 : decode cL_list 81 = .ok (.iadd, 1) := sdL_list_76.2.2.2.1
theorem dL_list_82 : decode cL_list 82 = .ok (.istore 4, 2) := sdL_list_76.2.2.2.2.1
theorem dL_list_84 : decode cL_list 84 = .ok (.iconst 0, 1) := sdL_list_76.2.2.2.2.2.1
theorem dL_list_85 : decode cL_list 85 = .ok (.istore 5, 2) := sdL_list_76.2.2.2.2.2.2.1
theorem dL_list_87 : decode cL_list 87 = .ok (.iload 5, 2) := sdL_list_76.2.2.2.2.2.2.2.1
theorem sdL_list_89 : dz_Seg cL_list [(89, .iload 4, 2), (91, .if_icmp .ge 69, 3), (94, .new 63, 3), (97, .dup, 1), (98, .invokespecial 65, 3), (101, .aload_n 2, 1), (102, .invokevirtual 66, 3), (105, .ldc 86, 2)] := dz_sg _ 89 (by decide +kernel)
theorem dL_list_89 : decode cL_list 89 = .ok (.iload 4, 2) := sdL_list_89.1
theorem dL_list_91 : decode cL_list 91 = .ok (.if_icmp .ge 69, 3) := sdL_list_89.2.1
theorem dL_list_94 : decode cL_list 94 = .ok (.new 63, 3) := sdL_list_89.2.2.1
theorem dL_list_97 : decode cL_list 97 = .ok (.dup, 1) := sdL_list_89.2.2.2.1
theorem dL_list_98 : decode cL_list 98 = .ok (.invokespecial 65, 3) := sdL_list_89.2.2.2.2.1
theorem dL_list_101 : decode cL_list 101 = .ok (.aload_n 2, 1) := sdL_list_89.2.2.2.2.2.1
theorem dL_list_102 : decode cL_list 102 = .ok (.invokevirtual 66, 3) := sdL_list_89.2.2.2.2.2.2.1
theorem dL_list_105 : decode cL_list 105 = .ok (.ldc 86, 2) := sdL_list_89.2.2.2.2.2.2.2.1
theorem sdL_list_107 : dz_Seg cL_list [(107, .invokevirtual 66, 3), (110, .bipush 97, 2), (112, .iload 5, 2), (114, .iadd, 1), (115, .i2c, 1), (116, .invokevirtual 72, 3), (119, .ldc 75, 2), (121, .invokevirtual 66, 3)] := dz_sg _ 107 (by decide +kernel)
theorem dL_list_107 : decode cL_list 107 = .ok (.invokevirtual 66, 3) := sdL_list_107.1
theorem dL_list_110 : decode cL_list 110 = .ok (.bipush 97, 2) := sdL_list_107.2.1
theorem dL_list_112 : decode cL_list 112 = .ok (.iload 5, 2) := sdL_list_107.2.2.1
theorem dL_list_114 : decode cL_list 114 = .ok (.iadd, 1) := sdL_list_107.2.2.2.1
theorem dL_list_115 : decode cL_list 115 = .ok (.i2c, 1) := sdL_list_107.2.2.2.2.1
theorem dL_list_116 : decode cL_list 116 = .ok (.invokevirtual 72, 3) := sdL_list_107.2.2.2.2.2.1
theorem dL_list_119 : decode cL_list 119 = .ok (.ldc 75, 2) := sdL_list_107.2.2.2.2.2.2.1
theorem dL_list_121 : decode cL_list 121 = .ok (.invokevirtual 66, 3) := sdL_list_107.2.2.2.2.2.2.2.1
theorem sdL_list_124 : dz_Seg cL_list [(124, .aload_n 0, 1), (125, .iconst 5, 1), (126, .invokevirtual 60, 3), (129, .invokevirtual 77, 3), (132, .aload_n 0, 1), (133, .iconst 3, 1), (134, .invokevirtual 60, 3), (137, .ifCond .ne 8, 3)] := dz_sg _ 124 (by decide +kernel)
theorem dL_list_124 : decode cL_list 124 = .ok (.aload_n 0, 1) := sdL_list_124.1
theorem dL_list_125 : decode cL_list 125 = .ok (.iconst 5, 1) := sdL_list_124.2.1
theorem dL_list_126 : decode cL_list 126 = .ok (.invokevirtual 60, 3) := sdL_list_124.2.2.1
theorem dL_list_129 : decode cL_list 129 = .ok (.invokevirtual 77, 3) := sdL_list_124.2.2.2.1
theorem dL_list_132 : decode cL_list 132 = .ok (.aload_n 0, 1) := sdL_list_124.2.2.2.2.1
theorem dL_list_133 : decode cL_list 133 = .ok (.iconst 3, 1) := sdL_list_124.2.2.2.2.2.1
theorem dL_list_134 : decode cL_list 134 = .ok (.invokevirtual 60, 3) := sdL_list_124.2.2.2.2.2.2.1
theorem dL_list_137 : decode cL_list 137 = .ok (.ifCond .ne 8, 3) := sdL_list_124.2.2.2.2.2.2.2.1
theorem sdL_list_140 : dz_Seg cL_list [(140, .ldc 88, 2), (142, .goto 5, 3), (145, .ldc 80, 2), (147, .invokevirtual 66, 3), (150, .invokevirtual 82, 3), (153, .astore_n 2, 1), (154, .iinc 5 1, 3), (157, .goto (-70), 3)] := dz_sg _ 140 (by decide +kernel)
theorem dL_list_140 : decode cL_list 140 = .ok (.ldc 88, 2) := sdL_list_140.1
theorem dL_list_142 : decode cL_list 142 = .ok (.goto 5, 3) := sdL_list_140.2.1
theorem dL_list_145 : decode cL_list 145 = .ok (.ldc 80, 2) := sdL_list_140.2.2.1
theorem dL_list_147 : decode cL_list 147 = .ok (.invokevirtual 66, 3) := sdL_list_140.2.2.2.1
theorem dL_list_150 : decode cL_list 150 = .ok (.invokevirtual 82, 3) := sdL_list_140.2.2.2.2.1
theorem dL_list_153 : decode cL_list 153 = .ok (.astore_n 2, 1) := sdL_list_140.2.2.2.2.2.1
theorem dL_list_154 : decode cL_list 154 = .ok (.iinc 5 1, 3) := sdL_list_140.2.2.2.2.2.2.1
theorem dL_list_157 : decode cL_list 157 = .ok (.goto (-70), 3) := sdL_list_140.2.2.2.2.2.2.2.1
theorem sdL_list_160 : dz_Seg cL_list [(160, .aload_n 0, 1), (161, .iconst 2, 1), (162, .invokevirtual 60, 3), (165, .ifCond .ne 7, 3), (168, .iconst 1, 1), (169, .goto 4, 3), (172, .iconst 0, 1), (173, .istore 5, 2)] := dz_sg _ 160 (by decide +kernel)
theorem dL_list_160 : decode cL_list 160 = .ok (.aload_n 0, 1) := sdL_list_160.1
theorem dL_list_161 : decode cL_list 161 = .ok (.iconst 2, 1) := sdL_list_160.2.1
theorem dL_list_162 : decode cL_list 162 = .ok (.invokevirtual 60, 3) := sdL_list_160.2.2.1
theorem dL_list_165 : decode cL_list 165 = .ok (.ifCond .ne 7, 3) := sdL_list_160.2.2.2.1
theorem dL_list_168 : decode cL_list 168 = .ok (.iconst 1, 1) := sdL_list_160.2.2.2.2.1
theorem dL_list_169 : decode cL_list 169 = .ok (.goto 4, 3) := sdL_list_160.2.2.2.2.2.1
theorem dL_list_172 : decode cL_list 172 = .ok (.iconst 0, 1) := sdL_list_160.2.2.2.2.2.2.1
theorem dL_list_173 : decode cL_list 173 = .ok (.istore 5, 2) := sdL_list_160.2.2.2.2.2.2.2.1
theorem sdL_list_175 : dz_Seg cL_list [(175, .iload 5, 2), (177, .ifCond .eq 23, 3), (180, .new 63, 3), (183, .dup, 1), (184, .invokespecial 65, 3), (187, .aload_n 2, 1), (188, .invokevirtual 66, 3), (191, .ldc 90, 2)] := dz_sg _ 175 (by decide +kernel)
theorem dL_list_175 : decode cL_list 175 = .ok (.iload 5, 2) := sdL_list_175.1
theorem dL_list_177 : decode cL_list 177 = .ok (.ifCond .eq 23, 3) := sdL_list_175.2.1
theorem dL_list_180 : decode cL_list 180 = .ok (.new 63, 3) := sdL_list_175.2.2.1
theorem dL_list_183 : decode cL_list 183 = .ok (.dup, 1) := sdL_list_175.2.2.2.1
theorem dL_list_184 : decode cL_list 184 = .ok (.invokespecial 65, 3) := sdL_list_175.2.2.2.2.1
theorem dL_list_187 : decode cL_list 187 = .ok (.aload_n 2, 1) := sdL_list_175.2.2.2.2.2.1
theorem dL_list_188 : decode cL_list 188 = .ok (.invokevirtual 66, 3) := sdL_list_175.2.2.2.2.2.2.1
theorem dL_list_191 : decode cL_list 191 = .ok (.ldc 90, 2) := sdL_list_175.2.2.2.2.2.2.2.1
theorem sdL_list_193 : dz_Seg cL_list [(193, .invokevirtual 66, 3), (196, .invokevirtual 82, 3), (199, .astore_n 2, 1), (200, .iload 5, 2), (202, .ifCond .eq 7, 3), (205, .iconst 1, 1), (206, .goto 4, 3), (209, .iconst 0, 1)] := dz_sg _ 193 (by decide +kernel)
theorem dL_list_193 : decode cL_list 193 = .ok (.invokevirtual 66, 3) := sdL_list_193.1
theorem dL_list_196 : decode cL_list 196 = .ok (.invokevirtual 82, 3) := sdL_list_193.2.1
theorem dL_list_199 : decode cL_list 199 = .ok (.astore_n 2, 1) := sdL_list_193.2.2.1
theorem dL_list_200 : decode cL_list 200 = .ok (.iload 5, 2) := sdL_list_193.2.2.2.1
theorem dL_list_202 : decode cL_list 202 = .ok (.ifCond .eq 7, 3) := sdL_list_193.2.2.2.2.1
theorem dL_list_205 : decode cL_list 205 = .ok (.iconst 1, 1) := sdL_list_193.2.2.2.2.2.1
theorem dL_list_206 : decode cL_list 206 = .ok (.goto 4, 3) := sdL_list_193.2.2.2.2.2.2.1
theorem dL_list_209 : decode cL_list 209 = .ok (.iconst 0, 1) := sdL_list_193.2.2.2.2.2.2.2.1
theorem sdL_list_210 : dz_Seg cL_list [(210, .istore 6, 2), (212, .iload 6, 2), (214, .iload 4, 2), (216, .if_icmp .ge 168, 3), (219, .aload_n 0, 1), (220, .bipush 6, 2), (222, .invokevirtual 60, 3), (225, .ifCond .ne 6, 3)] := dz_sg _ 210 (by decide +kernel)
theorem dL_list_210 : decode cL_list 210 = .ok (.istore 6, 2) := sdL_list_210.1
theorem dL_list_212 : decode cL_list 212 = .ok (.iload 6, 2) := sdL_list_210.2.1
theorem dL_list_214 : decode cL_list 214 = .ok (.iload 4, 2) := sdL_list_210.2.2.1
theorem dL_list_216 : decode cL_list 216 = .ok (.if_icmp .ge 168, 3) := sdL_list_210.2.2.2.1
theorem dL_list_219 : decode cL_list 219 = .ok (.aload_n 0, 1) := sdL_list_210.2.2.2.2.1
theorem dL_list_220 : decode cL_list 220 = .ok (.bipush 6, 2) := sdL_list_210.2.2.2.2.2.1
theorem dL_list_222 : decode cL_list 222 = .ok (.invokevirtual 60, 3) := sdL_list_210.2.2.2.2.2.2.1
theorem dL_list_225 : decode cL_list 225 = .ok (.ifCond .ne 6, 3) := sdL_list_210.2.2.2.2.2.2.2.1
theorem sdL_list_228 : dz_Seg cL_list [(228, .goto 150, 3), (231, .new 63, 3), (234, .dup, 1), (235, .invokespecial 65, 3), (238, .aload_n 2, 1), (239, .invokevirtual 66, 3), (242, .iload 5, 2), (244, .ifCond .eq 14, 3)] := dz_sg _ 228 (by decide +kernel)
theorem dL_list_228 : decode cL_list 228 = .ok (.goto 150, 3) := sdL_list_228.1
theorem dL_list_231 : decode cL_list 231 = .ok (.new 63, 3) := sdL_list_228.2.1
theorem dL_list_234 : decode cL_list 234 = .ok (.dup, 1) := sdL_list_228.2.2.1
theorem dL_list_235 : decode cL_list 235 = .ok (.invokespecial 65, 3) := sdL_list_228.2.2.2.1
theorem dL_list_238 : decode cL_list 238 = .ok (.aload_n 2, 1) := sdL_list_228.2.2.2.2.1
theorem dL_list_239 : decode cL_list 239 = .ok (.invokevirtual 66, 3) := sdL_list_228.2.2.2.2.2.1
theorem dL_list_242 : decode cL_list 242 = .ok (.iload 5, 2) := sdL_list_228.2.2.2.2.2.2.1
theorem dL_list_244 : decode cL_list 244 = .ok (.ifCond .eq 14, 3) := sdL_list_228.2.2.2.2.2.2.2.1
theorem sdL_list_247 : dz_Seg cL_list [(247, .iload 6, 2), (249, .iconst 1, 1), (250, .if_icmp .ne 8, 3), (253, .ldc 92, 2), (255, .goto 27, 3), (258, .new 63, 3), (261, .dup, 1), (262, .invokespecial 65, 3)] := dz_sg _ 247 (by decide +kernel)
theorem dL_list_247 : decode cL_list 247 = .ok (.iload 6, 2) := sdL_list_247.1
theorem dL_list_249 : decode cL_list 249 = .ok (.iconst 1, 1) := sdL_list_247.2.1
theorem dL_list_250 : decode cL_list 250 = .ok (.if_icmp .ne 8, 3) := sdL_list_247.2.2.1
theorem dL_list_253 : decode cL_list 253 = .ok (.ldc 92, 2) := sdL_list_247.2.2.2.1
theorem dL_list_255 : decode cL_list 255 = .ok (.goto 27, 3) := sdL_list_247.2.2.2.2.1
theorem dL_list_258 : decode cL_list 258 = .ok (.new 63, 3) := sdL_list_247.2.2.2.2.2.1
theorem dL_list_261 : decode cL_list 261 = .ok (.dup, 1) := sdL_list_247.2.2.2.2.2.2.1
theorem dL_list_262 : decode cL_list 262 = .ok (.invokespecial 65, 3) := sdL_list_247.2.2.2.2.2.2.2.1
theorem sdL_list_265 : dz_Seg cL_list [(265, .ldc 94, 2), (267, .invokevirtual 66, 3), (270, .bipush 97, 2), (272, .iload 6, 2), (274, .iadd, 1), (275, .i2c, 1), (276, .invokevirtual 72, 3), (279, .invokevirtual 82, 3)] := dz_sg _ 265 (by decide +kernel)
theorem dL_list_265 : decode cL_list 265 = .ok (.ldc 94, 2) := sdL_list_265.1
theorem dL_list_267 : decode cL_list 267 = .ok (.invokevirtual 66, 3) := sdL_list_265.2.1
theorem dL_list_270 : decode cL_list 270 = .ok (.bipush 97, 2) := sdL_list_265.2.2.1
theorem dL_list_272 : decode cL_list 272 = .ok (.iload 6, 2) := sdL_list_265.2.2.2.1
theorem dL_list_274 : decode cL_list 274 = .ok (.iadd, 1) := sdL_list_265.2.2.2.2.1
theorem dL_list_275 : decode cL_list 275 = .ok (.i2c, 1) := sdL_list_265.2.2.2.2.2.1
theorem dL_list_276 : decode cL_list 276 = .ok (.invokevirtual 72, 3) := sdL_list_265.2.2.2.2.2.2.1
theorem dL_list_279 : decode cL_list 279 = .ok (.invokevirtual 82, 3) := sdL_list_265.2.2.2.2.2.2.2.1
theorem sdL_list_282 : dz_Seg cL_list [(282, .invokevirtual 66, 3), (285, .invokevirtual 82, 3), (288, .astore_n 2, 1), (289, .aload_n 0, 1), (290, .iload_n 3, 1), (291, .invokevirtual 60, 3), (294, .istore 7, 2), (296, .iconst 0, 1)] := dz_sg _ 282 (by decide +kernel)
theorem dL_list_282 : decode cL_list 282 = .ok (.invokevirtual 66, 3) := sdL_list_282.1
theorem dL_list_285 : decode cL_list 285 = .ok (.invokevirtual 82, 3) := sdL_list_282.2.1
theorem dL_list_288 : decode cL_list 288 = .ok (.astore_n 2, 1) := sdL_list_282.2.2.1
theorem dL_list_289 : decode cL_list 289 = .ok (.aload_n 0, 1) := sdL_list_282.2.2.2.1
theorem dL_list_290 : decode cL_list 290 = .ok (.iload_n 3, 1) := sdL_list_282.2.2.2.2.1
theorem dL_list_291 : decode cL_list 291 = .ok (.invokevirtual 60, 3) := sdL_list_282.2.2.2.2.2.1
theorem dL_list_294 : decode cL_list 294 = .ok (.istore 7, 2) := sdL_list_282.2.2.2.2.2.2.1
theorem dL_list_296 : decode cL_list 296 = .ok (.iconst 0, 1) := sdL_list_282.2.2.2.2.2.2.2.1
theorem sdL_list_297 : dz_Seg cL_list [(297, .istore 8, 2), (299, .iload 8, 2), (301, .iload_n 3, 1), (302, .if_icmp .ge 56, 3), (305, .iload 8, 2), (307, .ifCond .eq 11, 3), (310, .aload_n 0, 1), (311, .iconst 3, 1)] := dz_sg _ 297 (by decide +kernel)
theorem dL_list_297 : decode cL_list 297 = .ok (.istore 8, 2) := sdL_list_297.1
theorem dL_list_299 : decode cL_list 299 = .ok (.iload 8, 2) := sdL_list_297.2.1
theorem dL_list_301 : decode cL_list 301 = .ok (.iload_n 3, 1) := sdL_list_297.2.2.1
theorem dL_list_302 : decode cL_list 302 = .ok (.if_icmp .ge 56, 3) := sdL_list_297.2.2.2.1
theorem dL_list_305 : decode cL_list 305 = .ok (.iload 8, 2) := sdL_list_297.2.2.2.2.1
theorem dL_list_307 : decode cL_list 307 = .ok (.ifCond .eq 11, 3) := sdL_list_297.2.2.2.2.2.1
theorem dL_list_310 : decode cL_list 310 = .ok (.aload_n 0, 1) := sdL_list_297.2.2.2.2.2.2.1
theorem dL_list_311 : decode cL_list 311 = .ok (.iconst 3, 1) := sdL_list_297.2.2.2.2.2.2.2.1
theorem sdL_list_312 : dz_Seg cL_list [(312, .invokevirtual 60, 3), (315, .ifCond .le 43, 3), (318, .new 63, 3), (321, .dup, 1), (322, .invokespecial 65, 3), (325, .aload_n 2, 1), (326, .invokevirtual 66, 3), (329, .ldc 96, 2)] := dz_sg _ 312 (by decide +kernel)
theorem dL_list_312 : decode cL_list 312 = .ok (.invokevirtual 60, 3) := sdL_list_312.1
theorem dL_list_315 : decode cL_list 315 = .ok (.ifCond .le 43, 3) := sdL_list_312.2.1
theorem dL_list_318 : decode cL_list 318 = .ok (.new 63, 3) := sdL_list_312.2.2.1
theorem dL_list_321 : decode cL_list 321 = .ok (.dup, 1) := sdL_list_312.2.2.2.1
theorem dL_list_322 : decode cL_list 322 = .ok (.invokespecial 65, 3) := sdL_list_312.2.2.2.2.1
theorem dL_list_325 : decode cL_list 325 = .ok (.aload_n 2, 1) := sdL_list_312.2.2.2.2.2.1
theorem dL_list_326 : decode cL_list 326 = .ok (.invokevirtual 66, 3) := sdL_list_312.2.2.2.2.2.2.1
theorem dL_list_329 : decode cL_list 329 = .ok (.ldc 96, 2) := sdL_list_312.2.2.2.2.2.2.2.1
theorem sdL_list_331 : dz_Seg cL_list [(331, .invokevirtual 66, 3), (334, .bipush 97, 2), (336, .iload 7, 2), (338, .iload 8, 2), (340, .iadd, 1), (341, .iload_n 3, 1), (342, .irem, 1), (343, .iadd, 1)] := dz_sg _ 331 (by decide +kernel)
theorem dL_list_331 : decode cL_list 331 = .ok (.invokevirtual 66, 3) := sdL_list_331.1
theorem dL_list_334 : decode cL_list 334 = .ok (.bipush 97, 2) := sdL_list_331.2.1
theorem dL_list_336 : decode cL_list 336 = .ok (.iload 7, 2) := sdL_list_331.2.2.1
theorem dL_list_338 : decode cL_list 338 = .ok (.iload 8, 2) := sdL_list_331.2.2.2.1
theorem dL_list_340 : decode cL_list 340 = .ok (.iadd, 1) := sdL_list_331.2.2.2.2.1
theorem dL_list_341 : decode cL_list 341 = .ok (.iload_n 3, 1) := sdL_list_331.2.2.2.2.2.1
theorem dL_list_342 : decode cL_list 342 = .ok (.irem, 1) := sdL_list_331.2.2.2.2.2.2.1
theorem dL_list_343 : decode cL_list 343 = .ok (.iadd, 1) := sdL_list_331.2.2.2.2.2.2.2.1
theorem sdL_list_344 : dz_Seg cL_list [(344, .i2c, 1), (345, .invokevirtual 72, 3), (348, .invokevirtual 82, 3), (351, .astore_n 2, 1), (352, .iinc 8 1, 3), (355, .goto (-56), 3), (358, .new 63, 3), (361, .dup, 1)] := dz_sg _ 344 (by decide +kernel)
theorem dL_list_344 : decode cL_list 344 = .ok (.i2c, 1) := sdL_list_344.1
theorem dL_list_345 : decode cL_list 345 = .ok (.invokevirtual 72, 3) := sdL_list_344.2.1
theorem dL_list_348 : decode cL_list 348 = .ok (.invokevirtual 82, 3) := sdL_list_344.2.2.1
theorem dL_list_351 : decode cL_list 351 = .ok (.astore_n 2, 1) := sdL_list_344.2.2.2.1
theorem dL_list_352 : decode cL_list 352 = .ok (.iinc 8 1, 3) := sdL_list_344.2.2.2.2.1
theorem dL_list_355 : decode cL_list 355 = .ok (.goto (-56), 3) := sdL_list_344.2.2.2.2.2.1
theorem dL_list_358 : decode cL_list 358 = .ok (.new 63, 3) := sdL_list_344.2.2.2.2.2.2.1
theorem dL_list_361 : decode cL_list 361 = .ok (.dup, 1) := sdL_list_344.2.2.2.2.2.2.2.1
theorem sdL_list_362 : dz_Seg cL_list [(362, .invokespecial 65, 3), (365, .aload_n 2, 1), (366, .invokevirtual 66, 3), (369, .ldc 80, 2), (371, .invokevirtual 66, 3), (374, .invokevirtual 82, 3), (377, .astore_n 2, 1), (378, .iinc 6 1, 3)] := dz_sg _ 362 (by decide +kernel)
theorem dL_list_362 : decode cL_list 362 = .ok (.invokespecial 65, 3) := sdL_list_362.1
theorem dL_list_365 : decode cL_list 365 = .ok (.aload_n 2, 1) := sdL_list_362.2.1
theorem dL_list_366 : decode cL_list 366 = .ok (.invokevirtual 66, 3) := sdL_list_362.2.2.1
theorem dL_list_369 : decode cL_list 369 = .ok (.ldc 80, 2) := sdL_list_362.2.2.2.1
theorem dL_list_371 : decode cL_list 371 = .ok (.invokevirtual 66, 3) := sdL_list_362.2.2.2.2.1
theorem dL_list_374 : decode cL_list 374 = .ok (.invokevirtual 82, 3) := sdL_list_362.2.2.2.2.2.1
theorem dL_list_377 : decode cL_list 377 = .ok (.astore_n 2, 1) := sdL_list_362.2.2.2.2.2.2.1
theorem dL_list_378 : decode cL_list 378 = .ok (.iinc 6 1, 3) := sdL_list_362.2.2.2.2.2.2.2.1
theorem sdL_list_381 : dz_Seg cL_list [(381, .goto (-169), 3), (384, .aload_n 0, 1), (385, .iconst 3, 1), (386, .invokevirtual 60, 3), (389, .istore 6, 2), (391, .new 63, 3), (394, .dup, 1), (395, .invokespecial 65, 3)] := dz_sg _ 381 (by decide +kernel)
theorem dL_list_381 : decode cL_list 381 = .ok (.goto (-169), 3) := sdL_list_381.1
theorem dL_list_384 : decode cL_list 384 = .ok (.aload_n 0, 1) := sdL_list_381.2.1
theorem dL_list_385 : decode cL_list 385 = .ok (.iconst 3, 1) := sdL_list_381.2.2.1
theorem dL_list_386 : decode cL_list 386 = .ok (.invokevirtual 60, 3) := sdL_list_381.2.2.2.1
theorem dL_list_389 : decode cL_list 389 = .ok (.istore 6, 2) := sdL_list_381.2.2.2.2.1
theorem dL_list_391 : decode cL_list 391 = .ok (.new 63, 3) := sdL_list_381.2.2.2.2.2.1
theorem dL_list_394 : decode cL_list 394 = .ok (.dup, 1) := sdL_list_381.2.2.2.2.2.2.1
theorem dL_list_395 : decode cL_list 395 = .ok (.invokespecial 65, 3) := sdL_list_381.2.2.2.2.2.2.2.1
theorem sdL_list_398 : dz_Seg cL_list [(398, .aload_n 2, 1), (399, .invokevirtual 66, 3), (402, .iload 6, 2), (404, .ifCond .ne 8, 3), (407, .ldc 58, 2), (409, .goto 16, 3), (412, .iload 6, 2), (414, .iconst 1, 1)] := dz_sg _ 398 (by decide +kernel)
theorem dL_list_398 : decode cL_list 398 = .ok (.aload_n 2, 1) := sdL_list_398.1
theorem dL_list_399 : decode cL_list 399 = .ok (.invokevirtual 66, 3) := sdL_list_398.2.1
theorem dL_list_402 : decode cL_list 402 = .ok (.iload 6, 2) := sdL_list_398.2.2.1
theorem dL_list_404 : decode cL_list 404 = .ok (.ifCond .ne 8, 3) := sdL_list_398.2.2.2.1
theorem dL_list_407 : decode cL_list 407 = .ok (.ldc 58, 2) := sdL_list_398.2.2.2.2.1
theorem dL_list_409 : decode cL_list 409 = .ok (.goto 16, 3) := sdL_list_398.2.2.2.2.2.1
theorem dL_list_412 : decode cL_list 412 = .ok (.iload 6, 2) := sdL_list_398.2.2.2.2.2.2.1
theorem dL_list_414 : decode cL_list 414 = .ok (.iconst 1, 1) := sdL_list_398.2.2.2.2.2.2.2.1
theorem sdL_list_415 : dz_Seg cL_list [(415, .if_icmp .ne 8, 3), (418, .ldc 98, 2), (420, .goto 5, 3), (423, .ldc 100, 2), (425, .invokevirtual 66, 3), (428, .ldc 102, 2), (430, .invokevirtual 66, 3), (433, .bipush 25, 2)] := dz_sg _ 415 (by decide +kernel)
theorem dL_list_415 : decode cL_list 415 = .ok (.if_icmp .ne 8, 3) := sdL_list_415.1
theorem dL_list_418 : decode cL_list 418 = .ok (.ldc 98, 2) := sdL_list_415.2.1
theorem dL_list_420 : decode cL_list 420 = .ok (.goto 5, 3) := sdL_list_415.2.2.1
theorem dL_list_423 : decode cL_list 423 = .ok (.ldc 100, 2) := sdL_list_415.2.2.2.1
theorem dL_list_425 : decode cL_list 425 = .ok (.invokevirtual 66, 3) := sdL_list_415.2.2.2.2.1
theorem dL_list_428 : decode cL_list 428 = .ok (.ldc 102, 2) := sdL_list_415.2.2.2.2.2.1
theorem dL_list_430 : decode cL_list 430 = .ok (.invokevirtual 66, 3) := sdL_list_415.2.2.2.2.2.2.1
theorem dL_list_433 : decode cL_list 433 = .ok (.bipush 25, 2) := sdL_list_415.2.2.2.2.2.2.2.1
theorem sdL_list_435 : dz_Seg cL_list [(435, .aload_n 0, 1), (436, .iconst 5, 1), (437, .invokevirtual 60, 3), (440, .imul, 1), (441, .invokevirtual 77, 3), (444, .ldc 80, 2), (446, .invokevirtual 66, 3), (449, .aload_n 0, 1)] := dz_sg _ 435 (by decide +kernel)
theorem dL_list_435 : decode cL_list 435 = .ok (.aload_n 0, 1) := sdL_list_435.1
theorem dL_list_436 : decode cL_list 436 = .ok (.iconst 5, 1) := sdL_list_435.2.1
theorem dL_list_437 : decode cL_list 437 = .ok (.invokevirtual 60, 3) := sdL_list_435.2.2.1
theorem dL_list_440 : decode cL_list 440 = .ok (.imul, 1) := sdL_list_435.2.2.2.1
theorem dL_list_441 : decode cL_list 441 = .ok (.invokevirtual 77, 3) := sdL_list_435.2.2.2.2.1
theorem dL_list_444 : decode cL_list 444 = .ok (.ldc 80, 2) := sdL_list_435.2.2.2.2.2.1
theorem dL_list_446 : decode cL_list 446 = .ok (.invokevirtual 66, 3) := sdL_list_435.2.2.2.2.2.2.1
theorem dL_list_449 : decode cL_list 449 = .ok (.aload_n 0, 1) := sdL_list_435.2.2.2.2.2.2.2.1
theorem sdL_list_450 : dz_Seg cL_list [(450, .iconst 2, 1), (451, .invokevirtual 60, 3), (454, .ifCond .ne 37, 3), (457, .new 63, 3), (460, .dup, 1), (461, .invokespecial 65, 3), (464, .ldc 104, 2), (466, .invokevirtual 66, 3)] := dz_sg _ 450 (by decide +kernel)
theorem dL_list_450 : decode cL_list 450 = .ok (.iconst 2, 1) := sdL_list_450.1
theorem dL_list_451 : decode cL_list 451 = .ok (.invokevirtual 60, 3) := sdL_list_450.2.1
theorem dL_list_454 : decode cL_list 454 = .ok (.ifCond .ne 37, 3) := sdL_list_450.2.2.1
theorem dL_list_457 : decode cL_list 457 = .ok (.new 63, 3) := sdL_list_450.2.2.2.1
theorem dL_list_460 : decode cL_list 460 = .ok (.dup, 1) := sdL_list_450.2.2.2.2.1
theorem dL_list_461 : decode cL_list 461 = .ok (.invokespecial 65, 3) := sdL_list_450.2.2.2.2.2.1
theorem dL_list_464 : decode cL_list 464 = .ok (.ldc 104, 2) := sdL_list_450.2.2.2.2.2.2.1
theorem dL_list_466 : decode cL_list 466 = .ok (.invokevirtual 66, 3) := sdL_list_450.2.2.2.2.2.2.2.1
theorem sdL_list_469 : dz_Seg cL_list [(469, .bipush 50, 2), (471, .aload_n 0, 1), (472, .iconst 3, 1), (473, .invokevirtual 60, 3), (476, .imul, 1), (477, .invokevirtual 77, 3), (480, .ldc 80, 2), (482, .invokevirtual 66, 3)] := dz_sg _ 469 (by decide +kernel)
theorem dL_list_469 : decode cL_list 469 = .ok (.bipush 50, 2) := sdL_list_469.1
theorem dL_list_471 : decode cL_list 471 = .ok (.aload_n 0, 1) := sdL_list_469.2.1
theorem dL_list_472 : decode cL_list 472 = .ok (.iconst 3, 1) := sdL_list_469.2.2.1
theorem dL_list_473 : decode cL_list 473 = .ok (.invokevirtual 60, 3) := sdL_list_469.2.2.2.1
theorem dL_list_476 : decode cL_list 476 = .ok (.imul, 1) := sdL_list_469.2.2.2.2.1
theorem dL_list_477 : decode cL_list 477 = .ok (.invokevirtual 77, 3) := sdL_list_469.2.2.2.2.2.1
theorem dL_list_480 : decode cL_list 480 = .ok (.ldc 80, 2) := sdL_list_469.2.2.2.2.2.2.1
theorem dL_list_482 : decode cL_list 482 = .ok (.invokevirtual 66, 3) := sdL_list_469.2.2.2.2.2.2.2.1
theorem sdL_list_485 : dz_Seg cL_list [(485, .invokevirtual 82, 3), (488, .goto 5, 3), (491, .ldc 58, 2), (493, .invokevirtual 66, 3), (496, .invokevirtual 82, 3), (499, .areturn, 1)] := dz_sg _ 485 (by decide +kernel)
theorem dL_list_485 : decode cL_list 485 = .ok (.invokevirtual 82, 3) := sdL_list_485.1
theorem dL_list_488 : decode cL_list 488 = .ok (.goto 5, 3) := sdL_list_485.2.1
theorem dL_list_491 : decode cL_list 491 = .ok (.ldc 58, 2) := sdL_list_485.2.2.1
theorem dL_list_493 : decode cL_list 493 = .ok (.invokevirtual 66, 3) := sdL_list_485.2.2.2.1
theorem dL_list_496 : decode cL_list 496 = .ok (.invokevirtual 82, 3) := sdL_list_485.2.2.2.2.1
theorem dL_list_499 : decode cL_list 499 = .ok (.areturn, 1) := sdL_list_485.2.2.2.2.2.1
theorem sdL_orders_0 : dz_Seg cL_orders [(0, .iload_n 2, 1), (1, .i2l, 1), (2, .lstore_n 3, 1), (3, .iconst 0, 1), (4, .istore 5, 2), (6, .iconst 0, 1), (7, .istore 6, 2), (9, .iload 6, 2)] := dz_sg _ 0 (by decide +kernel)
theorem dL_orders_0 : decode cL_orders 0 = .ok (.iload_n 2, 1) := sdL_orders_0.1
theorem dL_orders_1 : decode cL_orders 1 = .ok (.i2l, 1) := sdL_orders_0.2.1
theorem dL_orders_2 : decode cL_orders 2 = .ok (.lstore_n 3, 1) := sdL_orders_0.2.2.1
theorem dL_orders_3 : decode cL_orders 3 = .ok (.iconst 0, 1) := sdL_orders_0.2.2.2.1
theorem dL_orders_4 : decode cL_orders 4 = .ok (.istore 5, 2) := sdL_orders_0.2.2.2.2.1
theorem dL_orders_6 : decode cL_orders 6 = .ok (.iconst 0, 1) := sdL_orders_0.2.2.2.2.2.1
theorem dL_orders_7 : decode cL_orders 7 = .ok (.istore 6, 2) := sdL_orders_0.2.2.2.2.2.2.1
theorem dL_orders_9 : decode cL_orders 9 = .ok (.iload 6, 2) := sdL_orders_0.2.2.2.2.2.2.2.1
theorem sdL_orders_11 : dz_Seg cL_orders [(11, .aload_n 0, 1), (12, .getfield 106, 3), (15, .if_icmp .ge 160, 3), (18, .iconst 0, 1), (19, .istore 7, 2), (21, .iconst 0, 1), (22, .istore 8, 2), (24, .iload 8, 2)] := dz_sg _ 11 (by decide +kernel)
theorem dL_orders_11 : decode cL_orders 11 = .ok (.aload_n 0, 1) := sdL_orders_11.1
theorem dL_orders_12 : decode cL_orders 12 = .ok (.getfield 106, 3) := sdL_orders_11.2.1
theorem dL_orders_15 : decode cL_orders 15 = .ok (.if_icmp .ge 160, 3) := sdL_orders_11.2.2.1
theorem dL_orders_18 : decode cL_orders 18 = .ok (.iconst 0, 1) := sdL_orders_11.2.2.2.1
theorem dL_orders_19 : decode cL_orders 19 = .ok (.istore 7, 2) := sdL_orders_11.2.2.2.2.1
theorem dL_orders_21 : decode cL_orders 21 = .ok (.iconst 0, 1) := sdL_orders_11.2.2.2.2.2.1
theorem dL_orders_22 : decode cL_orders 22 = .ok (.istore 8, 2) := sdL_orders_11.2.2.2.2.2.2.1
theorem dL_orders_24 : decode cL_orders 24 = .ok (.iload 8, 2) := sdL_orders_11.2.2.2.2.2.2.2.1
theorem sdL_orders_26 : dz_Seg cL_orders [(26, .aload_n 0, 1), (27, .getfield 106, 3), (30, .if_icmp .ge 35, 3), (33, .iload 7, 2), (35, .iload 5, 2), (37, .iload 8, 2), (39, .ishr, 1), (40, .iconst 1, 1)] := dz_sg _ 26 (by decide +kernel)
theorem dL_orders_26 : decode cL_orders 26 = .ok (.aload_n 0, 1) := sdL_orders_26.1
theorem dL_orders_27 : decode cL_orders 27 = .ok (.getfield 106, 3) := sdL_orders_26.2.1
theorem dL_orders_30 : decode cL_orders 30 = .ok (.if_icmp .ge 35, 3) := sdL_orders_26.2.2.1
theorem dL_orders_33 : decode cL_orders 33 = .ok (.iload 7, 2) := sdL_orders_26.2.2.2.1
theorem dL_orders_35 : decode cL_orders 35 = .ok (.iload 5, 2) := sdL_orders_26.2.2.2.2.1
theorem dL_orders_37 : decode cL_orders 37 = .ok (.iload 8, 2) := sdL_orders_26.2.2.2.2.2.1
theorem dL_orders_39 : decode cL_orders 39 = .ok (.ishr, 1) := sdL_orders_26.2.2.2.2.2.2.1
theorem dL_orders_40 : decode cL_orders 40 = .ok (.iconst 1, 1) := sdL_orders_26.2.2.2.2.2.2.2.1
theorem sdL_orders_41 : dz_Seg cL_orders [(41, .iand, 1), (42, .ifCond .ne 13, 3), (45, .aload_n 1, 1), (46, .iload 8, 2), (48, .iconst 3, 1), (49, .invokevirtual 109, 3), (52, .goto 4, 3), (55, .iconst 0, 1)] := dz_sg _ 41 (by decide +kernel)
theorem dL_orders_41 : decode cL_orders 41 = .ok (.iand, 1) := sdL_orders_41.1
theorem dL_orders_42 : decode cL_orders 42 = .ok (.ifCond .ne 13, 3) := sdL_orders_41.2.1
theorem dL_orders_45 : decode cL_orders 45 = .ok (.aload_n 1, 1) := sdL_orders_41.2.2.1
theorem dL_orders_46 : decode cL_orders 46 = .ok (.iload 8, 2) := sdL_orders_41.2.2.2.1
theorem dL_orders_48 : decode cL_orders 48 = .ok (.iconst 3, 1) := sdL_orders_41.2.2.2.2.1
theorem dL_orders_49 : decode cL_orders 49 = .ok (.invokevirtual 109, 3) := sdL_orders_41.2.2.2.2.2.1
theorem dL_orders_52 : decode cL_orders 52 = .ok (.goto 4, 3) := sdL_orders_41.2.2.2.2.2.2.1
theorem dL_orders_55 : decode cL_orders 55 = .ok (.iconst 0, 1) := sdL_orders_41.2.2.2.2.2.2.2.1
theorem sdL_orders_56 : dz_Seg cL_orders [(56, .iadd, 1), (57, .istore 7, 2), (59, .iinc 8 1, 3), (62, .goto (-38), 3), (65, .ldc2_w 112, 3), (68, .lload_n 3, 1), (69, .lmul, 1), (70, .ldc2_w 114, 3)] := dz_sg _ 56 (by decide +kernel)
theorem dL_orders_56 : decode cL_orders 56 = .ok (.iadd, 1) := sdL_orders_56.1
theorem dL_orders_57 : decode cL_orders 57 = .ok (.istore 7, 2) := sdL_orders_56.2.1
theorem dL_orders_59 : decode cL_orders 59 = .ok (.iinc 8 1, 3) := sdL_orders_56.2.2.1
theorem dL_orders_62 : decode cL_orders 62 = .ok (.goto (-38), 3) := sdL_orders_56.2.2.2.1
theorem dL_orders_65 : decode cL_orders 65 = .ok (.ldc2_w 112, 3) := sdL_orders_56.2.2.2.2.1
theorem dL_orders_68 : decode cL_orders 68 = .ok (.lload_n 3, 1) := sdL_orders_56.2.2.2.2.2.1
theorem dL_orders_69 : decode cL_orders 69 = .ok (.lmul, 1) := sdL_orders_56.2.2.2.2.2.2.1
theorem dL_orders_70 : decode cL_orders 70 = .ok (.ldc2_w 114, 3) := sdL_orders_56.2.2.2.2.2.2.2.1
theorem sdL_orders_73 : dz_Seg cL_orders [(73, .ladd, 1), (74, .ldc2_w 116, 3), (77, .lrem, 1), (78, .lstore_n 3, 1), (79, .lload_n 3, 1), (80, .ldc2_w 118, 3), (83, .ldiv, 1), (84, .iload 7, 2)] := dz_sg _ 73 (by decide +kernel)
theorem dL_orders_73 : decode cL_orders 73 = .ok (.ladd, 1) := sdL_orders_73.1
theorem dL_orders_74 : decode cL_orders 74 = .ok (.ldc2_w 116, 3) := sdL_orders_73.2.1
theorem dL_orders_77 : decode cL_orders 77 = .ok (.lrem, 1) := sdL_orders_73.2.2.1
theorem dL_orders_78 : decode cL_orders 78 = .ok (.lstore_n 3, 1) := sdL_orders_73.2.2.2.1
theorem dL_orders_79 : decode cL_orders 79 = .ok (.lload_n 3, 1) := sdL_orders_73.2.2.2.2.1
theorem dL_orders_80 : decode cL_orders 80 = .ok (.ldc2_w 118, 3) := sdL_orders_73.2.2.2.2.2.1
theorem dL_orders_83 : decode cL_orders 83 = .ok (.ldiv, 1) := sdL_orders_73.2.2.2.2.2.2.1
theorem dL_orders_84 : decode cL_orders 84 = .ok (.iload 7, 2) := sdL_orders_73.2.2.2.2.2.2.2.1
theorem sdL_orders_86 : dz_Seg cL_orders [(86, .i2l, 1), (87, .lrem, 1), (88, .lstore 8, 2), (90, .iconst 0, 1), (91, .istore 10, 2), (93, .iload 5, 2), (95, .iload 10, 2), (97, .ishr, 1)] := dz_sg _ 86 (by decide +kernel)
theorem dL_orders_86 : decode cL_orders 86 = .ok (.i2l, 1) := sdL_orders_86.1
theorem dL_orders_87 : decode cL_orders 87 = .ok (.lrem, 1) := sdL_orders_86.2.1
theorem dL_orders_88 : decode cL_orders 88 = .ok (.lstore 8, 2) := sdL_orders_86.2.2.1
theorem dL_orders_90 : decode cL_orders 90 = .ok (.iconst 0, 1) := sdL_orders_86.2.2.2.1
theorem dL_orders_91 : decode cL_orders 91 = .ok (.istore 10, 2) := sdL_orders_86.2.2.2.2.1
theorem dL_orders_93 : decode cL_orders 93 = .ok (.iload 5, 2) := sdL_orders_86.2.2.2.2.2.1
theorem dL_orders_95 : decode cL_orders 95 = .ok (.iload 10, 2) := sdL_orders_86.2.2.2.2.2.2.1
theorem dL_orders_97 : decode cL_orders 97 = .ok (.ishr, 1) := sdL_orders_86.2.2.2.2.2.2.2.1
theorem sdL_orders_98 : dz_Seg cL_orders [(98, .iconst 1, 1), (99, .iand, 1), (100, .iconst 1, 1), (101, .if_icmp .eq 17, 3), (104, .lload 8, 2), (106, .aload_n 1, 1), (107, .iload 10, 2), (109, .iconst 3, 1)] := dz_sg _ 98 (by decide +kernel)
theorem dL_orders_98 : decode cL_orders 98 = .ok (.iconst 1, 1) := sdL_orders_98.1
theorem dL_orders_99 : decode cL_orders 99 = .ok (.iand, 1) := sdL_orders_98.2.1
theorem dL_orders_100 : decode cL_orders 100 = .ok (.iconst 1, 1) := sdL_orders_98.2.2.1
theorem dL_orders_101 : decode cL_orders 101 = .ok (.if_icmp .eq 17, 3) := sdL_orders_98.2.2.2.1
theorem dL_orders_104 : decode cL_orders 104 = .ok (.lload 8, 2) := sdL_orders_98.2.2.2.2.1
theorem dL_orders_106 : decode cL_orders 106 = .ok (.aload_n 1, 1) := sdL_orders_98.2.2.2.2.2.1
theorem dL_orders_107 : decode cL_orders 107 = .ok (.iload 10, 2) := sdL_orders_98.2.2.2.2.2.2.1
theorem dL_orders_109 : decode cL_orders 109 = .ok (.iconst 3, 1) := sdL_orders_98.2.2.2.2.2.2.2.1
theorem sdL_orders_110 : dz_Seg cL_orders [(110, .invokevirtual 109, 3), (113, .i2l, 1), (114, .lcmp, 1), (115, .ifCond .lt 36, 3), (118, .lload 8, 2), (120, .iload 5, 2), (122, .iload 10, 2), (124, .ishr, 1)] := dz_sg _ 110 (by decide +kernel)
theorem dL_orders_110 : decode cL_orders 110 = .ok (.invokevirtual 109, 3) := sdL_orders_110.1
theorem dL_orders_113 : decode cL_orders 113 = .ok (.i2l, 1) := sdL_orders_110.2.1
theorem dL_orders_114 : decode cL_orders 114 = .ok (.lcmp, 1) := sdL_orders_110.2.2.1
theorem dL_orders_115 : decode cL_orders 115 = .ok (.ifCond .lt 36, 3) := sdL_orders_110.2.2.2.1
theorem dL_orders_118 : decode cL_orders 118 = .ok (.lload 8, 2) := sdL_orders_110.2.2.2.2.1
theorem dL_orders_120 : decode cL_orders 120 = .ok (.iload 5, 2) := sdL_orders_110.2.2.2.2.2.1
theorem dL_orders_122 : decode cL_orders 122 = .ok (.iload 10, 2) := sdL_orders_110.2.2.2.2.2.2.1
theorem dL_orders_124 : decode cL_orders 124 = .ok (.ishr, 1) := sdL_orders_110.2.2.2.2.2.2.2.1
theorem sdL_orders_125 : dz_Seg cL_orders [(125, .iconst 1, 1), (126, .iand, 1), (127, .ifCond .ne 14, 3), (130, .aload_n 1, 1), (131, .iload 10, 2), (133, .iconst 3, 1), (134, .invokevirtual 109, 3), (137, .i2l, 1)] := dz_sg _ 125 (by decide +kernel)
theorem dL_orders_125 : decode cL_orders 125 = .ok (.iconst 1, 1) := sdL_orders_125.1
theorem dL_orders_126 : decode cL_orders 126 = .ok (.iand, 1) := sdL_orders_125.2.1
theorem dL_orders_127 : decode cL_orders 127 = .ok (.ifCond .ne 14, 3) := sdL_orders_125.2.2.1
theorem dL_orders_130 : decode cL_orders 130 = .ok (.aload_n 1, 1) := sdL_orders_125.2.2.2.1
theorem dL_orders_131 : decode cL_orders 131 = .ok (.iload 10, 2) := sdL_orders_125.2.2.2.2.1
theorem dL_orders_133 : decode cL_orders 133 = .ok (.iconst 3, 1) := sdL_orders_125.2.2.2.2.2.1
theorem dL_orders_134 : decode cL_orders 134 = .ok (.invokevirtual 109, 3) := sdL_orders_125.2.2.2.2.2.2.1
theorem dL_orders_137 : decode cL_orders 137 = .ok (.i2l, 1) := sdL_orders_125.2.2.2.2.2.2.2.1
theorem sdL_orders_138 : dz_Seg cL_orders [(138, .goto 4, 3), (141, .lconst 0, 1), (142, .lsub, 1), (143, .lstore 8, 2), (145, .iinc 10 1, 3), (148, .goto (-55), 3), (151, .aload_n 0, 1), (152, .getfield 13, 3)] := dz_sg _ 138 (by decide +kernel)
theorem dL_orders_138 : decode cL_orders 138 = .ok (.goto 4, 3) := sdL_orders_138.1
theorem dL_orders_141 : decode cL_orders 141 = .ok (.lconst 0, 1) := sdL_orders_138.2.1
theorem dL_orders_142 : decode cL_orders 142 = .ok (.lsub, 1) := sdL_orders_138.2.2.1
theorem dL_orders_143 : decode cL_orders 143 = .ok (.lstore 8, 2) := sdL_orders_138.2.2.2.1
theorem dL_orders_145 : decode cL_orders 145 = .ok (.iinc 10 1, 3) := sdL_orders_138.2.2.2.2.1
theorem dL_orders_148 : decode cL_orders 148 = .ok (.goto (-55), 3) := sdL_orders_138.2.2.2.2.2.1
theorem dL_orders_151 : decode cL_orders 151 = .ok (.aload_n 0, 1) := sdL_orders_138.2.2.2.2.2.2.1
theorem dL_orders_152 : decode cL_orders 152 = .ok (.getfield 13, 3) := sdL_orders_138.2.2.2.2.2.2.2.1
theorem sdL_orders_155 : dz_Seg cL_orders [(155, .iload 6, 2), (157, .iload 10, 2), (159, .iastore, 1), (160, .iload 5, 2), (162, .iconst 1, 1), (163, .iload 10, 2), (165, .ishl, 1), (166, .ior, 1)] := dz_sg _ 155 (by decide +kernel)
theorem dL_orders_155 : decode cL_orders 155 = .ok (.iload 6, 2) := sdL_orders_155.1
theorem dL_orders_157 : decode cL_orders 157 = .ok (.iload 10, 2) := sdL_orders_155.2.1
theorem dL_orders_159 : decode cL_orders 159 = .ok (.iastore, 1) := sdL_orders_155.2.2.1
theorem dL_orders_160 : decode cL_orders 160 = .ok (.iload 5, 2) := sdL_orders_155.2.2.2.1
theorem dL_orders_162 : decode cL_orders 162 = .ok (.iconst 1, 1) := sdL_orders_155.2.2.2.2.1
theorem dL_orders_163 : decode cL_orders 163 = .ok (.iload 10, 2) := sdL_orders_155.2.2.2.2.2.1
theorem dL_orders_165 : decode cL_orders 165 = .ok (.ishl, 1) := sdL_orders_155.2.2.2.2.2.2.1
theorem dL_orders_166 : decode cL_orders 166 = .ok (.ior, 1) := sdL_orders_155.2.2.2.2.2.2.2.1
theorem sdL_orders_167 : dz_Seg cL_orders [(167, .istore 5, 2), (169, .iinc 6 1, 3), (172, .goto (-163), 3), (175, .return_, 1)] := dz_sg _ 167 (by decide +kernel)
theorem dL_orders_167 : decode cL_orders 167 = .ok (.istore 5, 2) := sdL_orders_167.1
theorem dL_orders_169 : decode cL_orders 169 = .ok (.iinc 6 1, 3) := sdL_orders_167.2.1
theorem dL_orders_172 : decode cL_orders 172 = .ok (.goto (-163), 3) := sdL_orders_167.2.2.1
theorem dL_orders_175 : decode cL_orders 175 = .ok (.return_, 1) := sdL_orders_167.2.2.2.1
theorem sdL_results_0 : dz_Seg cL_results [(0, .aload_n 0, 1), (1, .getfield 120, 3), (4, .newarray .int, 2), (6, .astore_n 2, 1), (7, .aload_n 0, 1), (8, .getfield 120, 3), (11, .newarray .int, 2), (13, .astore_n 3, 1)] := dz_sg _ 0 (by decide +kernel)
theorem dL_results_0 : decode cL_results 0 = .ok (.aload_n 0, 1) := sdL_results_0.1
theorem dL_results_1 : decode cL_results 1 = .ok (.getfield 120, 3) := sdL_results_0.2.1
theorem dL_results_4 : decode cL_results 4 = .ok (.newarray .int, 2) := sdL_results_0.2.2.1
theorem dL_results_6 : decode cL_results 6 = .ok (.astore_n 2, 1) := sdL_results_0.2.2.2.1
theorem dL_results_7 : decode cL_results 7 = .ok (.aload_n 0, 1) := sdL_results_0.2.2.2.2.1
theorem dL_results_8 : decode cL_results 8 = .ok (.getfield 120, 3) := sdL_results_0.2.2.2.2.2.1
theorem dL_results_11 : decode cL_results 11 = .ok (.newarray .int, 2) := sdL_results_0.2.2.2.2.2.2.1
theorem dL_results_13 : decode cL_results 13 = .ok (.astore_n 3, 1) := sdL_results_0.2.2.2.2.2.2.2.1
theorem sdL_results_14 : dz_Seg cL_results [(14, .iconst 0, 1), (15, .istore 4, 2), (17, .iload 4, 2), (19, .aload_n 0, 1), (20, .getfield 106, 3), (23, .if_icmp .ge 25, 3), (26, .aload_n 0, 1), (27, .getfield 16, 3)] := dz_sg _ 14 (by decide +kernel)
theorem dL_results_14 : decode cL_results 14 = .ok (.iconst 0, 1) := sdL_results_14.1
theorem dL_results_15 : decode cL_results 15 = .ok (.istore 4, 2) := sdL_results_14.2.1
theorem dL_results_17 : decode cL_results 17 = .ok (.iload 4, 2) := sdL_results_14.2.2.1
theorem dL_results_19 : decode cL_results 19 = .ok (.aload_n 0, 1) := sdL_results_14.2.2.2.1
theorem dL_results_20 : decode cL_results 20 = .ok (.getfield 106, 3) := sdL_results_14.2.2.2.2.1
theorem dL_results_23 : decode cL_results 23 = .ok (.if_icmp .ge 25, 3) := sdL_results_14.2.2.2.2.2.1
theorem dL_results_26 : decode cL_results 26 = .ok (.aload_n 0, 1) := sdL_results_14.2.2.2.2.2.2.1
theorem dL_results_27 : decode cL_results 27 = .ok (.getfield 16, 3) := sdL_results_14.2.2.2.2.2.2.2.1
theorem sdL_results_30 : dz_Seg cL_results [(30, .iload 4, 2), (32, .iconst (-1), 1), (33, .iastore, 1), (34, .aload_n 0, 1), (35, .getfield 19, 3), (38, .iload 4, 2), (40, .iconst 0, 1), (41, .iastore, 1)] := dz_sg _ 30 (by decide +kernel)
theorem dL_results_30 : decode cL_results 30 = .ok (.iload 4, 2) := sdL_results_30.1
theorem dL_results_32 : decode cL_results 32 = .ok (.iconst (-1), 1) := sdL_results_30.2.1
theorem dL_results_33 : decode cL_results 33 = .ok (.iastore, 1) := sdL_results_30.2.2.1
theorem dL_results_34 : decode cL_results 34 = .ok (.aload_n 0, 1) := sdL_results_30.2.2.2.1
theorem dL_results_35 : decode cL_results 35 = .ok (.getfield 19, 3) := sdL_results_30.2.2.2.2.1
theorem dL_results_38 : decode cL_results 38 = .ok (.iload 4, 2) := sdL_results_30.2.2.2.2.2.1
theorem dL_results_40 : decode cL_results 40 = .ok (.iconst 0, 1) := sdL_results_30.2.2.2.2.2.2.1
theorem dL_results_41 : decode cL_results 41 = .ok (.iastore, 1) := sdL_results_30.2.2.2.2.2.2.2.1
theorem sdL_results_42 : dz_Seg cL_results [(42, .iinc 4 1, 3), (45, .goto (-28), 3), (48, .iconst 0, 1), (49, .istore 4, 2), (51, .iload 4, 2), (53, .aload_n 0, 1), (54, .getfield 120, 3), (57, .if_icmp .ge 249, 3)] := dz_sg _ 42 (by decide +kernel)
theorem dL_results_42 : decode cL_results 42 = .ok (.iinc 4 1, 3) := sdL_results_42.1
theorem dL_results_45 : decode cL_results 45 = .ok (.goto (-28), 3) := sdL_results_42.2.1
theorem dL_results_48 : decode cL_results 48 = .ok (.iconst 0, 1) := sdL_results_42.2.2.1
theorem dL_results_49 : decode cL_results 49 = .ok (.istore 4, 2) := sdL_results_42.2.2.2.1
theorem dL_results_51 : decode cL_results 51 = .ok (.iload 4, 2) := sdL_results_42.2.2.2.2.1
theorem dL_results_53 : decode cL_results 53 = .ok (.aload_n 0, 1) := sdL_results_42.2.2.2.2.2.1
theorem dL_results_54 : decode cL_results 54 = .ok (.getfield 120, 3) := sdL_results_42.2.2.2.2.2.2.1
theorem dL_results_57 : decode cL_results 57 = .ok (.if_icmp .ge 249, 3) := sdL_results_42.2.2.2.2.2.2.2.1
theorem sdL_results_60 : dz_Seg cL_results [(60, .aload_n 2, 1), (61, .iload 4, 2), (63, .aload_n 1, 1), (64, .iload 4, 2), (66, .iconst 1, 1), (67, .invokevirtual 123, 3), (70, .iastore, 1), (71, .aload_n 3, 1)] := dz_sg _ 60 (by decide +kernel)
theorem dL_results_60 : decode cL_results 60 = .ok (.aload_n 2, 1) := sdL_results_60.1
theorem dL_results_61 : decode cL_results 61 = .ok (.iload 4, 2) := sdL_results_60.2.1
theorem dL_results_63 : decode cL_results 63 = .ok (.aload_n 1, 1) := sdL_results_60.2.2.1
theorem dL_results_64 : decode cL_results 64 = .ok (.iload 4, 2) := sdL_results_60.2.2.2.1
theorem dL_results_66 : decode cL_results 66 = .ok (.iconst 1, 1) := sdL_results_60.2.2.2.2.1
theorem dL_results_67 : decode cL_results 67 = .ok (.invokevirtual 123, 3) := sdL_results_60.2.2.2.2.2.1
theorem dL_results_70 : decode cL_results 70 = .ok (.iastore, 1) := sdL_results_60.2.2.2.2.2.2.1
theorem dL_results_71 : decode cL_results 71 = .ok (.aload_n 3, 1) := sdL_results_60.2.2.2.2.2.2.2.1
theorem sdL_results_72 : dz_Seg cL_results [(72, .iload 4, 2), (74, .aload_n 1, 1), (75, .iload 4, 2), (77, .iconst 2, 1), (78, .invokevirtual 123, 3), (81, .iastore, 1), (82, .iconst 0, 1), (83, .istore 5, 2)] := dz_sg _ 72 (by decide +kernel)
theorem dL_results_72 : decode cL_results 72 = .ok (.iload 4, 2) := sdL_results_72.1
theorem dL_results_74 : decode cL_results 74 = .ok (.aload_n 1, 1) := sdL_results_72.2.1
theorem dL_results_75 : decode cL_results 75 = .ok (.iload 4, 2) := sdL_results_72.2.2.1
theorem dL_results_77 : decode cL_results 77 = .ok (.iconst 2, 1) := sdL_results_72.2.2.2.1
theorem dL_results_78 : decode cL_results 78 = .ok (.invokevirtual 123, 3) := sdL_results_72.2.2.2.2.1
theorem dL_results_81 : decode cL_results 81 = .ok (.iastore, 1) := sdL_results_72.2.2.2.2.2.1
theorem dL_results_82 : decode cL_results 82 = .ok (.iconst 0, 1) := sdL_results_72.2.2.2.2.2.2.1
theorem dL_results_83 : decode cL_results 83 = .ok (.istore 5, 2) := sdL_results_72.2.2.2.2.2.2.2.1
theorem sdL_results_85 : dz_Seg cL_results [(85, .iconst 0, 1), (86, .istore 6, 2), (88, .iload 6, 2), (90, .aload_n 0, 1), (91, .getfield 106, 3), (94, .if_icmp .ge 184, 3), (97, .iconst (-1), 1), (98, .istore 7, 2)] := dz_sg _ 85 (by decide +kernel)
theorem dL_results_85 : decode cL_results 85 = .ok (.iconst 0, 1) := sdL_results_85.1
theorem dL_results_86 : decode cL_results 86 = .ok (.istore 6, 2) := sdL_results_85.2.1
theorem dL_results_88 : decode cL_results 88 = .ok (.iload 6, 2) := sdL_results_85.2.2.1
theorem dL_results_90 : decode cL_results 90 = .ok (.aload_n 0, 1) := sdL_results_85.2.2.2.1
theorem dL_results_91 : decode cL_results 91 = .ok (.getfield 106, 3) := sdL_results_85.2.2.2.2.1
theorem dL_results_94 : decode cL_results 94 = .ok (.if_icmp .ge 184, 3) := sdL_results_85.2.2.2.2.2.1
theorem dL_results_97 : decode cL_results 97 = .ok (.iconst (-1), 1) := sdL_results_85.2.2.2.2.2.2.1
theorem dL_results_98 : decode cL_results 98 = .ok (.istore 7, 2) := sdL_results_85.2.2.2.2.2.2.2.1
theorem sdL_results_100 : dz_Seg cL_results [(100, .iconst 0, 1), (101, .istore 8, 2), (103, .iload 8, 2), (105, .aload_n 0, 1), (106, .getfield 106, 3), (109, .if_icmp .ge 70, 3), (112, .aload_n 0, 1), (113, .getfield 13, 3)] := dz_sg _ 100 (by decide +kernel)
theorem dL_results_100 : decode cL_results 100 = .ok (.iconst 0, 1) := sdL_results_100.1
theorem dL_results_101 : decode cL_results 101 = .ok (.istore 8, 2) := sdL_results_100.2.1
theorem dL_results_103 : decode cL_results 103 = .ok (.iload 8, 2) := sdL_results_100.2.2.1
theorem dL_results_105 : decode cL_results 105 = .ok (.aload_n 0, 1) := sdL_results_100.2.2.2.1
theorem dL_results_106 : decode cL_results 106 = .ok (.getfield 106, 3) := sdL_results_100.2.2.2.2.1
theorem dL_results_109 : decode cL_results 109 = .ok (.if_icmp .ge 70, 3) := sdL_results_100.2.2.2.2.2.1
theorem dL_results_112 : decode cL_results 112 = .ok (.aload_n 0, 1) := sdL_results_100.2.2.2.2.2.2.1
theorem dL_results_113 : decode cL_results 113 = .ok (.getfield 13, 3) := sdL_results_100.2.2.2.2.2.2.2.1
theorem sdL_results_116 : dz_Seg cL_results [(116, .iload 8, 2), (118, .iaload, 1), (119, .istore 9, 2), (121, .iload 5, 2), (123, .iload 9, 2), (125, .ishr, 1), (126, .iconst 1, 1), (127, .iand, 1)] := dz_sg _ 116 (by decide +kernel)
theorem dL_results_116 : decode cL_results 116 = .ok (.iload 8, 2) := sdL_results_116.1
theorem dL_results_118 : decode cL_results 118 = .ok (.iaload, 1) := sdL_results_116.2.1
theorem dL_results_119 : decode cL_results 119 = .ok (.istore 9, 2) := sdL_results_116.2.2.1
theorem dL_results_121 : decode cL_results 121 = .ok (.iload 5, 2) := sdL_results_116.2.2.2.1
theorem dL_results_123 : decode cL_results 123 = .ok (.iload 9, 2) := sdL_results_116.2.2.2.2.1
theorem dL_results_125 : decode cL_results 125 = .ok (.ishr, 1) := sdL_results_116.2.2.2.2.2.1
theorem dL_results_126 : decode cL_results 126 = .ok (.iconst 1, 1) := sdL_results_116.2.2.2.2.2.2.1
theorem dL_results_127 : decode cL_results 127 = .ok (.iand, 1) := sdL_results_116.2.2.2.2.2.2.2.1
theorem sdL_results_128 : dz_Seg cL_results [(128, .iconst 1, 1), (129, .if_icmp .eq 44, 3), (132, .aload_n 1, 1), (133, .iload 9, 2), (135, .iconst 0, 1), (136, .invokevirtual 126, 3), (139, .iload 4, 2), (141, .if_icmp .eq 6, 3)] := dz_sg _ 128 (by decide +kernel)
theorem dL_results_128 : decode cL_results 128 = .ok (.iconst 1, 1) := sdL_results_128.1
theorem dL_results_129 : decode cL_results 129 = .ok (.if_icmp .eq 44, 3) := sdL_results_128.2.1
theorem dL_results_132 : decode cL_results 132 = .ok (.aload_n 1, 1) := sdL_results_128.2.2.1
theorem dL_results_133 : decode cL_results 133 = .ok (.iload 9, 2) := sdL_results_128.2.2.2.1
theorem dL_results_135 : decode cL_results 135 = .ok (.iconst 0, 1) := sdL_results_128.2.2.2.2.1
theorem dL_results_136 : decode cL_results 136 = .ok (.invokevirtual 126, 3) := sdL_results_128.2.2.2.2.2.1
theorem dL_results_139 : decode cL_results 139 = .ok (.iload 4, 2) := sdL_results_128.2.2.2.2.2.2.1
theorem dL_results_141 : decode cL_results 141 = .ok (.if_icmp .eq 6, 3) := sdL_results_128.2.2.2.2.2.2.2.1
theorem sdL_results_144 : dz_Seg cL_results [(144, .goto 29, 3), (147, .iload 7, 2), (149, .ifCond .lt 20, 3), (152, .aload_n 1, 1), (153, .iload 9, 2), (155, .iconst 2, 1), (156, .invokevirtual 109, 3), (159, .aload_n 1, 1)] := dz_sg _ 144 (by decide +kernel)
theorem dL_results_144 : decode cL_results 144 = .ok (.goto 29, 3) := sdL_results_144.1
theorem dL_results_147 : decode cL_results 147 = .ok (.iload 7, 2) := sdL_results_144.2.1
theorem dL_results_149 : decode cL_results 149 = .ok (.ifCond .lt 20, 3) := sdL_results_144.2.2.1
theorem dL_results_152 : decode cL_results 152 = .ok (.aload_n 1, 1) := sdL_results_144.2.2.2.1
theorem dL_results_153 : decode cL_results 153 = .ok (.iload 9, 2) := sdL_results_144.2.2.2.2.1
theorem dL_results_155 : decode cL_results 155 = .ok (.iconst 2, 1) := sdL_results_144.2.2.2.2.2.1
theorem dL_results_156 : decode cL_results 156 = .ok (.invokevirtual 109, 3) := sdL_results_144.2.2.2.2.2.2.1
theorem dL_results_159 : decode cL_results 159 = .ok (.aload_n 1, 1) := sdL_results_144.2.2.2.2.2.2.2.1
theorem sdL_results_160 : dz_Seg cL_results [(160, .iload 7, 2), (162, .iconst 2, 1), (163, .invokevirtual 109, 3), (166, .if_icmp .le 7, 3), (169, .iload 9, 2), (171, .istore 7, 2), (173, .iinc 8 1, 3), (176, .goto (-73), 3)] := dz_sg _ 160 (by decide +kernel)
theorem dL_results_160 : decode cL_results 160 = .ok (.iload 7, 2) := sdL_results_160.1
theorem dL_results_162 : decode cL_results 162 = .ok (.iconst 2, 1) := sdL_results_160.2.1
theorem dL_results_163 : decode cL_results 163 = .ok (.invokevirtual 109, 3) := sdL_results_160.2.2.1
theorem dL_results_166 : decode cL_results 166 = .ok (.if_icmp .le 7, 3) := sdL_results_160.2.2.2.1
theorem dL_results_169 : decode cL_results 169 = .ok (.iload 9, 2) := sdL_results_160.2.2.2.2.1
theorem dL_results_171 : decode cL_results 171 = .ok (.istore 7, 2) := sdL_results_160.2.2.2.2.2.1
theorem dL_results_173 : decode cL_results 173 = .ok (.iinc 8 1, 3) := sdL_results_160.2.2.2.2.2.2.1
theorem dL_results_176 : decode cL_results 176 = .ok (.goto (-73), 3) := sdL_results_160.2.2.2.2.2.2.2.1
theorem sdL_results_179 : dz_Seg cL_results [(179, .iload 7, 2), (181, .ifCond .ge 6, 3), (184, .goto 94, 3), (187, .iload 5, 2), (189, .iconst 1, 1), (190, .iload 7, 2), (192, .ishl, 1), (193, .ior, 1)] := dz_sg _ 179 (by decide +kernel)
theorem dL_results_179 : decode cL_results 179 = .ok (.iload 7, 2) := sdL_results_179.1
theorem dL_results_181 : decode cL_results 181 = .ok (.ifCond .ge 6, 3) := sdL_results_179.2.1
theorem dL_results_184 : decode cL_results 184 = .ok (.goto 94, 3) := sdL_results_179.2.2.1
theorem dL_results_187 : decode cL_results 187 = .ok (.iload 5, 2) := sdL_results_179.2.2.2.1
theorem dL_results_189 : decode cL_results 189 = .ok (.iconst 1, 1) := sdL_results_179.2.2.2.2.1
theorem dL_results_190 : decode cL_results 190 = .ok (.iload 7, 2) := sdL_results_179.2.2.2.2.2.1
theorem dL_results_192 : decode cL_results 192 = .ok (.ishl, 1) := sdL_results_179.2.2.2.2.2.2.1
theorem dL_results_193 : decode cL_results 193 = .ok (.ior, 1) := sdL_results_179.2.2.2.2.2.2.2.1
theorem sdL_results_194 : dz_Seg cL_results [(194, .istore 5, 2), (196, .aload_n 1, 1), (197, .iload 7, 2), (199, .iconst 0, 1), (200, .invokevirtual 109, 3), (203, .aload_n 2, 1), (204, .iload 4, 2), (206, .iaload, 1)] := dz_sg _ 194 (by decide +kernel)
theorem dL_results_194 : decode cL_results 194 = .ok (.istore 5, 2) := sdL_results_194.1
theorem dL_results_196 : decode cL_results 196 = .ok (.aload_n 1, 1) := sdL_results_194.2.1
theorem dL_results_197 : decode cL_results 197 = .ok (.iload 7, 2) := sdL_results_194.2.2.1
theorem dL_results_199 : decode cL_results 199 = .ok (.iconst 0, 1) := sdL_results_194.2.2.2.1
theorem dL_results_200 : decode cL_results 200 = .ok (.invokevirtual 109, 3) := sdL_results_194.2.2.2.2.1
theorem dL_results_203 : decode cL_results 203 = .ok (.aload_n 2, 1) := sdL_results_194.2.2.2.2.2.1
theorem dL_results_204 : decode cL_results 204 = .ok (.iload 4, 2) := sdL_results_194.2.2.2.2.2.2.1
theorem dL_results_206 : decode cL_results 206 = .ok (.iaload, 1) := sdL_results_194.2.2.2.2.2.2.2.1
theorem sdL_results_207 : dz_Seg cL_results [(207, .if_icmp .gt 65, 3), (210, .aload_n 1, 1), (211, .iload 7, 2), (213, .iconst 1, 1), (214, .invokevirtual 109, 3), (217, .aload_n 3, 1), (218, .iload 4, 2), (220, .iaload, 1)] := dz_sg _ 207 (by decide +kernel)
theorem dL_results_207 : decode cL_results 207 = .ok (.if_icmp .gt 65, 3) := sdL_results_207.1
theorem dL_results_210 : decode cL_results 210 = .ok (.aload_n 1, 1) := sdL_results_207.2.1
theorem dL_results_211 : decode cL_results 211 = .ok (.iload 7, 2) := sdL_results_207.2.2.1
theorem dL_results_213 : decode cL_results 213 = .ok (.iconst 1, 1) := sdL_results_207.2.2.2.1
theorem dL_results_214 : decode cL_results 214 = .ok (.invokevirtual 109, 3) := sdL_results_207.2.2.2.2.1
theorem dL_results_217 : decode cL_results 217 = .ok (.aload_n 3, 1) := sdL_results_207.2.2.2.2.2.1
theorem dL_results_218 : decode cL_results 218 = .ok (.iload 4, 2) := sdL_results_207.2.2.2.2.2.2.1
theorem dL_results_220 : decode cL_results 220 = .ok (.iaload, 1) := sdL_results_207.2.2.2.2.2.2.2.1
theorem sdL_results_221 : dz_Seg cL_results [(221, .if_icmp .le 6, 3), (224, .goto 48, 3), (227, .aload_n 2, 1), (228, .iload 4, 2), (230, .dup2, 1), (231, .iaload, 1), (232, .aload_n 1, 1), (233, .iload 7, 2)] := dz_sg _ 221 (by decide +kernel)
theorem dL_results_221 : decode cL_results 221 = .ok (.if_icmp .le 6, 3) := sdL_results_221.1
theorem dL_results_224 : decode cL_results 224 = .ok (.goto 48, 3) := sdL_results_221.2.1
theorem dL_results_227 : decode cL_results 227 = .ok (.aload_n 2, 1) := sdL_results_221.2.2.1
theorem dL_results_228 : decode cL_results 228 = .ok (.iload 4, 2) := sdL_results_221.2.2.2.1
theorem dL_results_230 : decode cL_results 230 = .ok (.dup2, 1) := sdL_results_221.2.2.2.2.1
theorem dL_results_231 : decode cL_results 231 = .ok (.iaload, 1) := sdL_results_221.2.2.2.2.2.1
theorem dL_results_232 : decode cL_results 232 = .ok (.aload_n 1, 1) := sdL_results_221.2.2.2.2.2.2.1
theorem dL_results_233 : decode cL_results 233 = .ok (.iload 7, 2) := sdL_results_221.2.2.2.2.2.2.2.1
theorem sdL_results_235 : dz_Seg cL_results [(235, .iconst 0, 1), (236, .invokevirtual 109, 3), (239, .isub, 1), (240, .iastore, 1), (241, .aload_n 3, 1), (242, .iload 4, 2), (244, .dup2, 1), (245, .iaload, 1)] := dz_sg _ 235 (by decide +kernel)
theorem dL_results_235 : decode cL_results 235 = .ok (.iconst 0, 1) := sdL_results_235.1
theorem dL_results_236 : decode cL_results 236 = .ok (.invokevirtual 109, 3) := sdL_results_235.2.1
theorem dL_results_239 : decode cL_results 239 = .ok (.isub, 1) := sdL_results_235.2.2.1
theorem dL_results_240 : decode cL_results 240 = .ok (.iastore, 1) := sdL_results_235.2.2.2.1
theorem dL_results_241 : decode cL_results 241 = .ok (.aload_n 3, 1) := sdL_results_235.2.2.2.2.1
theorem dL_results_242 : decode cL_results 242 = .ok (.iload 4, 2) := sdL_results_235.2.2.2.2.2.1
theorem dL_results_244 : decode cL_results 244 = .ok (.dup2, 1) := sdL_results_235.2.2.2.2.2.2.1
theorem dL_results_245 : decode cL_results 245 = .ok (.iaload, 1) := sdL_results_235.2.2.2.2.2.2.2.1
theorem sdL_results_246 : dz_Seg cL_results [(246, .aload_n 1, 1), (247, .iload 7, 2), (249, .iconst 1, 1), (250, .invokevirtual 109, 3), (253, .isub, 1), (254, .iastore, 1), (255, .aload_n 0, 1), (256, .getfield 16, 3)] := dz_sg _ 246 (by decide +kernel)
theorem dL_results_246 : decode cL_results 246 = .ok (.aload_n 1, 1) := sdL_results_246.1
theorem dL_results_247 : decode cL_results 247 = .ok (.iload 7, 2) := sdL_results_246.2.1
theorem dL_results_249 : decode cL_results 249 = .ok (.iconst 1, 1) := sdL_results_246.2.2.1
theorem dL_results_250 : decode cL_results 250 = .ok (.invokevirtual 109, 3) := sdL_results_246.2.2.2.1
theorem dL_results_253 : decode cL_results 253 = .ok (.isub, 1) := sdL_results_246.2.2.2.2.1
theorem dL_results_254 : decode cL_results 254 = .ok (.iastore, 1) := sdL_results_246.2.2.2.2.2.1
theorem dL_results_255 : decode cL_results 255 = .ok (.aload_n 0, 1) := sdL_results_246.2.2.2.2.2.2.1
theorem dL_results_256 : decode cL_results 256 = .ok (.getfield 16, 3) := sdL_results_246.2.2.2.2.2.2.2.1
theorem sdL_results_259 : dz_Seg cL_results [(259, .iload 7, 2), (261, .iload 4, 2), (263, .iastore, 1), (264, .aload_n 0, 1), (265, .getfield 19, 3), (268, .iload 7, 2), (270, .iconst 1, 1), (271, .iastore, 1)] := dz_sg _ 259 (by decide +kernel)
theorem dL_results_259 : decode cL_results 259 = .ok (.iload 7, 2) := sdL_results_259.1
theorem dL_results_261 : decode cL_results 261 = .ok (.iload 4, 2) := sdL_results_259.2.1
theorem dL_results_263 : decode cL_results 263 = .ok (.iastore, 1) := sdL_results_259.2.2.1
theorem dL_results_264 : decode cL_results 264 = .ok (.aload_n 0, 1) := sdL_results_259.2.2.2.1
theorem dL_results_265 : decode cL_results 265 = .ok (.getfield 19, 3) := sdL_results_259.2.2.2.2.1
theorem dL_results_268 : decode cL_results 268 = .ok (.iload 7, 2) := sdL_results_259.2.2.2.2.2.1
theorem dL_results_270 : decode cL_results 270 = .ok (.iconst 1, 1) := sdL_results_259.2.2.2.2.2.2.1
theorem dL_results_271 : decode cL_results 271 = .ok (.iastore, 1) := sdL_results_259.2.2.2.2.2.2.2.1
theorem sdL_results_272 : dz_Seg cL_results [(272, .iinc 6 1, 3), (275, .goto (-187), 3), (278, .aload_n 2, 1), (279, .iload 4, 2), (281, .dup2, 1), (282, .iaload, 1), (283, .aload_n 1, 1), (284, .iload 4, 2)] := dz_sg _ 272 (by decide +kernel)
theorem dL_results_272 : decode cL_results 272 = .ok (.iinc 6 1, 3) := sdL_results_272.1
theorem dL_results_275 : decode cL_results 275 = .ok (.goto (-187), 3) := sdL_results_272.2.1
theorem dL_results_278 : decode cL_results 278 = .ok (.aload_n 2, 1) := sdL_results_272.2.2.1
theorem dL_results_279 : decode cL_results 279 = .ok (.iload 4, 2) := sdL_results_272.2.2.2.1
theorem dL_results_281 : decode cL_results 281 = .ok (.dup2, 1) := sdL_results_272.2.2.2.2.1
theorem dL_results_282 : decode cL_results 282 = .ok (.iaload, 1) := sdL_results_272.2.2.2.2.2.1
theorem dL_results_283 : decode cL_results 283 = .ok (.aload_n 1, 1) := sdL_results_272.2.2.2.2.2.2.1
theorem dL_results_284 : decode cL_results 284 = .ok (.iload 4, 2) := sdL_results_272.2.2.2.2.2.2.2.1
theorem sdL_results_286 : dz_Seg cL_results [(286, .iconst 0, 1), (287, .invokevirtual 123, 3), (290, .aload_n 1, 1), (291, .iload 4, 2), (293, .iconst 1, 1), (294, .invokevirtual 123, 3), (297, .isub, 1), (298, .iadd, 1)] := dz_sg _ 286 (by decide +kernel)
theorem dL_results_286 : decode cL_results 286 = .ok (.iconst 0, 1) := sdL_results_286.1
theorem dL_results_287 : decode cL_results 287 = .ok (.invokevirtual 123, 3) := sdL_results_286.2.1
theorem dL_results_290 : decode cL_results 290 = .ok (.aload_n 1, 1) := sdL_results_286.2.2.1
theorem dL_results_291 : decode cL_results 291 = .ok (.iload 4, 2) := sdL_results_286.2.2.2.1
theorem dL_results_293 : decode cL_results 293 = .ok (.iconst 1, 1) := sdL_results_286.2.2.2.2.1
theorem dL_results_294 : decode cL_results 294 = .ok (.invokevirtual 123, 3) := sdL_results_286.2.2.2.2.2.1
theorem dL_results_297 : decode cL_results 297 = .ok (.isub, 1) := sdL_results_286.2.2.2.2.2.2.1
theorem dL_results_298 : decode cL_results 298 = .ok (.iadd, 1) := sdL_results_286.2.2.2.2.2.2.2.1
theorem sdL_results_299 : dz_Seg cL_results [(299, .iastore, 1), (300, .iinc 4 1, 3), (303, .goto (-252), 3), (306, .iconst 0, 1), (307, .istore 4, 2), (309, .iload 4, 2), (311, .aload_n 0, 1), (312, .getfield 106, 3)] := dz_sg _ 299 (by decide +kernel)
theorem dL_results_299 : decode cL_results 299 = .ok (.iastore, 1) := sdL_results_299.1
theorem dL_results_300 : decode cL_results 300 = .ok (.iinc 4 1, 3) := sdL_results_299.2.1
theorem dL_results_303 : decode cL_results 303 = .ok (.goto (-252), 3) := sdL_results_299.2.2.1
theorem dL_results_306 : decode cL_results 306 = .ok (.iconst 0, 1) := sdL_results_299.2.2.2.1
theorem dL_results_307 : decode cL_results 307 = .ok (.istore 4, 2) := sdL_results_299.2.2.2.2.1
theorem dL_results_309 : decode cL_results 309 = .ok (.iload 4, 2) := sdL_results_299.2.2.2.2.2.1
theorem dL_results_311 : decode cL_results 311 = .ok (.aload_n 0, 1) := sdL_results_299.2.2.2.2.2.2.1
theorem dL_results_312 : decode cL_results 312 = .ok (.getfield 106, 3) := sdL_results_299.2.2.2.2.2.2.2.1
theorem sdL_results_315 : dz_Seg cL_results [(315, .if_icmp .ge 135, 3), (318, .aload_n 0, 1), (319, .getfield 13, 3), (322, .iload 4, 2), (324, .iaload, 1), (325, .istore 5, 2), (327, .iconst 0, 1), (328, .istore 6, 2)] := dz_sg _ 315 (by decide +kernel)
theorem dL_results_315 : decode cL_results 315 = .ok (.if_icmp .ge 135, 3) := sdL_results_315.1
theorem dL_results_318 : decode cL_results 318 = .ok (.aload_n 0, 1) := sdL_results_315.2.1
theorem dL_results_319 : decode cL_results 319 = .ok (.getfield 13, 3) := sdL_results_315.2.2.1
theorem dL_results_322 : decode cL_results 322 = .ok (.iload 4, 2) := sdL_results_315.2.2.2.1
theorem dL_results_324 : decode cL_results 324 = .ok (.iaload, 1) := sdL_results_315.2.2.2.2.1
theorem dL_results_325 : decode cL_results 325 = .ok (.istore 5, 2) := sdL_results_315.2.2.2.2.2.1
theorem dL_results_327 : decode cL_results 327 = .ok (.iconst 0, 1) := sdL_results_315.2.2.2.2.2.2.1
theorem dL_results_328 : decode cL_results 328 = .ok (.istore 6, 2) := sdL_results_315.2.2.2.2.2.2.2.1
theorem sdL_results_330 : dz_Seg cL_results [(330, .iload 6, 2), (332, .aload_n 1, 1), (333, .iload 5, 2), (335, .iconst 4, 1), (336, .invokevirtual 109, 3), (339, .if_icmp .ge 105, 3), (342, .aload_n 0, 1), (343, .getfield 16, 3)] := dz_sg _ 330 (by decide +kernel)
theorem dL_results_330 : decode cL_results 330 = .ok (.iload 6, 2) := sdL_results_330.1
theorem dL_results_332 : decode cL_results 332 = .ok (.aload_n 1, 1) := sdL_results_330.2.1
theorem dL_results_333 : decode cL_results 333 = .ok (.iload 5, 2) := sdL_results_330.2.2.1
theorem dL_results_335 : decode cL_results 335 = .ok (.iconst 4, 1) := sdL_results_330.2.2.2.1
theorem dL_results_336 : decode cL_results 336 = .ok (.invokevirtual 109, 3) := sdL_results_330.2.2.2.2.1
theorem dL_results_339 : decode cL_results 339 = .ok (.if_icmp .ge 105, 3) := sdL_results_330.2.2.2.2.2.1
theorem dL_results_342 : decode cL_results 342 = .ok (.aload_n 0, 1) := sdL_results_330.2.2.2.2.2.2.1
theorem dL_results_343 : decode cL_results 343 = .ok (.getfield 16, 3) := sdL_results_330.2.2.2.2.2.2.2.1
theorem sdL_results_346 : dz_Seg cL_results [(346, .iload 5, 2), (348, .iaload, 1), (349, .ifCond .ge 95, 3), (352, .aload_n 1, 1), (353, .iload 5, 2), (355, .iload 6, 2), (357, .invokevirtual 126, 3), (360, .istore 7, 2)] := dz_sg _ 346 (by decide +kernel)
theorem dL_results_346 : decode cL_results 346 = .ok (.iload 5, 2) := sdL_results_346.1
theorem dL_results_348 : decode cL_results 348 = .ok (.iaload, 1) := sdL_results_346.2.1
theorem dL_results_349 : decode cL_results 349 = .ok (.ifCond .ge 95, 3) := sdL_results_346.2.2.1
theorem dL_results_352 : decode cL_results 352 = .ok (.aload_n 1, 1) := sdL_results_346.2.2.2.1
theorem dL_results_353 : decode cL_results 353 = .ok (.iload 5, 2) := sdL_results_346.2.2.2.2.1
theorem dL_results_355 : decode cL_results 355 = .ok (.iload 6, 2) := sdL_results_346.2.2.2.2.2.1
theorem dL_results_357 : decode cL_results 357 = .ok (.invokevirtual 126, 3) := sdL_results_346.2.2.2.2.2.2.1
theorem dL_results_360 : decode cL_results 360 = .ok (.istore 7, 2) := sdL_results_346.2.2.2.2.2.2.2.1
theorem sdL_results_362 : dz_Seg cL_results [(362, .aload_n 1, 1), (363, .iload 5, 2), (365, .iconst 0, 1), (366, .invokevirtual 109, 3), (369, .aload_n 2, 1), (370, .iload 7, 2), (372, .iaload, 1), (373, .if_icmp .gt 65, 3)] := dz_sg _ 362 (by decide +kernel)
theorem dL_results_362 : decode cL_results 362 = .ok (.aload_n 1, 1) := sdL_results_362.1
theorem dL_results_363 : decode cL_results 363 = .ok (.iload 5, 2) := sdL_results_362.2.1
theorem dL_results_365 : decode cL_results 365 = .ok (.iconst 0, 1) := sdL_results_362.2.2.1
theorem dL_results_366 : decode cL_results 366 = .ok (.invokevirtual 109, 3) := sdL_results_362.2.2.2.1
theorem dL_results_369 : decode cL_results 369 = .ok (.aload_n 2, 1) := sdL_results_362.2.2.2.2.1
theorem dL_results_370 : decode cL_results 370 = .ok (.iload 7, 2) := sdL_results_362.2.2.2.2.2.1
theorem dL_results_372 : decode cL_results 372 = .ok (.iaload, 1) := sdL_results_362.2.2.2.2.2.2.1
theorem dL_results_373 : decode cL_results 373 = .ok (.if_icmp .gt 65, 3) := sdL_results_362.2.2.2.2.2.2.2.1
theorem sdL_results_376 : dz_Seg cL_results [(376, .aload_n 1, 1), (377, .iload 5, 2), (379, .iconst 1, 1), (380, .invokevirtual 109, 3), (383, .aload_n 3, 1), (384, .iload 7, 2), (386, .iaload, 1), (387, .if_icmp .le 6, 3)] := dz_sg _ 376 (by decide +kernel)
theorem dL_results_376 : decode cL_results 376 = .ok (.aload_n 1, 1) := sdL_results_376.1
theorem dL_results_377 : decode cL_results 377 = .ok (.iload 5, 2) := sdL_results_376.2.1
theorem dL_results_379 : decode cL_results 379 = .ok (.iconst 1, 1) := sdL_results_376.2.2.1
theorem dL_results_380 : decode cL_results 380 = .ok (.invokevirtual 109, 3) := sdL_results_376.2.2.2.1
theorem dL_results_383 : decode cL_results 383 = .ok (.aload_n 3, 1) := sdL_results_376.2.2.2.2.1
theorem dL_results_384 : decode cL_results 384 = .ok (.iload 7, 2) := sdL_results_376.2.2.2.2.2.1
theorem dL_results_386 : decode cL_results 386 = .ok (.iaload, 1) := sdL_results_376.2.2.2.2.2.2.1
theorem dL_results_387 : decode cL_results 387 = .ok (.if_icmp .le 6, 3) := sdL_results_376.2.2.2.2.2.2.2.1
theorem sdL_results_390 : dz_Seg cL_results [(390, .goto 48, 3), (393, .aload_n 2, 1), (394, .iload 7, 2), (396, .dup2, 1), (397, .iaload, 1), (398, .aload_n 1, 1), (399, .iload 5, 2), (401, .iconst 0, 1)] := dz_sg _ 390 (by decide +kernel)
theorem dL_results_390 : decode cL_results 390 = .ok (.goto 48, 3) := sdL_results_390.1
theorem dL_results_393 : decode cL_results 393 = .ok (.aload_n 2, 1) := sdL_results_390.2.1
theorem dL_results_394 : decode cL_results 394 = .ok (.iload 7, 2) := sdL_results_390.2.2.1
theorem dL_results_396 : decode cL_results 396 = .ok (.dup2, 1) := sdL_results_390.2.2.2.1
theorem dL_results_397 : decode cL_results 397 = .ok (.iaload, 1) := sdL_results_390.2.2.2.2.1
theorem dL_results_398 : decode cL_results 398 = .ok (.aload_n 1, 1) := sdL_results_390.2.2.2.2.2.1
theorem dL_results_399 : decode cL_results 399 = .ok (.iload 5, 2) := sdL_results_390.2.2.2.2.2.2.1
theorem dL_results_401 : decode cL_results 401 = .ok (.iconst 0, 1) := sdL_results_390.2.2.2.2.2.2.2.1
theorem sdL_results_402 : dz_Seg cL_results [(402, .invokevirtual 109, 3), (405, .isub, 1), (406, .iastore, 1), (407, .aload_n 3, 1), (408, .iload 7, 2), (410, .dup2, 1), (411, .iaload, 1), (412, .aload_n 1, 1)] := dz_sg _ 402 (by decide +kernel)
theorem dL_results_402 : decode cL_results 402 = .ok (.invokevirtual 109, 3) := sdL_results_402.1
theorem dL_results_405 : decode cL_results 405 = .ok (.isub, 1) := sdL_results_402.2.1
theorem dL_results_406 : decode cL_results 406 = .ok (.iastore, 1) := sdL_results_402.2.2.1
theorem dL_results_407 : decode cL_results 407 = .ok (.aload_n 3, 1) := sdL_results_402.2.2.2.1
theorem dL_results_408 : decode cL_results 408 = .ok (.iload 7, 2) := sdL_results_402.2.2.2.2.1
theorem dL_results_410 : decode cL_results 410 = .ok (.dup2, 1) := sdL_results_402.2.2.2.2.2.1
theorem dL_results_411 : decode cL_results 411 = .ok (.iaload, 1) := sdL_results_402.2.2.2.2.2.2.1
theorem dL_results_412 : decode cL_results 412 = .ok (.aload_n 1, 1) := sdL_results_402.2.2.2.2.2.2.2.1
theorem sdL_results_413 : dz_Seg cL_results [(413, .iload 5, 2), (415, .iconst 1, 1), (416, .invokevirtual 109, 3), (419, .isub, 1), (420, .iastore, 1), (421, .aload_n 0, 1), (422, .getfield 16, 3), (425, .iload 5, 2)] := dz_sg _ 413 (by decide +kernel)
theorem dL_results_413 : decode cL_results 413 = .ok (.iload 5, 2) := sdL_results_413.1
theorem dL_results_415 : decode cL_results 415 = .ok (.iconst 1, 1) := sdL_results_413.2.1
theorem dL_results_416 : decode cL_results 416 = .ok (.invokevirtual 109, 3) := sdL_results_413.2.2.1
theorem dL_results_419 : decode cL_results 419 = .ok (.isub, 1) := sdL_results_413.2.2.2.1
theorem dL_results_420 : decode cL_results 420 = .ok (.iastore, 1) := sdL_results_413.2.2.2.2.1
theorem dL_results_421 : decode cL_results 421 = .ok (.aload_n 0, 1) := sdL_results_413.2.2.2.2.2.1
theorem dL_results_422 : decode cL_results 422 = .ok (.getfield 16, 3) := sdL_results_413.2.2.2.2.2.2.1
theorem dL_results_425 : decode cL_results 425 = .ok (.iload 5, 2) := sdL_results_413.2.2.2.2.2.2.2.1
theorem sdL_results_427 : dz_Seg cL_results [(427, .iload 7, 2), (429, .iastore, 1), (430, .aload_n 0, 1), (431, .getfield 19, 3), (434, .iload 5, 2), (436, .iconst 2, 1), (437, .iastore, 1), (438, .iinc 6 1, 3)] := dz_sg _ 427 (by decide +kernel)
theorem dL_results_427 : decode cL_results 427 = .ok (.iload 7, 2) := sdL_results_427.1
theorem dL_results_429 : decode cL_results 429 = .ok (.iastore, 1) := sdL_results_427.2.1
theorem dL_results_430 : decode cL_results 430 = .ok (.aload_n 0, 1) := sdL_results_427.2.2.1
theorem dL_results_431 : decode cL_results 431 = .ok (.getfield 19, 3) := sdL_results_427.2.2.2.1
theorem dL_results_434 : decode cL_results 434 = .ok (.iload 5, 2) := sdL_results_427.2.2.2.2.1
theorem dL_results_436 : decode cL_results 436 = .ok (.iconst 2, 1) := sdL_results_427.2.2.2.2.2.1
theorem dL_results_437 : decode cL_results 437 = .ok (.iastore, 1) := sdL_results_427.2.2.2.2.2.2.1
theorem dL_results_438 : decode cL_results 438 = .ok (.iinc 6 1, 3) := sdL_results_427.2.2.2.2.2.2.2.1
theorem sdL_results_441 : dz_Seg cL_results [(441, .goto (-111), 3), (444, .iinc 4 1, 3), (447, .goto (-138), 3), (450, .return_, 1)] := dz_sg _ 441 (by decide +kernel)
theorem dL_results_441 : decode cL_results 441 = .ok (.goto (-111), 3) := sdL_results_441.1
theorem dL_results_444 : decode cL_results 444 = .ok (.iinc 4 1, 3) := sdL_results_441.2.1
theorem dL_results_447 : decode cL_results 447 = .ok (.goto (-138), 3) := sdL_results_441.2.2.1
theorem dL_results_450 : decode cL_results 450 = .ok (.return_, 1) := sdL_results_441.2.2.2.1
theorem sdL_law_0 : dz_Seg cL_law [(0, .new 8, 3), (3, .dup, 1), (4, .invokespecial 129, 3), (7, .astore_n 1, 1), (8, .aload_n 1, 1), (9, .aload_n 0, 1), (10, .putfield 7, 3), (13, .new 37, 3)] := dz_sg _ 0 (by decide +kernel)
theorem dL_law_0 : decode cL_law 0 = .ok (.new 8, 3) := sdL_law_0.1
theorem dL_law_3 : decode cL_law 3 = .ok (.dup, 1) := sdL_law_0.2.1
theorem dL_law_4 : decode cL_law 4 = .ok (.invokespecial 129, 3) := sdL_law_0.2.2.1
theorem dL_law_7 : decode cL_law 7 = .ok (.astore_n 1, 1) := sdL_law_0.2.2.2.1
theorem dL_law_8 : decode cL_law 8 = .ok (.aload_n 1, 1) := sdL_law_0.2.2.2.2.1
theorem dL_law_9 : decode cL_law 9 = .ok (.aload_n 0, 1) := sdL_law_0.2.2.2.2.2.1
theorem dL_law_10 : decode cL_law 10 = .ok (.putfield 7, 3) := sdL_law_0.2.2.2.2.2.2.1
theorem dL_law_13 : decode cL_law 13 = .ok (.new 37, 3) := sdL_law_0.2.2.2.2.2.2.2.1
theorem sdL_law_16 : dz_Seg cL_law [(16, .dup, 1), (17, .invokespecial 130, 3), (20, .astore_n 2, 1), (21, .aload_n 2, 1), (22, .aload_n 1, 1), (23, .iconst 5, 1), (24, .invokevirtual 131, 3), (27, .invokestatic 135, 3)] := dz_sg _ 16 (by decide +kernel)
theorem dL_law_16 : decode cL_law 16 = .ok (.dup, 1) := sdL_law_16.1
theorem dL_law_17 : decode cL_law 17 = .ok (.invokespecial 130, 3) := sdL_law_16.2.1
theorem dL_law_20 : decode cL_law 20 = .ok (.astore_n 2, 1) := sdL_law_16.2.2.1
theorem dL_law_21 : decode cL_law 21 = .ok (.aload_n 2, 1) := sdL_law_16.2.2.2.1
theorem dL_law_22 : decode cL_law 22 = .ok (.aload_n 1, 1) := sdL_law_16.2.2.2.2.1
theorem dL_law_23 : decode cL_law 23 = .ok (.iconst 5, 1) := sdL_law_16.2.2.2.2.2.1
theorem dL_law_24 : decode cL_law 24 = .ok (.invokevirtual 131, 3) := sdL_law_16.2.2.2.2.2.2.1
theorem dL_law_27 : decode cL_law 27 = .ok (.invokestatic 135, 3) := sdL_law_16.2.2.2.2.2.2.2.1
theorem sdL_law_30 : dz_Seg cL_law [(30, .istore_n 3, 1), (31, .iload_n 3, 1), (32, .iconst 2, 1), (33, .if_icmp .lt 10, 3), (36, .aload_n 2, 1), (37, .invokevirtual 138, 3), (40, .ifCond .eq 5, 3), (43, .iconst 0, 1)] := dz_sg _ 30 (by decide +kernel)
theorem dL_law_30 : decode cL_law 30 = .ok (.istore_n 3, 1) := sdL_law_30.1
theorem dL_law_31 : decode cL_law 31 = .ok (.iload_n 3, 1) := sdL_law_30.2.1
theorem dL_law_32 : decode cL_law 32 = .ok (.iconst 2, 1) := sdL_law_30.2.2.1
theorem dL_law_33 : decode cL_law 33 = .ok (.if_icmp .lt 10, 3) := sdL_law_30.2.2.2.1
theorem dL_law_36 : decode cL_law 36 = .ok (.aload_n 2, 1) := sdL_law_30.2.2.2.2.1
theorem dL_law_37 : decode cL_law 37 = .ok (.invokevirtual 138, 3) := sdL_law_30.2.2.2.2.2.1
theorem dL_law_40 : decode cL_law 40 = .ok (.ifCond .eq 5, 3) := sdL_law_30.2.2.2.2.2.2.1
theorem dL_law_43 : decode cL_law 43 = .ok (.iconst 0, 1) := sdL_law_30.2.2.2.2.2.2.2.1
theorem sdL_law_44 : dz_Seg cL_law [(44, .ireturn, 1), (45, .aload_n 1, 1), (46, .aload_n 2, 1), (47, .iconst 3, 1), (48, .invokevirtual 141, 3), (51, .putfield 106, 3), (54, .aload_n 1, 1), (55, .aload_n 2, 1)] := dz_sg _ 44 (by decide +kernel)
theorem dL_law_44 : decode cL_law 44 = .ok (.ireturn, 1) := sdL_law_44.1
theorem dL_law_45 : decode cL_law 45 = .ok (.aload_n 1, 1) := sdL_law_44.2.1
theorem dL_law_46 : decode cL_law 46 = .ok (.aload_n 2, 1) := sdL_law_44.2.2.1
theorem dL_law_47 : decode cL_law 47 = .ok (.iconst 3, 1) := sdL_law_44.2.2.2.1
theorem dL_law_48 : decode cL_law 48 = .ok (.invokevirtual 141, 3) := sdL_law_44.2.2.2.2.1
theorem dL_law_51 : decode cL_law 51 = .ok (.putfield 106, 3) := sdL_law_44.2.2.2.2.2.1
theorem dL_law_54 : decode cL_law 54 = .ok (.aload_n 1, 1) := sdL_law_44.2.2.2.2.2.2.1
theorem dL_law_55 : decode cL_law 55 = .ok (.aload_n 2, 1) := sdL_law_44.2.2.2.2.2.2.2.1
theorem sdL_law_56 : dz_Seg cL_law [(56, .iconst 0, 1), (57, .invokevirtual 141, 3), (60, .putfield 120, 3), (63, .iconst 0, 1), (64, .istore 4, 2), (66, .iload 4, 2), (68, .iconst 4, 1), (69, .if_icmp .ge 26, 3)] := dz_sg _ 56 (by decide +kernel)
theorem dL_law_56 : decode cL_law 56 = .ok (.iconst 0, 1) := sdL_law_56.1
theorem dL_law_57 : decode cL_law 57 = .ok (.invokevirtual 141, 3) := sdL_law_56.2.1
theorem dL_law_60 : decode cL_law 60 = .ok (.putfield 120, 3) := sdL_law_56.2.2.1
theorem dL_law_63 : decode cL_law 63 = .ok (.iconst 0, 1) := sdL_law_56.2.2.2.1
theorem dL_law_64 : decode cL_law 64 = .ok (.istore 4, 2) := sdL_law_56.2.2.2.2.1
theorem dL_law_66 : decode cL_law 66 = .ok (.iload 4, 2) := sdL_law_56.2.2.2.2.2.1
theorem dL_law_68 : decode cL_law 68 = .ok (.iconst 4, 1) := sdL_law_56.2.2.2.2.2.2.1
theorem dL_law_69 : decode cL_law 69 = .ok (.if_icmp .ge 26, 3) := sdL_law_56.2.2.2.2.2.2.2.1
theorem sdL_law_72 : dz_Seg cL_law [(72, .aload_n 1, 1), (73, .aload_n 2, 1), (74, .iload_n 3, 1), (75, .aload_n 1, 1), (76, .ldc 143, 2), (78, .invokevirtual 60, 3), (81, .invokevirtual 144, 3), (84, .ifCond .ne 5, 3)] := dz_sg _ 72 (by decide +kernel)
theorem dL_law_72 : decode cL_law 72 = .ok (.aload_n 1, 1) := sdL_law_72.1
theorem dL_law_73 : decode cL_law 73 = .ok (.aload_n 2, 1) := sdL_law_72.2.1
theorem dL_law_74 : decode cL_law 74 = .ok (.iload_n 3, 1) := sdL_law_72.2.2.1
theorem dL_law_75 : decode cL_law 75 = .ok (.aload_n 1, 1) := sdL_law_72.2.2.2.1
theorem dL_law_76 : decode cL_law 76 = .ok (.ldc 143, 2) := sdL_law_72.2.2.2.2.1
theorem dL_law_78 : decode cL_law 78 = .ok (.invokevirtual 60, 3) := sdL_law_72.2.2.2.2.2.1
theorem dL_law_81 : decode cL_law 81 = .ok (.invokevirtual 144, 3) := sdL_law_72.2.2.2.2.2.2.1
theorem dL_law_84 : decode cL_law 84 = .ok (.ifCond .ne 5, 3) := sdL_law_72.2.2.2.2.2.2.2.1
theorem sdL_law_87 : dz_Seg cL_law [(87, .iconst 0, 1), (88, .ireturn, 1), (89, .iinc 4 1, 3), (92, .goto (-26), 3), (95, .aload_n 2, 1), (96, .iconst 0, 1), (97, .aload_n 1, 1), (98, .getfield 106, 3)] := dz_sg _ 87 (by decide +kernel)
theorem dL_law_87 : decode cL_law 87 = .ok (.iconst 0, 1) := sdL_law_87.1
theorem dL_law_88 : decode cL_law 88 = .ok (.ireturn, 1) := sdL_law_87.2.1
theorem dL_law_89 : decode cL_law 89 = .ok (.iinc 4 1, 3) := sdL_law_87.2.2.1
theorem dL_law_92 : decode cL_law 92 = .ok (.goto (-26), 3) := sdL_law_87.2.2.2.1
theorem dL_law_95 : decode cL_law 95 = .ok (.aload_n 2, 1) := sdL_law_87.2.2.2.2.1
theorem dL_law_96 : decode cL_law 96 = .ok (.iconst 0, 1) := sdL_law_87.2.2.2.2.2.1
theorem dL_law_97 : decode cL_law 97 = .ok (.aload_n 1, 1) := sdL_law_87.2.2.2.2.2.2.1
theorem dL_law_98 : decode cL_law 98 = .ok (.getfield 106, 3) := sdL_law_87.2.2.2.2.2.2.2.1
theorem sdL_law_101 : dz_Seg cL_law [(101, .invokevirtual 148, 3), (104, .iconst (-1), 1), (105, .if_icmp .ne 53, 3), (108, .aload_n 2, 1), (109, .invokevirtual 138, 3), (112, .iconst 5, 1), (113, .if_icmp .ne 45, 3), (116, .aload_n 2, 1)] := dz_sg _ 101 (by decide +kernel)
theorem dL_law_101 : decode cL_law 101 = .ok (.invokevirtual 148, 3) := sdL_law_101.1
theorem dL_law_104 : decode cL_law 104 = .ok (.iconst (-1), 1) := sdL_law_101.2.1
theorem dL_law_105 : decode cL_law 105 = .ok (.if_icmp .ne 53, 3) := sdL_law_101.2.2.1
theorem dL_law_108 : decode cL_law 108 = .ok (.aload_n 2, 1) := sdL_law_101.2.2.2.1
theorem dL_law_109 : decode cL_law 109 = .ok (.invokevirtual 138, 3) := sdL_law_101.2.2.2.2.1
theorem dL_law_112 : decode cL_law 112 = .ok (.iconst 5, 1) := sdL_law_101.2.2.2.2.2.1
theorem dL_law_113 : decode cL_law 113 = .ok (.if_icmp .ne 45, 3) := sdL_law_101.2.2.2.2.2.2.1
theorem dL_law_116 : decode cL_law 116 = .ok (.aload_n 2, 1) := sdL_law_101.2.2.2.2.2.2.2.1
theorem sdL_law_117 : dz_Seg cL_law [(117, .iconst 0, 1), (118, .aload_n 1, 1), (119, .getfield 106, 3), (122, .invokevirtual 151, 3), (125, .iconst (-1), 1), (126, .if_icmp .ne 32, 3), (129, .aload_n 2, 1), (130, .invokevirtual 138, 3)] := dz_sg _ 117 (by decide +kernel)
theorem dL_law_117 : decode cL_law 117 = .ok (.iconst 0, 1) := sdL_law_117.1
theorem dL_law_118 : decode cL_law 118 = .ok (.aload_n 1, 1) := sdL_law_117.2.1
theorem dL_law_119 : decode cL_law 119 = .ok (.getfield 106, 3) := sdL_law_117.2.2.1
theorem dL_law_122 : decode cL_law 122 = .ok (.invokevirtual 151, 3) := sdL_law_117.2.2.2.1
theorem dL_law_125 : decode cL_law 125 = .ok (.iconst (-1), 1) := sdL_law_117.2.2.2.2.1
theorem dL_law_126 : decode cL_law 126 = .ok (.if_icmp .ne 32, 3) := sdL_law_117.2.2.2.2.2.1
theorem dL_law_129 : decode cL_law 129 = .ok (.aload_n 2, 1) := sdL_law_117.2.2.2.2.2.2.1
theorem dL_law_130 : decode cL_law 130 = .ok (.invokevirtual 138, 3) := sdL_law_117.2.2.2.2.2.2.2.1
theorem sdL_law_133 : dz_Seg cL_law [(133, .iconst 2, 1), (134, .if_icmp .ne 24, 3), (137, .aload_n 2, 1), (138, .iconst (-1), 1), (139, .invokevirtual 154, 3), (142, .iconst (-1), 1), (143, .if_icmp .ne 15, 3), (146, .aload_n 2, 1)] := dz_sg _ 133 (by decide +kernel)
theorem dL_law_133 : decode cL_law 133 = .ok (.iconst 2, 1) := sdL_law_133.1
theorem dL_law_134 : decode cL_law 134 = .ok (.if_icmp .ne 24, 3) := sdL_law_133.2.1
theorem dL_law_137 : decode cL_law 137 = .ok (.aload_n 2, 1) := sdL_law_133.2.2.1
theorem dL_law_138 : decode cL_law 138 = .ok (.iconst (-1), 1) := sdL_law_133.2.2.2.1
theorem dL_law_139 : decode cL_law 139 = .ok (.invokevirtual 154, 3) := sdL_law_133.2.2.2.2.1
theorem dL_law_142 : decode cL_law 142 = .ok (.iconst (-1), 1) := sdL_law_133.2.2.2.2.2.1
theorem dL_law_143 : decode cL_law 143 = .ok (.if_icmp .ne 15, 3) := sdL_law_133.2.2.2.2.2.2.1
theorem dL_law_146 : decode cL_law 146 = .ok (.aload_n 2, 1) := sdL_law_133.2.2.2.2.2.2.2.1
theorem sdL_law_147 : dz_Seg cL_law [(147, .invokevirtual 138, 3), (150, .iconst 1, 1), (151, .if_icmp .ne 7, 3), (154, .iconst 1, 1), (155, .goto 4, 3), (158, .iconst 0, 1), (159, .ireturn, 1)] := dz_sg _ 147 (by decide +kernel)
theorem dL_law_147 : decode cL_law 147 = .ok (.invokevirtual 138, 3) := sdL_law_147.1
theorem dL_law_150 : decode cL_law 150 = .ok (.iconst 1, 1) := sdL_law_147.2.1
theorem dL_law_151 : decode cL_law 151 = .ok (.if_icmp .ne 7, 3) := sdL_law_147.2.2.1
theorem dL_law_154 : decode cL_law 154 = .ok (.iconst 1, 1) := sdL_law_147.2.2.2.1
theorem dL_law_155 : decode cL_law 155 = .ok (.goto 4, 3) := sdL_law_147.2.2.2.2.1
theorem dL_law_158 : decode cL_law 158 = .ok (.iconst 0, 1) := sdL_law_147.2.2.2.2.2.1
theorem dL_law_159 : decode cL_law 159 = .ok (.ireturn, 1) := sdL_law_147.2.2.2.2.2.2.1
theorem sdL_isAs_0 : dz_Seg cL_isAs [(0, .aload_n 0, 1), (1, .aload_n 1, 1), (2, .iload_n 3, 1), (3, .invokevirtual 157, 3), (6, .aload_n 0, 1), (7, .aload_n 1, 1), (8, .invokevirtual 161, 3), (11, .iconst 0, 1)] := dz_sg _ 0 (by decide +kernel)
theorem dL_isAs_0 : decode cL_isAs 0 = .ok (.aload_n 0, 1) := sdL_isAs_0.1
theorem dL_isAs_1 : decode cL_isAs 1 = .ok (.aload_n 1, 1) := sdL_isAs_0.2.1
theorem dL_isAs_2 : decode cL_isAs 2 = .ok (.iload_n 3, 1) := sdL_isAs_0.2.2.1
theorem dL_isAs_3 : decode cL_isAs 3 = .ok (.invokevirtual 157, 3) := sdL_isAs_0.2.2.2.1
theorem dL_isAs_6 : decode cL_isAs 6 = .ok (.aload_n 0, 1) := sdL_isAs_0.2.2.2.2.1
theorem dL_isAs_7 : decode cL_isAs 7 = .ok (.aload_n 1, 1) := sdL_isAs_0.2.2.2.2.2.1
theorem dL_isAs_8 : decode cL_isAs 8 = .ok (.invokevirtual 161, 3) := sdL_isAs_0.2.2.2.2.2.2.1
theorem dL_isAs_11 : decode cL_isAs 11 = .ok (.iconst 0, 1) := sdL_isAs_0.2.2.2.2.2.2.2.1
theorem sdL_isAs_12 : dz_Seg cL_isAs [(12, .istore 4, 2), (14, .aload_n 0, 1), (15, .getfield 120, 3), (18, .newarray .int, 2), (20, .astore 5, 2), (22, .iconst 0, 1), (23, .istore 6, 2), (25, .iload 6, 2)] := dz_sg _ 12 (by decide +kernel)
theorem dL_isAs_12 : decode cL_isAs 12 = .ok (.istore 4, 2) := sdL_isAs_12.1
theorem dL_isAs_14 : decode cL_isAs 14 = .ok (.aload_n 0, 1) := sdL_isAs_12.2.1
theorem dL_isAs_15 : decode cL_isAs 15 = .ok (.getfield 120, 3) := sdL_isAs_12.2.2.1
theorem dL_isAs_18 : decode cL_isAs 18 = .ok (.newarray .int, 2) := sdL_isAs_12.2.2.2.1
theorem dL_isAs_20 : decode cL_isAs 20 = .ok (.astore 5, 2) := sdL_isAs_12.2.2.2.2.1
theorem dL_isAs_22 : decode cL_isAs 22 = .ok (.iconst 0, 1) := sdL_isAs_12.2.2.2.2.2.1
theorem dL_isAs_23 : decode cL_isAs 23 = .ok (.istore 6, 2) := sdL_isAs_12.2.2.2.2.2.2.1
theorem dL_isAs_25 : decode cL_isAs 25 = .ok (.iload 6, 2) := sdL_isAs_12.2.2.2.2.2.2.2.1
theorem sdL_isAs_27 : dz_Seg cL_isAs [(27, .aload_n 0, 1), (28, .getfield 120, 3), (31, .if_icmp .ge 21, 3), (34, .aload 5, 2), (36, .iload 6, 2), (38, .aload_n 1, 1), (39, .iload 6, 2), (41, .iconst 0, 1)] := dz_sg _ 27 (by decide +kernel)
theorem dL_isAs_27 : decode cL_isAs 27 = .ok (.aload_n 0, 1) := sdL_isAs_27.1
theorem dL_isAs_28 : decode cL_isAs 28 = .ok (.getfield 120, 3) := sdL_isAs_27.2.1
theorem dL_isAs_31 : decode cL_isAs 31 = .ok (.if_icmp .ge 21, 3) := sdL_isAs_27.2.2.1
theorem dL_isAs_34 : decode cL_isAs 34 = .ok (.aload 5, 2) := sdL_isAs_27.2.2.2.1
theorem dL_isAs_36 : decode cL_isAs 36 = .ok (.iload 6, 2) := sdL_isAs_27.2.2.2.2.1
theorem dL_isAs_38 : decode cL_isAs 38 = .ok (.aload_n 1, 1) := sdL_isAs_27.2.2.2.2.2.1
theorem dL_isAs_39 : decode cL_isAs 39 = .ok (.iload 6, 2) := sdL_isAs_27.2.2.2.2.2.2.1
theorem dL_isAs_41 : decode cL_isAs 41 = .ok (.iconst 0, 1) := sdL_isAs_27.2.2.2.2.2.2.2.1
theorem sdL_isAs_42 : dz_Seg cL_isAs [(42, .invokevirtual 123, 3), (45, .iastore, 1), (46, .iinc 6 1, 3), (49, .goto (-24), 3), (52, .iconst 0, 1), (53, .istore 6, 2), (55, .iload 6, 2), (57, .aload_n 0, 1)] := dz_sg _ 42 (by decide +kernel)
theorem dL_isAs_42 : decode cL_isAs 42 = .ok (.invokevirtual 123, 3) := sdL_isAs_42.1
theorem dL_isAs_45 : decode cL_isAs 45 = .ok (.iastore, 1) := sdL_isAs_42.2.1
theorem dL_isAs_46 : decode cL_isAs 46 = .ok (.iinc 6 1, 3) := sdL_isAs_42.2.2.1
theorem dL_isAs_49 : decode cL_isAs 49 = .ok (.goto (-24), 3) := sdL_isAs_42.2.2.2.1
theorem dL_isAs_52 : decode cL_isAs 52 = .ok (.iconst 0, 1) := sdL_isAs_42.2.2.2.2.1
theorem dL_isAs_53 : decode cL_isAs 53 = .ok (.istore 6, 2) := sdL_isAs_42.2.2.2.2.2.1
theorem dL_isAs_55 : decode cL_isAs 55 = .ok (.iload 6, 2) := sdL_isAs_42.2.2.2.2.2.2.1
theorem dL_isAs_57 : decode cL_isAs 57 = .ok (.aload_n 0, 1) := sdL_isAs_42.2.2.2.2.2.2.2.1
theorem sdL_isAs_58 : dz_Seg cL_isAs [(58, .getfield 106, 3), (61, .if_icmp .ge 131, 3), (64, .aload_n 0, 1), (65, .getfield 13, 3), (68, .iload 6, 2), (70, .iaload, 1), (71, .istore 7, 2), (73, .aload_n 1, 1)] := dz_sg _ 58 (by decide +kernel)
theorem dL_isAs_58 : decode cL_isAs 58 = .ok (.getfield 106, 3) := sdL_isAs_58.1
theorem dL_isAs_61 : decode cL_isAs 61 = .ok (.if_icmp .ge 131, 3) := sdL_isAs_58.2.1
theorem dL_isAs_64 : decode cL_isAs 64 = .ok (.aload_n 0, 1) := sdL_isAs_58.2.2.1
theorem dL_isAs_65 : decode cL_isAs 65 = .ok (.getfield 13, 3) := sdL_isAs_58.2.2.2.1
theorem dL_isAs_68 : decode cL_isAs 68 = .ok (.iload 6, 2) := sdL_isAs_58.2.2.2.2.1
theorem dL_isAs_70 : decode cL_isAs 70 = .ok (.iaload, 1) := sdL_isAs_58.2.2.2.2.2.1
theorem dL_isAs_71 : decode cL_isAs 71 = .ok (.istore 7, 2) := sdL_isAs_58.2.2.2.2.2.2.1
theorem dL_isAs_73 : decode cL_isAs 73 = .ok (.aload_n 1, 1) := sdL_isAs_58.2.2.2.2.2.2.2.1
theorem sdL_isAs_74 : dz_Seg cL_isAs [(74, .iload_n 3, 1), (75, .iload 6, 2), (77, .invokevirtual 148, 3), (80, .iload 7, 2), (82, .if_icmp .ne 38, 3), (85, .aload_n 1, 1), (86, .iload_n 3, 1), (87, .iload 7, 2)] := dz_sg _ 74 (by decide +kernel)
theorem dL_isAs_74 : decode cL_isAs 74 = .ok (.iload_n 3, 1) := sdL_isAs_74.1
theorem dL_isAs_75 : decode cL_isAs 75 = .ok (.iload 6, 2) := sdL_isAs_74.2.1
theorem dL_isAs_77 : decode cL_isAs 77 = .ok (.invokevirtual 148, 3) := sdL_isAs_74.2.2.1
theorem dL_isAs_80 : decode cL_isAs 80 = .ok (.iload 7, 2) := sdL_isAs_74.2.2.2.1
theorem dL_isAs_82 : decode cL_isAs 82 = .ok (.if_icmp .ne 38, 3) := sdL_isAs_74.2.2.2.2.1
theorem dL_isAs_85 : decode cL_isAs 85 = .ok (.aload_n 1, 1) := sdL_isAs_74.2.2.2.2.2.1
theorem dL_isAs_86 : decode cL_isAs 86 = .ok (.iload_n 3, 1) := sdL_isAs_74.2.2.2.2.2.2.1
theorem dL_isAs_87 : decode cL_isAs 87 = .ok (.iload 7, 2) := sdL_isAs_74.2.2.2.2.2.2.2.1
theorem sdL_isAs_89 : dz_Seg cL_isAs [(89, .invokevirtual 151, 3), (92, .aload_n 0, 1), (93, .getfield 16, 3), (96, .iload 7, 2), (98, .iaload, 1), (99, .if_icmp .ne 21, 3), (102, .aload_n 0, 1), (103, .getfield 16, 3)] := dz_sg _ 89 (by decide +kernel)
theorem dL_isAs_89 : decode cL_isAs 89 = .ok (.invokevirtual 151, 3) := sdL_isAs_89.1
theorem dL_isAs_92 : decode cL_isAs 92 = .ok (.aload_n 0, 1) := sdL_isAs_89.2.1
theorem dL_isAs_93 : decode cL_isAs 93 = .ok (.getfield 16, 3) := sdL_isAs_89.2.2.1
theorem dL_isAs_96 : decode cL_isAs 96 = .ok (.iload 7, 2) := sdL_isAs_89.2.2.2.1
theorem dL_isAs_98 : decode cL_isAs 98 = .ok (.iaload, 1) := sdL_isAs_89.2.2.2.2.1
theorem dL_isAs_99 : decode cL_isAs 99 = .ok (.if_icmp .ne 21, 3) := sdL_isAs_89.2.2.2.2.2.1
theorem dL_isAs_102 : decode cL_isAs 102 = .ok (.aload_n 0, 1) := sdL_isAs_89.2.2.2.2.2.2.1
theorem dL_isAs_103 : decode cL_isAs 103 = .ok (.getfield 16, 3) := sdL_isAs_89.2.2.2.2.2.2.2.1
theorem sdL_isAs_106 : dz_Seg cL_isAs [(106, .iload 7, 2), (108, .iaload, 1), (109, .ifCond .ge 13, 3), (112, .aload_n 1, 1), (113, .invokevirtual 138, 3), (116, .iconst 5, 1), (117, .if_icmp .eq 5, 3), (120, .iconst 0, 1)] := dz_sg _ 106 (by decide +kernel)
theorem dL_isAs_106 : decode cL_isAs 106 = .ok (.iload 7, 2) := sdL_isAs_106.1
theorem dL_isAs_108 : decode cL_isAs 108 = .ok (.iaload, 1) := sdL_isAs_106.2.1
theorem dL_isAs_109 : decode cL_isAs 109 = .ok (.ifCond .ge 13, 3) := sdL_isAs_106.2.2.1
theorem dL_isAs_112 : decode cL_isAs 112 = .ok (.aload_n 1, 1) := sdL_isAs_106.2.2.2.1
theorem dL_isAs_113 : decode cL_isAs 113 = .ok (.invokevirtual 138, 3) := sdL_isAs_106.2.2.2.2.1
theorem dL_isAs_116 : decode cL_isAs 116 = .ok (.iconst 5, 1) := sdL_isAs_106.2.2.2.2.2.1
theorem dL_isAs_117 : decode cL_isAs 117 = .ok (.if_icmp .eq 5, 3) := sdL_isAs_106.2.2.2.2.2.2.1
theorem dL_isAs_120 : decode cL_isAs 120 = .ok (.iconst 0, 1) := sdL_isAs_106.2.2.2.2.2.2.2.1
theorem sdL_isAs_121 : dz_Seg cL_isAs [(121, .ireturn, 1), (122, .aload_n 0, 1), (123, .getfield 16, 3), (126, .iload 7, 2), (128, .iaload, 1), (129, .ifCond .ge 6, 3), (132, .goto 54, 3), (135, .aload_n 1, 1)] := dz_sg _ 121 (by decide +kernel)
theorem dL_isAs_121 : decode cL_isAs 121 = .ok (.ireturn, 1) := sdL_isAs_121.1
theorem dL_isAs_122 : decode cL_isAs 122 = .ok (.aload_n 0, 1) := sdL_isAs_121.2.1
theorem dL_isAs_123 : decode cL_isAs 123 = .ok (.getfield 16, 3) := sdL_isAs_121.2.2.1
theorem dL_isAs_126 : decode cL_isAs 126 = .ok (.iload 7, 2) := sdL_isAs_121.2.2.2.1
theorem dL_isAs_128 : decode cL_isAs 128 = .ok (.iaload, 1) := sdL_isAs_121.2.2.2.2.1
theorem dL_isAs_129 : decode cL_isAs 129 = .ok (.ifCond .ge 6, 3) := sdL_isAs_121.2.2.2.2.2.1
theorem dL_isAs_132 : decode cL_isAs 132 = .ok (.goto 54, 3) := sdL_isAs_121.2.2.2.2.2.2.1
theorem dL_isAs_135 : decode cL_isAs 135 = .ok (.aload_n 1, 1) := sdL_isAs_121.2.2.2.2.2.2.2.1
theorem sdL_isAs_136 : dz_Seg cL_isAs [(136, .iload_n 3, 1), (137, .iload 7, 2), (139, .invokevirtual 165, 3), (142, .aload_n 0, 1), (143, .getfield 19, 3), (146, .iload 7, 2), (148, .iaload, 1), (149, .if_icmp .eq 5, 3)] := dz_sg _ 136 (by decide +kernel)
theorem dL_isAs_136 : decode cL_isAs 136 = .ok (.iload_n 3, 1) := sdL_isAs_136.1
theorem dL_isAs_137 : decode cL_isAs 137 = .ok (.iload 7, 2) := sdL_isAs_136.2.1
theorem dL_isAs_139 : decode cL_isAs 139 = .ok (.invokevirtual 165, 3) := sdL_isAs_136.2.2.1
theorem dL_isAs_142 : decode cL_isAs 142 = .ok (.aload_n 0, 1) := sdL_isAs_136.2.2.2.1
theorem dL_isAs_143 : decode cL_isAs 143 = .ok (.getfield 19, 3) := sdL_isAs_136.2.2.2.2.1
theorem dL_isAs_146 : decode cL_isAs 146 = .ok (.iload 7, 2) := sdL_isAs_136.2.2.2.2.2.1
theorem dL_isAs_148 : decode cL_isAs 148 = .ok (.iaload, 1) := sdL_isAs_136.2.2.2.2.2.2.1
theorem dL_isAs_149 : decode cL_isAs 149 = .ok (.if_icmp .eq 5, 3) := sdL_isAs_136.2.2.2.2.2.2.2.1
theorem sdL_isAs_152 : dz_Seg cL_isAs [(152, .iconst 0, 1), (153, .ireturn, 1), (154, .iload 4, 2), (156, .aload_n 1, 1), (157, .iload 7, 2), (159, .iconst 5, 1), (160, .invokevirtual 109, 3), (163, .ior, 1)] := dz_sg _ 152 (by decide +kernel)
theorem dL_isAs_152 : decode cL_isAs 152 = .ok (.iconst 0, 1) := sdL_isAs_152.1
theorem dL_isAs_153 : decode cL_isAs 153 = .ok (.ireturn, 1) := sdL_isAs_152.2.1
theorem dL_isAs_154 : decode cL_isAs 154 = .ok (.iload 4, 2) := sdL_isAs_152.2.2.1
theorem dL_isAs_156 : decode cL_isAs 156 = .ok (.aload_n 1, 1) := sdL_isAs_152.2.2.2.1
theorem dL_isAs_157 : decode cL_isAs 157 = .ok (.iload 7, 2) := sdL_isAs_152.2.2.2.2.1
theorem dL_isAs_159 : decode cL_isAs 159 = .ok (.iconst 5, 1) := sdL_isAs_152.2.2.2.2.2.1
theorem dL_isAs_160 : decode cL_isAs 160 = .ok (.invokevirtual 109, 3) := sdL_isAs_152.2.2.2.2.2.2.1
theorem dL_isAs_163 : decode cL_isAs 163 = .ok (.ior, 1) := sdL_isAs_152.2.2.2.2.2.2.2.1
theorem sdL_isAs_164 : dz_Seg cL_isAs [(164, .istore 4, 2), (166, .aload 5, 2), (168, .aload_n 0, 1), (169, .getfield 16, 3), (172, .iload 7, 2), (174, .iaload, 1), (175, .dup2, 1), (176, .iaload, 1)] := dz_sg _ 164 (by decide +kernel)
theorem dL_isAs_164 : decode cL_isAs 164 = .ok (.istore 4, 2) := sdL_isAs_164.1
theorem dL_isAs_166 : decode cL_isAs 166 = .ok (.aload 5, 2) := sdL_isAs_164.2.1
theorem dL_isAs_168 : decode cL_isAs 168 = .ok (.aload_n 0, 1) := sdL_isAs_164.2.2.1
theorem dL_isAs_169 : decode cL_isAs 169 = .ok (.getfield 16, 3) := sdL_isAs_164.2.2.2.1
theorem dL_isAs_172 : decode cL_isAs 172 = .ok (.iload 7, 2) := sdL_isAs_164.2.2.2.2.1
theorem dL_isAs_174 : decode cL_isAs 174 = .ok (.iaload, 1) := sdL_isAs_164.2.2.2.2.2.1
theorem dL_isAs_175 : decode cL_isAs 175 = .ok (.dup2, 1) := sdL_isAs_164.2.2.2.2.2.2.1
theorem dL_isAs_176 : decode cL_isAs 176 = .ok (.iaload, 1) := sdL_isAs_164.2.2.2.2.2.2.2.1
theorem sdL_isAs_177 : dz_Seg cL_isAs [(177, .aload_n 1, 1), (178, .iload 7, 2), (180, .iconst 0, 1), (181, .invokevirtual 109, 3), (184, .isub, 1), (185, .iastore, 1), (186, .iinc 6 1, 3), (189, .goto (-134), 3)] := dz_sg _ 177 (by decide +kernel)
theorem dL_isAs_177 : decode cL_isAs 177 = .ok (.aload_n 1, 1) := sdL_isAs_177.1
theorem dL_isAs_178 : decode cL_isAs 178 = .ok (.iload 7, 2) := sdL_isAs_177.2.1
theorem dL_isAs_180 : decode cL_isAs 180 = .ok (.iconst 0, 1) := sdL_isAs_177.2.2.1
theorem dL_isAs_181 : decode cL_isAs 181 = .ok (.invokevirtual 109, 3) := sdL_isAs_177.2.2.2.1
theorem dL_isAs_184 : decode cL_isAs 184 = .ok (.isub, 1) := sdL_isAs_177.2.2.2.2.1
theorem dL_isAs_185 : decode cL_isAs 185 = .ok (.iastore, 1) := sdL_isAs_177.2.2.2.2.2.1
theorem dL_isAs_186 : decode cL_isAs 186 = .ok (.iinc 6 1, 3) := sdL_isAs_177.2.2.2.2.2.2.1
theorem dL_isAs_189 : decode cL_isAs 189 = .ok (.goto (-134), 3) := sdL_isAs_177.2.2.2.2.2.2.2.1
theorem sdL_isAs_192 : dz_Seg cL_isAs [(192, .aload_n 1, 1), (193, .iload_n 3, 1), (194, .invokevirtual 154, 3), (197, .iload 4, 2), (199, .if_icmp .eq 5, 3), (202, .iconst 0, 1), (203, .ireturn, 1), (204, .iconst 0, 1)] := dz_sg _ 192 (by decide +kernel)
theorem dL_isAs_192 : decode cL_isAs 192 = .ok (.aload_n 1, 1) := sdL_isAs_192.1
theorem dL_isAs_193 : decode cL_isAs 193 = .ok (.iload_n 3, 1) := sdL_isAs_192.2.1
theorem dL_isAs_194 : decode cL_isAs 194 = .ok (.invokevirtual 154, 3) := sdL_isAs_192.2.2.1
theorem dL_isAs_197 : decode cL_isAs 197 = .ok (.iload 4, 2) := sdL_isAs_192.2.2.2.1
theorem dL_isAs_199 : decode cL_isAs 199 = .ok (.if_icmp .eq 5, 3) := sdL_isAs_192.2.2.2.2.1
theorem dL_isAs_202 : decode cL_isAs 202 = .ok (.iconst 0, 1) := sdL_isAs_192.2.2.2.2.2.1
theorem dL_isAs_203 : decode cL_isAs 203 = .ok (.ireturn, 1) := sdL_isAs_192.2.2.2.2.2.2.1
theorem dL_isAs_204 : decode cL_isAs 204 = .ok (.iconst 0, 1) := sdL_isAs_192.2.2.2.2.2.2.2.1
theorem sdL_isAs_205 : dz_Seg cL_isAs [(205, .istore 6, 2), (207, .iload 6, 2), (209, .aload_n 0, 1), (210, .getfield 120, 3), (213, .if_icmp .ge 27, 3), (216, .aload_n 1, 1), (217, .iload_n 3, 1), (218, .iload 6, 2)] := dz_sg _ 205 (by decide +kernel)
theorem dL_isAs_205 : decode cL_isAs 205 = .ok (.istore 6, 2) := sdL_isAs_205.1
theorem dL_isAs_207 : decode cL_isAs 207 = .ok (.iload 6, 2) := sdL_isAs_205.2.1
theorem dL_isAs_209 : decode cL_isAs 209 = .ok (.aload_n 0, 1) := sdL_isAs_205.2.2.1
theorem dL_isAs_210 : decode cL_isAs 210 = .ok (.getfield 120, 3) := sdL_isAs_205.2.2.2.1
theorem dL_isAs_213 : decode cL_isAs 213 = .ok (.if_icmp .ge 27, 3) := sdL_isAs_205.2.2.2.2.1
theorem dL_isAs_216 : decode cL_isAs 216 = .ok (.aload_n 1, 1) := sdL_isAs_205.2.2.2.2.2.1
theorem dL_isAs_217 : decode cL_isAs 217 = .ok (.iload_n 3, 1) := sdL_isAs_205.2.2.2.2.2.2.1
theorem dL_isAs_218 : decode cL_isAs 218 = .ok (.iload 6, 2) := sdL_isAs_205.2.2.2.2.2.2.2.1
theorem sdL_isAs_220 : dz_Seg cL_isAs [(220, .iconst 0, 1), (221, .invokevirtual 167, 3), (224, .aload 5, 2), (226, .iload 6, 2), (228, .iaload, 1), (229, .if_icmp .eq 5, 3), (232, .iconst 0, 1), (233, .ireturn, 1)] := dz_sg _ 220 (by decide +kernel)
theorem dL_isAs_220 : decode cL_isAs 220 = .ok (.iconst 0, 1) := sdL_isAs_220.1
theorem dL_isAs_221 : decode cL_isAs 221 = .ok (.invokevirtual 167, 3) := sdL_isAs_220.2.1
theorem dL_isAs_224 : decode cL_isAs 224 = .ok (.aload 5, 2) := sdL_isAs_220.2.2.1
theorem dL_isAs_226 : decode cL_isAs 226 = .ok (.iload 6, 2) := sdL_isAs_220.2.2.2.1
theorem dL_isAs_228 : decode cL_isAs 228 = .ok (.iaload, 1) := sdL_isAs_220.2.2.2.2.1
theorem dL_isAs_229 : decode cL_isAs 229 = .ok (.if_icmp .eq 5, 3) := sdL_isAs_220.2.2.2.2.2.1
theorem dL_isAs_232 : decode cL_isAs 232 = .ok (.iconst 0, 1) := sdL_isAs_220.2.2.2.2.2.2.1
theorem dL_isAs_233 : decode cL_isAs 233 = .ok (.ireturn, 1) := sdL_isAs_220.2.2.2.2.2.2.2.1
theorem sdL_isAs_234 : dz_Seg cL_isAs [(234, .iinc 6 1, 3), (237, .goto (-30), 3), (240, .iconst 0, 1), (241, .istore 6, 2), (243, .iload 6, 2), (245, .iload_n 2, 1), (246, .if_icmp .ge 117, 3), (249, .aload_n 1, 1)] := dz_sg _ 234 (by decide +kernel)
theorem dL_isAs_234 : decode cL_isAs 234 = .ok (.iinc 6 1, 3) := sdL_isAs_234.1
theorem dL_isAs_237 : decode cL_isAs 237 = .ok (.goto (-30), 3) := sdL_isAs_234.2.1
theorem dL_isAs_240 : decode cL_isAs 240 = .ok (.iconst 0, 1) := sdL_isAs_234.2.2.1
theorem dL_isAs_241 : decode cL_isAs 241 = .ok (.istore 6, 2) := sdL_isAs_234.2.2.2.1
theorem dL_isAs_243 : decode cL_isAs 243 = .ok (.iload 6, 2) := sdL_isAs_234.2.2.2.2.1
theorem dL_isAs_245 : decode cL_isAs 245 = .ok (.iload_n 2, 1) := sdL_isAs_234.2.2.2.2.2.1
theorem dL_isAs_246 : decode cL_isAs 246 = .ok (.if_icmp .ge 117, 3) := sdL_isAs_234.2.2.2.2.2.2.1
theorem dL_isAs_249 : decode cL_isAs 249 = .ok (.aload_n 1, 1) := sdL_isAs_234.2.2.2.2.2.2.2.1
theorem sdL_isAs_250 : dz_Seg cL_isAs [(250, .iload 6, 2), (252, .iconst 3, 1), (253, .invokevirtual 171, 3), (256, .istore 7, 2), (258, .aload_n 1, 1), (259, .iload 6, 2), (261, .iconst 0, 1), (262, .invokevirtual 171, 3)] := dz_sg _ 250 (by decide +kernel)
theorem dL_isAs_250 : decode cL_isAs 250 = .ok (.iload 6, 2) := sdL_isAs_250.1
theorem dL_isAs_252 : decode cL_isAs 252 = .ok (.iconst 3, 1) := sdL_isAs_250.2.1
theorem dL_isAs_253 : decode cL_isAs 253 = .ok (.invokevirtual 171, 3) := sdL_isAs_250.2.2.1
theorem dL_isAs_256 : decode cL_isAs 256 = .ok (.istore 7, 2) := sdL_isAs_250.2.2.2.1
theorem dL_isAs_258 : decode cL_isAs 258 = .ok (.aload_n 1, 1) := sdL_isAs_250.2.2.2.2.1
theorem dL_isAs_259 : decode cL_isAs 259 = .ok (.iload 6, 2) := sdL_isAs_250.2.2.2.2.2.1
theorem dL_isAs_261 : decode cL_isAs 261 = .ok (.iconst 0, 1) := sdL_isAs_250.2.2.2.2.2.2.1
theorem dL_isAs_262 : decode cL_isAs 262 = .ok (.invokevirtual 171, 3) := sdL_isAs_250.2.2.2.2.2.2.2.1
theorem sdL_isAs_265 : dz_Seg cL_isAs [(265, .istore 8, 2), (267, .aload_n 1, 1), (268, .iload 7, 2), (270, .iconst 4, 1), (271, .invokevirtual 109, 3), (274, .ifCond .le 7, 3), (277, .iconst 1, 1), (278, .goto 4, 3)] := dz_sg _ 265 (by decide +kernel)
theorem dL_isAs_265 : decode cL_isAs 265 = .ok (.istore 8, 2) := sdL_isAs_265.1
theorem dL_isAs_267 : decode cL_isAs 267 = .ok (.aload_n 1, 1) := sdL_isAs_265.2.1
theorem dL_isAs_268 : decode cL_isAs 268 = .ok (.iload 7, 2) := sdL_isAs_265.2.2.1
theorem dL_isAs_270 : decode cL_isAs 270 = .ok (.iconst 4, 1) := sdL_isAs_265.2.2.2.1
theorem dL_isAs_271 : decode cL_isAs 271 = .ok (.invokevirtual 109, 3) := sdL_isAs_265.2.2.2.2.1
theorem dL_isAs_274 : decode cL_isAs 274 = .ok (.ifCond .le 7, 3) := sdL_isAs_265.2.2.2.2.2.1
theorem dL_isAs_277 : decode cL_isAs 277 = .ok (.iconst 1, 1) := sdL_isAs_265.2.2.2.2.2.2.1
theorem dL_isAs_278 : decode cL_isAs 278 = .ok (.goto 4, 3) := sdL_isAs_265.2.2.2.2.2.2.2.1
theorem sdL_isAs_281 : dz_Seg cL_isAs [(281, .iconst 0, 1), (282, .istore 9, 2), (284, .aload_n 0, 1), (285, .getfield 16, 3), (288, .iload 7, 2), (290, .iaload, 1), (291, .ifCond .ge 27, 3), (294, .iload 9, 2)] := dz_sg _ 281 (by decide +kernel)
theorem dL_isAs_281 : decode cL_isAs 281 = .ok (.iconst 0, 1) := sdL_isAs_281.1
theorem dL_isAs_282 : decode cL_isAs 282 = .ok (.istore 9, 2) := sdL_isAs_281.2.1
theorem dL_isAs_284 : decode cL_isAs 284 = .ok (.aload_n 0, 1) := sdL_isAs_281.2.2.1
theorem dL_isAs_285 : decode cL_isAs 285 = .ok (.getfield 16, 3) := sdL_isAs_281.2.2.2.1
theorem dL_isAs_288 : decode cL_isAs 288 = .ok (.iload 7, 2) := sdL_isAs_281.2.2.2.2.1
theorem dL_isAs_290 : decode cL_isAs 290 = .ok (.iaload, 1) := sdL_isAs_281.2.2.2.2.2.1
theorem dL_isAs_291 : decode cL_isAs 291 = .ok (.ifCond .ge 27, 3) := sdL_isAs_281.2.2.2.2.2.2.1
theorem dL_isAs_294 : decode cL_isAs 294 = .ok (.iload 9, 2) := sdL_isAs_281.2.2.2.2.2.2.2.1
theorem sdL_isAs_296 : dz_Seg cL_isAs [(296, .ifCond .eq 17, 3), (299, .iload 8, 2), (301, .bipush 20, 2), (303, .if_icmp .ge 10, 3), (306, .iload 8, 2), (308, .iconst 1, 1), (309, .iadd, 1), (310, .goto 31, 3)] := dz_sg _ 296 (by decide +kernel)
theorem dL_isAs_296 : decode cL_isAs 296 = .ok (.ifCond .eq 17, 3) := sdL_isAs_296.1
theorem dL_isAs_299 : decode cL_isAs 299 = .ok (.iload 8, 2) := sdL_isAs_296.2.1
theorem dL_isAs_301 : decode cL_isAs 301 = .ok (.bipush 20, 2) := sdL_isAs_296.2.2.1
theorem dL_isAs_303 : decode cL_isAs 303 = .ok (.if_icmp .ge 10, 3) := sdL_isAs_296.2.2.2.1
theorem dL_isAs_306 : decode cL_isAs 306 = .ok (.iload 8, 2) := sdL_isAs_296.2.2.2.2.1
theorem dL_isAs_308 : decode cL_isAs 308 = .ok (.iconst 1, 1) := sdL_isAs_296.2.2.2.2.2.1
theorem dL_isAs_309 : decode cL_isAs 309 = .ok (.iadd, 1) := sdL_isAs_296.2.2.2.2.2.2.1
theorem dL_isAs_310 : decode cL_isAs 310 = .ok (.goto 31, 3) := sdL_isAs_296.2.2.2.2.2.2.2.1
theorem sdL_isAs_313 : dz_Seg cL_isAs [(313, .iload 8, 2), (315, .goto 26, 3), (318, .aload_n 0, 1), (319, .getfield 16, 3), (322, .iload 7, 2), (324, .iaload, 1), (325, .aload_n 1, 1), (326, .iload 7, 2)] := dz_sg _ 313 (by decide +kernel)
theorem dL_isAs_313 : decode cL_isAs 313 = .ok (.iload 8, 2) := sdL_isAs_313.1
theorem dL_isAs_315 : decode cL_isAs 315 = .ok (.goto 26, 3) := sdL_isAs_313.2.1
theorem dL_isAs_318 : decode cL_isAs 318 = .ok (.aload_n 0, 1) := sdL_isAs_313.2.2.1
theorem dL_isAs_319 : decode cL_isAs 319 = .ok (.getfield 16, 3) := sdL_isAs_313.2.2.2.1
theorem dL_isAs_322 : decode cL_isAs 322 = .ok (.iload 7, 2) := sdL_isAs_313.2.2.2.2.1
theorem dL_isAs_324 : decode cL_isAs 324 = .ok (.iaload, 1) := sdL_isAs_313.2.2.2.2.2.1
theorem dL_isAs_325 : decode cL_isAs 325 = .ok (.aload_n 1, 1) := sdL_isAs_313.2.2.2.2.2.2.1
theorem dL_isAs_326 : decode cL_isAs 326 = .ok (.iload 7, 2) := sdL_isAs_313.2.2.2.2.2.2.2.1
theorem sdL_isAs_328 : dz_Seg cL_isAs [(328, .iconst 0, 1), (329, .invokevirtual 126, 3), (332, .if_icmp .ne 7, 3), (335, .iconst 0, 1), (336, .goto 5, 3), (339, .iload 8, 2), (341, .istore 10, 2), (343, .aload_n 1, 1)] := dz_sg _ 328 (by decide +kernel)
theorem dL_isAs_328 : decode cL_isAs 328 = .ok (.iconst 0, 1) := sdL_isAs_328.1
theorem dL_isAs_329 : decode cL_isAs 329 = .ok (.invokevirtual 126, 3) := sdL_isAs_328.2.1
theorem dL_isAs_332 : decode cL_isAs 332 = .ok (.if_icmp .ne 7, 3) := sdL_isAs_328.2.2.1
theorem dL_isAs_335 : decode cL_isAs 335 = .ok (.iconst 0, 1) := sdL_isAs_328.2.2.2.1
theorem dL_isAs_336 : decode cL_isAs 336 = .ok (.goto 5, 3) := sdL_isAs_328.2.2.2.2.1
theorem dL_isAs_339 : decode cL_isAs 339 = .ok (.iload 8, 2) := sdL_isAs_328.2.2.2.2.2.1
theorem dL_isAs_341 : decode cL_isAs 341 = .ok (.istore 10, 2) := sdL_isAs_328.2.2.2.2.2.2.1
theorem dL_isAs_343 : decode cL_isAs 343 = .ok (.aload_n 1, 1) := sdL_isAs_328.2.2.2.2.2.2.2.1
theorem sdL_isAs_344 : dz_Seg cL_isAs [(344, .iload_n 3, 1), (345, .iload 6, 2), (347, .invokevirtual 174, 3), (350, .iload 10, 2), (352, .if_icmp .eq 5, 3), (355, .iconst 0, 1), (356, .ireturn, 1), (357, .iinc 6 1, 3)] := dz_sg _ 344 (by decide +kernel)
theorem dL_isAs_344 : decode cL_isAs 344 = .ok (.iload_n 3, 1) := sdL_isAs_344.1
theorem dL_isAs_345 : decode cL_isAs 345 = .ok (.iload 6, 2) := sdL_isAs_344.2.1
theorem dL_isAs_347 : decode cL_isAs 347 = .ok (.invokevirtual 174, 3) := sdL_isAs_344.2.2.1
theorem dL_isAs_350 : decode cL_isAs 350 = .ok (.iload 10, 2) := sdL_isAs_344.2.2.2.1
theorem dL_isAs_352 : decode cL_isAs 352 = .ok (.if_icmp .eq 5, 3) := sdL_isAs_344.2.2.2.2.1
theorem dL_isAs_355 : decode cL_isAs 355 = .ok (.iconst 0, 1) := sdL_isAs_344.2.2.2.2.2.1
theorem dL_isAs_356 : decode cL_isAs 356 = .ok (.ireturn, 1) := sdL_isAs_344.2.2.2.2.2.2.1
theorem dL_isAs_357 : decode cL_isAs 357 = .ok (.iinc 6 1, 3) := sdL_isAs_344.2.2.2.2.2.2.2.1
theorem sdL_isAs_360 : dz_Seg cL_isAs [(360, .goto (-117), 3), (363, .iconst 1, 1), (364, .ireturn, 1)] := dz_sg _ 360 (by decide +kernel)
theorem dL_isAs_360 : decode cL_isAs 360 = .ok (.goto (-117), 3) := sdL_isAs_360.1
theorem dL_isAs_363 : decode cL_isAs 363 = .ok (.iconst 1, 1) := sdL_isAs_360.2.1
theorem dL_isAs_364 : decode cL_isAs 364 = .ok (.ireturn, 1) := sdL_isAs_360.2.2.1
