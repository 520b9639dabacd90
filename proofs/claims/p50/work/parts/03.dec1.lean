theorem sdX8_feed_42 : dz_Seg cX8_feed [(42, .iload 5, 2), (44, .invokevirtual 140, 3), (47, .aload_n 0, 1), (48, .getfield 137, 3), (51, .ireturn, 1)] := dz_sg _ 42 (by decide +kernel)
theorem dX8_feed_42 : decode cX8_feed 42 = .ok (.iload 5, 2) := sdX8_feed_42.1
theorem dX8_feed_44 : decode cX8_feed 44 = .ok (.invokevirtual 140, 3) := sdX8_feed_42.2.1
theorem dX8_feed_47 : decode cX8_feed 47 = .ok (.aload_n 0, 1) := sdX8_feed_42.2.2.1
theorem dX8_feed_48 : decode cX8_feed 48 = .ok (.getfield 137, 3) := sdX8_feed_42.2.2.2.1
theorem dX8_feed_51 : decode cX8_feed 51 = .ok (.ireturn, 1) := sdX8_feed_42.2.2.2.2.1
theorem sdX8_byteAt_0 : dz_Seg cX8_byteAt [(0, .iload_n 1, 1), (1, .aload_n 0, 1), (2, .getfield 144, 3), (5, .if_icmp .ge 12, 3), (8, .aload_n 0, 1), (9, .getfield 29, 3), (12, .iload_n 1, 1), (13, .iaload, 1)] := dz_sg _ 0 (by decide +kernel)
theorem dX8_byteAt_0 : decode cX8_byteAt 0 = .ok (.iload_n 1, 1) := sdX8_byteAt_0.1
theorem dX8_byteAt_1 : decode cX8_byteAt 1 = .ok (.aload_n 0, 1) := sdX8_byteAt_0.2.1
theorem dX8_byteAt_2 : decode cX8_byteAt 2 = .ok (.getfield 144, 3) := sdX8_byteAt_0.2.2.1
theorem dX8_byteAt_5 : decode cX8_byteAt 5 = .ok (.if_icmp .ge 12, 3) := sdX8_byteAt_0.2.2.2.1
theorem dX8_byteAt_8 : decode cX8_byteAt 8 = .ok (.aload_n 0, 1) := sdX8_byteAt_0.2.2.2.2.1
theorem dX8_byteAt_9 : decode cX8_byteAt 9 = .ok (.getfield 29, 3) := sdX8_byteAt_0.2.2.2.2.2.1
theorem dX8_byteAt_12 : decode cX8_byteAt 12 = .ok (.iload_n 1, 1) := sdX8_byteAt_0.2.2.2.2.2.2.1
theorem dX8_byteAt_13 : decode cX8_byteAt 13 = .ok (.iaload, 1) := sdX8_byteAt_0.2.2.2.2.2.2.2.1
theorem sdX8_byteAt_14 : dz_Seg cX8_byteAt [(14, .goto 4, 3), (17, .iconst (-1), 1), (18, .ireturn, 1)] := dz_sg _ 14 (by decide +kernel)
theorem dX8_byteAt_14 : decode cX8_byteAt 14 = .ok (.goto 4, 3) := sdX8_byteAt_14.1
theorem dX8_byteAt_17 : decode cX8_byteAt 17 = .ok (.iconst (-1), 1) := sdX8_byteAt_14.2.1
theorem dX8_byteAt_18 : decode cX8_byteAt 18 = .ok (.ireturn, 1) := sdX8_byteAt_14.2.2.1
theorem sdX8_isLetter_0 : dz_Seg cX8_isLetter [(0, .iload_n 0, 1), (1, .bipush 97, 2), (3, .if_icmp .lt 13, 3), (6, .iload_n 0, 1), (7, .bipush 122, 2), (9, .if_icmp .gt 7, 3), (12, .iconst 1, 1), (13, .goto 4, 3)] := dz_sg _ 0 (by decide +kernel)
theorem dX8_isLetter_0 : decode cX8_isLetter 0 = .ok (.iload_n 0, 1) := sdX8_isLetter_0.1
theorem dX8_isLetter_1 : decode cX8_isLetter 1 = .ok (.bipush 97, 2) := sdX8_isLetter_0.2.1
theorem dX8_isLetter_3 : decode cX8_isLetter 3 = .ok (.if_icmp .lt 13, 3) := sdX8_isLetter_0.2.2.1
theorem dX8_isLetter_6 : decode cX8_isLetter 6 = .ok (.iload_n 0, 1) := sdX8_isLetter_0.2.2.2.1
theorem dX8_isLetter_7 : decode cX8_isLetter 7 = .ok (.bipush 122, 2) := sdX8_isLetter_0.2.2.2.2.1
theorem dX8_isLetter_9 : decode cX8_isLetter 9 = .ok (.if_icmp .gt 7, 3) := sdX8_isLetter_0.2.2.2.2.2.1
theorem dX8_isLetter_12 : decode cX8_isLetter 12 = .ok (.iconst 1, 1) := sdX8_isLetter_0.2.2.2.2.2.2.1
theorem dX8_isLetter_13 : decode cX8_isLetter 13 = .ok (.goto 4, 3) := sdX8_isLetter_0.2.2.2.2.2.2.2.1
theorem sdX8_isLetter_16 : dz_Seg cX8_isLetter [(16, .iconst 0, 1), (17, .ireturn, 1)] := dz_sg _ 16 (by decide +kernel)
theorem dX8_isLetter_16 : decode cX8_isLetter 16 = .ok (.iconst 0, 1) := sdX8_isLetter_16.1
theorem dX8_isLetter_17 : decode cX8_isLetter 17 = .ok (.ireturn, 1) := sdX8_isLetter_16.2.1
theorem sdX8_isDigit_0 : dz_Seg cX8_isDigit [(0, .iload_n 0, 1), (1, .bipush 48, 2), (3, .if_icmp .lt 13, 3), (6, .iload_n 0, 1), (7, .bipush 57, 2), (9, .if_icmp .gt 7, 3), (12, .iconst 1, 1), (13, .goto 4, 3)] := dz_sg _ 0 (by decide +kernel)
theorem dX8_isDigit_0 : decode cX8_isDigit 0 = .ok (.iload_n 0, 1) := sdX8_isDigit_0.1
theorem dX8_isDigit_1 : decode cX8_isDigit 1 = .ok (.bipush 48, 2) := sdX8_isDigit_0.2.1
theorem dX8_isDigit_3 : decode cX8_isDigit 3 = .ok (.if_icmp .lt 13, 3) := sdX8_isDigit_0.2.2.1
theorem dX8_isDigit_6 : decode cX8_isDigit 6 = .ok (.iload_n 0, 1) := sdX8_isDigit_0.2.2.2.1
theorem dX8_isDigit_7 : decode cX8_isDigit 7 = .ok (.bipush 57, 2) := sdX8_isDigit_0.2.2.2.2.1
theorem dX8_isDigit_9 : decode cX8_isDigit 9 = .ok (.if_icmp .gt 7, 3) := sdX8_isDigit_0.2.2.2.2.2.1
theorem dX8_isDigit_12 : decode cX8_isDigit 12 = .ok (.iconst 1, 1) := sdX8_isDigit_0.2.2.2.2.2.2.1
theorem dX8_isDigit_13 : decode cX8_isDigit 13 = .ok (.goto 4, 3) := sdX8_isDigit_0.2.2.2.2.2.2.2.1
theorem sdX8_isDigit_16 : dz_Seg cX8_isDigit [(16, .iconst 0, 1), (17, .ireturn, 1)] := dz_sg _ 16 (by decide +kernel)
theorem dX8_isDigit_16 : decode cX8_isDigit 16 = .ok (.iconst 0, 1) := sdX8_isDigit_16.1
theorem dX8_isDigit_17 : decode cX8_isDigit 17 = .ok (.ireturn, 1) := sdX8_isDigit_16.2.1
theorem sdX8_next_0 : dz_Seg cX8_next [(0, .aload_n 0, 1), (1, .aload_n 0, 1), (2, .getfield 147, 3), (5, .invokevirtual 150, 3), (8, .bipush 32, 2), (10, .if_icmp .eq 16, 3), (13, .aload_n 0, 1), (14, .aload_n 0, 1)] := dz_sg _ 0 (by decide +kernel)
theorem dX8_next_0 : decode cX8_next 0 = .ok (.aload_n 0, 1) := sdX8_next_0.1
theorem dX8_next_1 : decode cX8_next 1 = .ok (.aload_n 0, 1) := sdX8_next_0.2.1
theorem dX8_next_2 : decode cX8_next 2 = .ok (.getfield 147, 3) := sdX8_next_0.2.2.1
theorem dX8_next_5 : decode cX8_next 5 = .ok (.invokevirtual 150, 3) := sdX8_next_0.2.2.2.1
theorem dX8_next_8 : decode cX8_next 8 = .ok (.bipush 32, 2) := sdX8_next_0.2.2.2.2.1
theorem dX8_next_10 : decode cX8_next 10 = .ok (.if_icmp .eq 16, 3) := sdX8_next_0.2.2.2.2.2.1
theorem dX8_next_13 : decode cX8_next 13 = .ok (.aload_n 0, 1) := sdX8_next_0.2.2.2.2.2.2.1
theorem dX8_next_14 : decode cX8_next 14 = .ok (.aload_n 0, 1) := sdX8_next_0.2.2.2.2.2.2.2.1
theorem sdX8_next_15 : dz_Seg cX8_next [(15, .getfield 147, 3), (18, .invokevirtual 150, 3), (21, .bipush 10, 2), (23, .if_icmp .ne 16, 3), (26, .aload_n 0, 1), (27, .dup, 1), (28, .getfield 147, 3), (31, .iconst 1, 1)] := dz_sg _ 15 (by decide +kernel)
theorem dX8_next_15 : decode cX8_next 15 = .ok (.getfield 147, 3) := sdX8_next_15.1
theorem dX8_next_18 : decode cX8_next 18 = .ok (.invokevirtual 150, 3) := sdX8_next_15.2.1
theorem dX8_next_21 : decode cX8_next 21 = .ok (.bipush 10, 2) := sdX8_next_15.2.2.1
theorem dX8_next_23 : decode cX8_next 23 = .ok (.if_icmp .ne 16, 3) := sdX8_next_15.2.2.2.1
theorem dX8_next_26 : decode cX8_next 26 = .ok (.aload_n 0, 1) := sdX8_next_15.2.2.2.2.1
theorem dX8_next_27 : decode cX8_next 27 = .ok (.dup, 1) := sdX8_next_15.2.2.2.2.2.1
theorem dX8_next_28 : decode cX8_next 28 = .ok (.getfield 147, 3) := sdX8_next_15.2.2.2.2.2.2.1
theorem dX8_next_31 : decode cX8_next 31 = .ok (.iconst 1, 1) := sdX8_next_15.2.2.2.2.2.2.2.1
theorem sdX8_next_32 : dz_Seg cX8_next [(32, .iadd, 1), (33, .putfield 147, 3), (36, .goto (-36), 3), (39, .aload_n 0, 1), (40, .aload_n 0, 1), (41, .getfield 147, 3), (44, .putfield 154, 3), (47, .aload_n 0, 1)] := dz_sg _ 32 (by decide +kernel)
theorem dX8_next_32 : decode cX8_next 32 = .ok (.iadd, 1) := sdX8_next_32.1
theorem dX8_next_33 : decode cX8_next 33 = .ok (.putfield 147, 3) := sdX8_next_32.2.1
theorem dX8_next_36 : decode cX8_next 36 = .ok (.goto (-36), 3) := sdX8_next_32.2.2.1
theorem dX8_next_39 : decode cX8_next 39 = .ok (.aload_n 0, 1) := sdX8_next_32.2.2.2.1
theorem dX8_next_40 : decode cX8_next 40 = .ok (.aload_n 0, 1) := sdX8_next_32.2.2.2.2.1
theorem dX8_next_41 : decode cX8_next 41 = .ok (.getfield 147, 3) := sdX8_next_32.2.2.2.2.2.1
theorem dX8_next_44 : decode cX8_next 44 = .ok (.putfield 154, 3) := sdX8_next_32.2.2.2.2.2.2.1
theorem dX8_next_47 : decode cX8_next 47 = .ok (.aload_n 0, 1) := sdX8_next_32.2.2.2.2.2.2.2.1
theorem sdX8_next_48 : dz_Seg cX8_next [(48, .iconst (-1), 1), (49, .putfield 157, 3), (52, .aload_n 0, 1), (53, .aload_n 0, 1), (54, .getfield 147, 3), (57, .invokevirtual 150, 3), (60, .istore_n 1, 1), (61, .iload_n 1, 1)] := dz_sg _ 48 (by decide +kernel)
theorem dX8_next_48 : decode cX8_next 48 = .ok (.iconst (-1), 1) := sdX8_next_48.1
theorem dX8_next_49 : decode cX8_next 49 = .ok (.putfield 157, 3) := sdX8_next_48.2.1
theorem dX8_next_52 : decode cX8_next 52 = .ok (.aload_n 0, 1) := sdX8_next_48.2.2.1
theorem dX8_next_53 : decode cX8_next 53 = .ok (.aload_n 0, 1) := sdX8_next_48.2.2.2.1
theorem dX8_next_54 : decode cX8_next 54 = .ok (.getfield 147, 3) := sdX8_next_48.2.2.2.2.1
theorem dX8_next_57 : decode cX8_next 57 = .ok (.invokevirtual 150, 3) := sdX8_next_48.2.2.2.2.2.1
theorem dX8_next_60 : decode cX8_next 60 = .ok (.istore_n 1, 1) := sdX8_next_48.2.2.2.2.2.2.1
theorem dX8_next_61 : decode cX8_next 61 = .ok (.iload_n 1, 1) := sdX8_next_48.2.2.2.2.2.2.2.1
theorem sdX8_next_62 : dz_Seg cX8_next [(62, .iconst (-1), 1), (63, .if_icmp .ne 11, 3), (66, .aload_n 0, 1), (67, .iconst 0, 1), (68, .putfield 160, 3), (71, .goto 249, 3), (74, .iload_n 1, 1), (75, .invokestatic 163, 3)] := dz_sg _ 62 (by decide +kernel)
theorem dX8_next_62 : decode cX8_next 62 = .ok (.iconst (-1), 1) := sdX8_next_62.1
theorem dX8_next_63 : decode cX8_next 63 = .ok (.if_icmp .ne 11, 3) := sdX8_next_62.2.1
theorem dX8_next_66 : decode cX8_next 66 = .ok (.aload_n 0, 1) := sdX8_next_62.2.2.1
theorem dX8_next_67 : decode cX8_next 67 = .ok (.iconst 0, 1) := sdX8_next_62.2.2.2.1
theorem dX8_next_68 : decode cX8_next 68 = .ok (.putfield 160, 3) := sdX8_next_62.2.2.2.2.1
theorem dX8_next_71 : decode cX8_next 71 = .ok (.goto 249, 3) := sdX8_next_62.2.2.2.2.2.1
theorem dX8_next_74 : decode cX8_next 74 = .ok (.iload_n 1, 1) := sdX8_next_62.2.2.2.2.2.2.1
theorem dX8_next_75 : decode cX8_next 75 = .ok (.invokestatic 163, 3) := sdX8_next_62.2.2.2.2.2.2.2.1
theorem sdX8_next_78 : dz_Seg cX8_next [(78, .ifCond .eq 117, 3), (81, .aload_n 0, 1), (82, .lconst 0, 1), (83, .putfield 167, 3), (86, .aload_n 0, 1), (87, .aload_n 0, 1), (88, .getfield 147, 3), (91, .invokevirtual 150, 3)] := dz_sg _ 78 (by decide +kernel)
theorem dX8_next_78 : decode cX8_next 78 = .ok (.ifCond .eq 117, 3) := sdX8_next_78.1
theorem dX8_next_81 : decode cX8_next 81 = .ok (.aload_n 0, 1) := sdX8_next_78.2.1
theorem dX8_next_82 : decode cX8_next 82 = .ok (.lconst 0, 1) := sdX8_next_78.2.2.1
theorem dX8_next_83 : decode cX8_next 83 = .ok (.putfield 167, 3) := sdX8_next_78.2.2.2.1
theorem dX8_next_86 : decode cX8_next 86 = .ok (.aload_n 0, 1) := sdX8_next_78.2.2.2.2.1
theorem dX8_next_87 : decode cX8_next 87 = .ok (.aload_n 0, 1) := sdX8_next_78.2.2.2.2.2.1
theorem dX8_next_88 : decode cX8_next 88 = .ok (.getfield 147, 3) := sdX8_next_78.2.2.2.2.2.2.1
theorem dX8_next_91 : decode cX8_next 91 = .ok (.invokevirtual 150, 3) := sdX8_next_78.2.2.2.2.2.2.2.1
theorem sdX8_next_94 : dz_Seg cX8_next [(94, .invokestatic 163, 3), (97, .ifCond .eq 54, 3), (100, .aload_n 0, 1), (101, .getfield 147, 3), (104, .aload_n 0, 1), (105, .getfield 154, 3), (108, .isub, 1), (109, .bipush 8, 2)] := dz_sg _ 94 (by decide +kernel)
theorem dX8_next_94 : decode cX8_next 94 = .ok (.invokestatic 163, 3) := sdX8_next_94.1
theorem dX8_next_97 : decode cX8_next 97 = .ok (.ifCond .eq 54, 3) := sdX8_next_94.2.1
theorem dX8_next_100 : decode cX8_next 100 = .ok (.aload_n 0, 1) := sdX8_next_94.2.2.1
theorem dX8_next_101 : decode cX8_next 101 = .ok (.getfield 147, 3) := sdX8_next_94.2.2.2.1
theorem dX8_next_104 : decode cX8_next 104 = .ok (.aload_n 0, 1) := sdX8_next_94.2.2.2.2.1
theorem dX8_next_105 : decode cX8_next 105 = .ok (.getfield 154, 3) := sdX8_next_94.2.2.2.2.2.1
theorem dX8_next_108 : decode cX8_next 108 = .ok (.isub, 1) := sdX8_next_94.2.2.2.2.2.2.1
theorem dX8_next_109 : decode cX8_next 109 = .ok (.bipush 8, 2) := sdX8_next_94.2.2.2.2.2.2.2.1
theorem sdX8_next_111 : dz_Seg cX8_next [(111, .if_icmp .ge 27, 3), (114, .aload_n 0, 1), (115, .aload_n 0, 1), (116, .getfield 167, 3), (119, .iconst 5, 1), (120, .lshl, 1), (121, .aload_n 0, 1), (122, .aload_n 0, 1)] := dz_sg _ 111 (by decide +kernel)
theorem dX8_next_111 : decode cX8_next 111 = .ok (.if_icmp .ge 27, 3) := sdX8_next_111.1
theorem dX8_next_114 : decode cX8_next 114 = .ok (.aload_n 0, 1) := sdX8_next_111.2.1
theorem dX8_next_115 : decode cX8_next 115 = .ok (.aload_n 0, 1) := sdX8_next_111.2.2.1
theorem dX8_next_116 : decode cX8_next 116 = .ok (.getfield 167, 3) := sdX8_next_111.2.2.2.1
theorem dX8_next_119 : decode cX8_next 119 = .ok (.iconst 5, 1) := sdX8_next_111.2.2.2.2.1
theorem dX8_next_120 : decode cX8_next 120 = .ok (.lshl, 1) := sdX8_next_111.2.2.2.2.2.1
theorem dX8_next_121 : decode cX8_next 121 = .ok (.aload_n 0, 1) := sdX8_next_111.2.2.2.2.2.2.1
theorem dX8_next_122 : decode cX8_next 122 = .ok (.aload_n 0, 1) := sdX8_next_111.2.2.2.2.2.2.2.1
theorem sdX8_next_123 : dz_Seg cX8_next [(123, .getfield 147, 3), (126, .invokevirtual 150, 3), (129, .i2l, 1), (130, .ldc2_w 171, 3), (133, .lsub, 1), (134, .lor, 1), (135, .putfield 167, 3), (138, .aload_n 0, 1)] := dz_sg _ 123 (by decide +kernel)
theorem dX8_next_123 : decode cX8_next 123 = .ok (.getfield 147, 3) := sdX8_next_123.1
theorem dX8_next_126 : decode cX8_next 126 = .ok (.invokevirtual 150, 3) := sdX8_next_123.2.1
theorem dX8_next_129 : decode cX8_next 129 = .ok (.i2l, 1) := sdX8_next_123.2.2.1
theorem dX8_next_130 : decode cX8_next 130 = .ok (.ldc2_w 171, 3) := sdX8_next_123.2.2.2.1
theorem dX8_next_133 : decode cX8_next 133 = .ok (.lsub, 1) := sdX8_next_123.2.2.2.2.1
theorem dX8_next_134 : decode cX8_next 134 = .ok (.lor, 1) := sdX8_next_123.2.2.2.2.2.1
theorem dX8_next_135 : decode cX8_next 135 = .ok (.putfield 167, 3) := sdX8_next_123.2.2.2.2.2.2.1
theorem dX8_next_138 : decode cX8_next 138 = .ok (.aload_n 0, 1) := sdX8_next_123.2.2.2.2.2.2.2.1
theorem sdX8_next_139 : dz_Seg cX8_next [(139, .dup, 1), (140, .getfield 147, 3), (143, .iconst 1, 1), (144, .iadd, 1), (145, .putfield 147, 3), (148, .goto (-62), 3), (151, .aload_n 0, 1), (152, .aload_n 0, 1)] := dz_sg _ 139 (by decide +kernel)
theorem dX8_next_139 : decode cX8_next 139 = .ok (.dup, 1) := sdX8_next_139.1
theorem dX8_next_140 : decode cX8_next 140 = .ok (.getfield 147, 3) := sdX8_next_139.2.1
theorem dX8_next_143 : decode cX8_next 143 = .ok (.iconst 1, 1) := sdX8_next_139.2.2.1
theorem dX8_next_144 : decode cX8_next 144 = .ok (.iadd, 1) := sdX8_next_139.2.2.2.1
theorem dX8_next_145 : decode cX8_next 145 = .ok (.putfield 147, 3) := sdX8_next_139.2.2.2.2.1
theorem dX8_next_148 : decode cX8_next 148 = .ok (.goto (-62), 3) := sdX8_next_139.2.2.2.2.2.1
theorem dX8_next_151 : decode cX8_next 151 = .ok (.aload_n 0, 1) := sdX8_next_139.2.2.2.2.2.2.1
theorem dX8_next_152 : decode cX8_next 152 = .ok (.aload_n 0, 1) := sdX8_next_139.2.2.2.2.2.2.2.1
theorem sdX8_next_153 : dz_Seg cX8_next [(153, .getfield 147, 3), (156, .aload_n 0, 1), (157, .getfield 154, 3), (160, .isub, 1), (161, .bipush 8, 2), (163, .if_icmp .le 7, 3), (166, .iconst 1, 1), (167, .goto 4, 3)] := dz_sg _ 153 (by decide +kernel)
theorem dX8_next_153 : decode cX8_next 153 = .ok (.getfield 147, 3) := sdX8_next_153.1
theorem dX8_next_156 : decode cX8_next 156 = .ok (.aload_n 0, 1) := sdX8_next_153.2.1
theorem dX8_next_157 : decode cX8_next 157 = .ok (.getfield 154, 3) := sdX8_next_153.2.2.1
theorem dX8_next_160 : decode cX8_next 160 = .ok (.isub, 1) := sdX8_next_153.2.2.2.1
theorem dX8_next_161 : decode cX8_next 161 = .ok (.bipush 8, 2) := sdX8_next_153.2.2.2.2.1
theorem dX8_next_163 : decode cX8_next 163 = .ok (.if_icmp .le 7, 3) := sdX8_next_153.2.2.2.2.2.1
theorem dX8_next_166 : decode cX8_next 166 = .ok (.iconst 1, 1) := sdX8_next_153.2.2.2.2.2.2.1
theorem dX8_next_167 : decode cX8_next 167 = .ok (.goto 4, 3) := sdX8_next_153.2.2.2.2.2.2.2.1
theorem sdX8_next_170 : dz_Seg cX8_next [(170, .iconst 2, 1), (171, .putfield 160, 3), (174, .aload_n 0, 1), (175, .getfield 160, 3), (178, .iconst 2, 1), (179, .if_icmp .ne 141, 3), (182, .aload_n 0, 1), (183, .aload_n 0, 1)] := dz_sg _ 170 (by decide +kernel)
theorem dX8_next_170 : decode cX8_next 170 = .ok (.iconst 2, 1) := sdX8_next_170.1
theorem dX8_next_171 : decode cX8_next 171 = .ok (.putfield 160, 3) := sdX8_next_170.2.1
theorem dX8_next_174 : decode cX8_next 174 = .ok (.aload_n 0, 1) := sdX8_next_170.2.2.1
theorem dX8_next_175 : decode cX8_next 175 = .ok (.getfield 160, 3) := sdX8_next_170.2.2.2.1
theorem dX8_next_178 : decode cX8_next 178 = .ok (.iconst 2, 1) := sdX8_next_170.2.2.2.2.1
theorem dX8_next_179 : decode cX8_next 179 = .ok (.if_icmp .ne 141, 3) := sdX8_next_170.2.2.2.2.2.1
theorem dX8_next_182 : decode cX8_next 182 = .ok (.aload_n 0, 1) := sdX8_next_170.2.2.2.2.2.2.1
theorem dX8_next_183 : decode cX8_next 183 = .ok (.aload_n 0, 1) := sdX8_next_170.2.2.2.2.2.2.2.1
theorem sdX8_next_184 : dz_Seg cX8_next [(184, .ldc 173, 2), (186, .invokevirtual 175, 3), (189, .putfield 157, 3), (192, .goto 128, 3), (195, .iload_n 1, 1), (196, .invokestatic 179, 3), (199, .ifCond .eq 96, 3), (202, .aload_n 0, 1)] := dz_sg _ 184 (by decide +kernel)
theorem dX8_next_184 : decode cX8_next 184 = .ok (.ldc 173, 2) := sdX8_next_184.1
theorem dX8_next_186 : decode cX8_next 186 = .ok (.invokevirtual 175, 3) := sdX8_next_184.2.1
theorem dX8_next_189 : decode cX8_next 189 = .ok (.putfield 157, 3) := sdX8_next_184.2.2.1
theorem dX8_next_192 : decode cX8_next 192 = .ok (.goto 128, 3) := sdX8_next_184.2.2.2.1
theorem dX8_next_195 : decode cX8_next 195 = .ok (.iload_n 1, 1) := sdX8_next_184.2.2.2.2.1
theorem dX8_next_196 : decode cX8_next 196 = .ok (.invokestatic 179, 3) := sdX8_next_184.2.2.2.2.2.1
theorem dX8_next_199 : decode cX8_next 199 = .ok (.ifCond .eq 96, 3) := sdX8_next_184.2.2.2.2.2.2.1
theorem dX8_next_202 : decode cX8_next 202 = .ok (.aload_n 0, 1) := sdX8_next_184.2.2.2.2.2.2.2.1
theorem sdX8_next_203 : dz_Seg cX8_next [(203, .iconst 0, 1), (204, .putfield 182, 3), (207, .aload_n 0, 1), (208, .aload_n 0, 1), (209, .getfield 147, 3), (212, .invokevirtual 150, 3), (215, .invokestatic 179, 3), (218, .ifCond .eq 52, 3)] := dz_sg _ 203 (by decide +kernel)
theorem dX8_next_203 : decode cX8_next 203 = .ok (.iconst 0, 1) := sdX8_next_203.1
theorem dX8_next_204 : decode cX8_next 204 = .ok (.putfield 182, 3) := sdX8_next_203.2.1
theorem dX8_next_207 : decode cX8_next 207 = .ok (.aload_n 0, 1) := sdX8_next_203.2.2.1
theorem dX8_next_208 : decode cX8_next 208 = .ok (.aload_n 0, 1) := sdX8_next_203.2.2.2.1
theorem dX8_next_209 : decode cX8_next 209 = .ok (.getfield 147, 3) := sdX8_next_203.2.2.2.2.1
theorem dX8_next_212 : decode cX8_next 212 = .ok (.invokevirtual 150, 3) := sdX8_next_203.2.2.2.2.2.1
theorem dX8_next_215 : decode cX8_next 215 = .ok (.invokestatic 179, 3) := sdX8_next_203.2.2.2.2.2.2.1
theorem dX8_next_218 : decode cX8_next 218 = .ok (.ifCond .eq 52, 3) := sdX8_next_203.2.2.2.2.2.2.2.1
theorem sdX8_next_221 : dz_Seg cX8_next [(221, .aload_n 0, 1), (222, .getfield 147, 3), (225, .aload_n 0, 1), (226, .getfield 154, 3), (229, .isub, 1), (230, .iconst 3, 1), (231, .if_icmp .ge 26, 3), (234, .aload_n 0, 1)] := dz_sg _ 221 (by decide +kernel)
theorem dX8_next_221 : decode cX8_next 221 = .ok (.aload_n 0, 1) := sdX8_next_221.1
theorem dX8_next_222 : decode cX8_next 222 = .ok (.getfield 147, 3) := sdX8_next_221.2.1
theorem dX8_next_225 : decode cX8_next 225 = .ok (.aload_n 0, 1) := sdX8_next_221.2.2.1
theorem dX8_next_226 : decode cX8_next 226 = .ok (.getfield 154, 3) := sdX8_next_221.2.2.2.1
theorem dX8_next_229 : decode cX8_next 229 = .ok (.isub, 1) := sdX8_next_221.2.2.2.2.1
theorem dX8_next_230 : decode cX8_next 230 = .ok (.iconst 3, 1) := sdX8_next_221.2.2.2.2.2.1
theorem dX8_next_231 : decode cX8_next 231 = .ok (.if_icmp .ge 26, 3) := sdX8_next_221.2.2.2.2.2.2.1
theorem dX8_next_234 : decode cX8_next 234 = .ok (.aload_n 0, 1) := sdX8_next_221.2.2.2.2.2.2.2.1
theorem sdX8_next_235 : dz_Seg cX8_next [(235, .bipush 10, 2), (237, .aload_n 0, 1), (238, .getfield 182, 3), (241, .imul, 1), (242, .aload_n 0, 1), (243, .aload_n 0, 1), (244, .getfield 147, 3), (247, .invokevirtual 150, 3)] := dz_sg _ 235 (by decide +kernel)
theorem dX8_next_235 : decode cX8_next 235 = .ok (.bipush 10, 2) := sdX8_next_235.1
theorem dX8_next_237 : decode cX8_next 237 = .ok (.aload_n 0, 1) := sdX8_next_235.2.1
theorem dX8_next_238 : decode cX8_next 238 = .ok (.getfield 182, 3) := sdX8_next_235.2.2.1
theorem dX8_next_241 : decode cX8_next 241 = .ok (.imul, 1) := sdX8_next_235.2.2.2.1
theorem dX8_next_242 : decode cX8_next 242 = .ok (.aload_n 0, 1) := sdX8_next_235.2.2.2.2.1
theorem dX8_next_243 : decode cX8_next 243 = .ok (.aload_n 0, 1) := sdX8_next_235.2.2.2.2.2.1
theorem dX8_next_244 : decode cX8_next 244 = .ok (.getfield 147, 3) := sdX8_next_235.2.2.2.2.2.2.1
theorem dX8_next_247 : decode cX8_next 247 = .ok (.invokevirtual 150, 3) := sdX8_next_235.2.2.2.2.2.2.2.1
theorem sdX8_next_250 : dz_Seg cX8_next [(250, .iadd, 1), (251, .bipush 48, 2), (253, .isub, 1), (254, .putfield 182, 3), (257, .aload_n 0, 1), (258, .dup, 1), (259, .getfield 147, 3), (262, .iconst 1, 1)] := dz_sg _ 250 (by decide +kernel)
theorem dX8_next_250 : decode cX8_next 250 = .ok (.iadd, 1) := sdX8_next_250.1
theorem dX8_next_251 : decode cX8_next 251 = .ok (.bipush 48, 2) := sdX8_next_250.2.1
theorem dX8_next_253 : decode cX8_next 253 = .ok (.isub, 1) := sdX8_next_250.2.2.1
theorem dX8_next_254 : decode cX8_next 254 = .ok (.putfield 182, 3) := sdX8_next_250.2.2.2.1
theorem dX8_next_257 : decode cX8_next 257 = .ok (.aload_n 0, 1) := sdX8_next_250.2.2.2.2.1
theorem dX8_next_258 : decode cX8_next 258 = .ok (.dup, 1) := sdX8_next_250.2.2.2.2.2.1
theorem dX8_next_259 : decode cX8_next 259 = .ok (.getfield 147, 3) := sdX8_next_250.2.2.2.2.2.2.1
theorem dX8_next_262 : decode cX8_next 262 = .ok (.iconst 1, 1) := sdX8_next_250.2.2.2.2.2.2.2.1
theorem sdX8_next_263 : dz_Seg cX8_next [(263, .iadd, 1), (264, .putfield 147, 3), (267, .goto (-60), 3), (270, .aload_n 0, 1), (271, .aload_n 0, 1), (272, .getfield 147, 3), (275, .aload_n 0, 1), (276, .getfield 154, 3)] := dz_sg _ 263 (by decide +kernel)
theorem dX8_next_263 : decode cX8_next 263 = .ok (.iadd, 1) := sdX8_next_263.1
theorem dX8_next_264 : decode cX8_next 264 = .ok (.putfield 147, 3) := sdX8_next_263.2.1
theorem dX8_next_267 : decode cX8_next 267 = .ok (.goto (-60), 3) := sdX8_next_263.2.2.1
theorem dX8_next_270 : decode cX8_next 270 = .ok (.aload_n 0, 1) := sdX8_next_263.2.2.2.1
theorem dX8_next_271 : decode cX8_next 271 = .ok (.aload_n 0, 1) := sdX8_next_263.2.2.2.2.1
theorem dX8_next_272 : decode cX8_next 272 = .ok (.getfield 147, 3) := sdX8_next_263.2.2.2.2.2.1
theorem dX8_next_275 : decode cX8_next 275 = .ok (.aload_n 0, 1) := sdX8_next_263.2.2.2.2.2.2.1
theorem dX8_next_276 : decode cX8_next 276 = .ok (.getfield 154, 3) := sdX8_next_263.2.2.2.2.2.2.2.1
theorem sdX8_next_279 : dz_Seg cX8_next [(279, .isub, 1), (280, .iconst 3, 1), (281, .if_icmp .le 7, 3), (284, .iconst 1, 1), (285, .goto 4, 3), (288, .iconst 3, 1), (289, .putfield 160, 3), (292, .goto 28, 3)] := dz_sg _ 279 (by decide +kernel)
theorem dX8_next_279 : decode cX8_next 279 = .ok (.isub, 1) := sdX8_next_279.1
theorem dX8_next_280 : decode cX8_next 280 = .ok (.iconst 3, 1) := sdX8_next_279.2.1
theorem dX8_next_281 : decode cX8_next 281 = .ok (.if_icmp .le 7, 3) := sdX8_next_279.2.2.1
theorem dX8_next_284 : decode cX8_next 284 = .ok (.iconst 1, 1) := sdX8_next_279.2.2.2.1
theorem dX8_next_285 : decode cX8_next 285 = .ok (.goto 4, 3) := sdX8_next_279.2.2.2.2.1
theorem dX8_next_288 : decode cX8_next 288 = .ok (.iconst 3, 1) := sdX8_next_279.2.2.2.2.2.1
theorem dX8_next_289 : decode cX8_next 289 = .ok (.putfield 160, 3) := sdX8_next_279.2.2.2.2.2.2.1
theorem dX8_next_292 : decode cX8_next 292 = .ok (.goto 28, 3) := sdX8_next_279.2.2.2.2.2.2.2.1
theorem sdX8_next_295 : dz_Seg cX8_next [(295, .aload_n 0, 1), (296, .dup, 1), (297, .getfield 147, 3), (300, .iconst 1, 1), (301, .iadd, 1), (302, .putfield 147, 3), (305, .aload_n 0, 1), (306, .iload_n 1, 1)] := dz_sg _ 295 (by decide +kernel)
theorem dX8_next_295 : decode cX8_next 295 = .ok (.aload_n 0, 1) := sdX8_next_295.1
theorem dX8_next_296 : decode cX8_next 296 = .ok (.dup, 1) := sdX8_next_295.2.1
theorem dX8_next_297 : decode cX8_next 297 = .ok (.getfield 147, 3) := sdX8_next_295.2.2.1
theorem dX8_next_300 : decode cX8_next 300 = .ok (.iconst 1, 1) := sdX8_next_295.2.2.2.1
theorem dX8_next_301 : decode cX8_next 301 = .ok (.iadd, 1) := sdX8_next_295.2.2.2.2.1
theorem dX8_next_302 : decode cX8_next 302 = .ok (.putfield 147, 3) := sdX8_next_295.2.2.2.2.2.1
theorem dX8_next_305 : decode cX8_next 305 = .ok (.aload_n 0, 1) := sdX8_next_295.2.2.2.2.2.2.1
theorem dX8_next_306 : decode cX8_next 306 = .ok (.iload_n 1, 1) := sdX8_next_295.2.2.2.2.2.2.2.1
theorem sdX8_next_307 : dz_Seg cX8_next [(307, .bipush 59, 2), (309, .if_icmp .ne 7, 3), (312, .iconst 4, 1), (313, .goto 4, 3), (316, .iconst 1, 1), (317, .putfield 160, 3), (320, .iconst 1, 1), (321, .ireturn, 1)] := dz_sg _ 307 (by decide +kernel)
theorem dX8_next_307 : decode cX8_next 307 = .ok (.bipush 59, 2) := sdX8_next_307.1
theorem dX8_next_309 : decode cX8_next 309 = .ok (.if_icmp .ne 7, 3) := sdX8_next_307.2.1
theorem dX8_next_312 : decode cX8_next 312 = .ok (.iconst 4, 1) := sdX8_next_307.2.2.1
theorem dX8_next_313 : decode cX8_next 313 = .ok (.goto 4, 3) := sdX8_next_307.2.2.2.1
theorem dX8_next_316 : decode cX8_next 316 = .ok (.iconst 1, 1) := sdX8_next_307.2.2.2.2.1
theorem dX8_next_317 : decode cX8_next 317 = .ok (.putfield 160, 3) := sdX8_next_307.2.2.2.2.2.1
theorem dX8_next_320 : decode cX8_next 320 = .ok (.iconst 1, 1) := sdX8_next_307.2.2.2.2.2.2.1
theorem dX8_next_321 : decode cX8_next 321 = .ok (.ireturn, 1) := sdX8_next_307.2.2.2.2.2.2.2.1
theorem sdX8_among_0 : dz_Seg cX8_among [(0, .iconst 0, 1), (1, .istore_n 2, 1), (2, .lconst 0, 1), (3, .lstore_n 3, 1), (4, .iconst 0, 1), (5, .istore 5, 2), (7, .iload 5, 2), (9, .aload_n 1, 1)] := dz_sg _ 0 (by decide +kernel)
theorem dX8_among_0 : decode cX8_among 0 = .ok (.iconst 0, 1) := sdX8_among_0.1
theorem dX8_among_1 : decode cX8_among 1 = .ok (.istore_n 2, 1) := sdX8_among_0.2.1
theorem dX8_among_2 : decode cX8_among 2 = .ok (.lconst 0, 1) := sdX8_among_0.2.2.1
theorem dX8_among_3 : decode cX8_among 3 = .ok (.lstore_n 3, 1) := sdX8_among_0.2.2.2.1
theorem dX8_among_4 : decode cX8_among 4 = .ok (.iconst 0, 1) := sdX8_among_0.2.2.2.2.1
theorem dX8_among_5 : decode cX8_among 5 = .ok (.istore 5, 2) := sdX8_among_0.2.2.2.2.2.1
theorem dX8_among_7 : decode cX8_among 7 = .ok (.iload 5, 2) := sdX8_among_0.2.2.2.2.2.2.1
theorem dX8_among_9 : decode cX8_among 9 = .ok (.aload_n 1, 1) := sdX8_among_0.2.2.2.2.2.2.2.1
theorem sdX8_among_10 : dz_Seg cX8_among [(10, .invokevirtual 185, 3), (13, .if_icmp .ge 55, 3), (16, .aload_n 1, 1), (17, .iload 5, 2), (19, .invokevirtual 191, 3), (22, .istore 6, 2), (24, .iload 6, 2), (26, .bipush 32, 2)] := dz_sg _ 10 (by decide +kernel)
theorem dX8_among_10 : decode cX8_among 10 = .ok (.invokevirtual 185, 3) := sdX8_among_10.1
theorem dX8_among_13 : decode cX8_among 13 = .ok (.if_icmp .ge 55, 3) := sdX8_among_10.2.1
theorem dX8_among_16 : decode cX8_among 16 = .ok (.aload_n 1, 1) := sdX8_among_10.2.2.1
theorem dX8_among_17 : decode cX8_among 17 = .ok (.iload 5, 2) := sdX8_among_10.2.2.2.1
theorem dX8_among_19 : decode cX8_among 19 = .ok (.invokevirtual 191, 3) := sdX8_among_10.2.2.2.2.1
theorem dX8_among_22 : decode cX8_among 22 = .ok (.istore 6, 2) := sdX8_among_10.2.2.2.2.2.1
theorem dX8_among_24 : decode cX8_among 24 = .ok (.iload 6, 2) := sdX8_among_10.2.2.2.2.2.2.1
theorem dX8_among_26 : decode cX8_among 26 = .ok (.bipush 32, 2) := sdX8_among_10.2.2.2.2.2.2.2.1
theorem sdX8_among_28 : dz_Seg cX8_among [(28, .if_icmp .eq 18, 3), (31, .lload_n 3, 1), (32, .iconst 5, 1), (33, .lshl, 1), (34, .iload 6, 2), (36, .i2l, 1), (37, .ldc2_w 171, 3), (40, .lsub, 1)] := dz_sg _ 28 (by decide +kernel)
theorem dX8_among_28 : decode cX8_among 28 = .ok (.if_icmp .eq 18, 3) := sdX8_among_28.1
theorem dX8_among_31 : decode cX8_among 31 = .ok (.lload_n 3, 1) := sdX8_among_28.2.1
theorem dX8_among_32 : decode cX8_among 32 = .ok (.iconst 5, 1) := sdX8_among_28.2.2.1
theorem dX8_among_33 : decode cX8_among 33 = .ok (.lshl, 1) := sdX8_among_28.2.2.2.1
theorem dX8_among_34 : decode cX8_among 34 = .ok (.iload 6, 2) := sdX8_among_28.2.2.2.2.1
theorem dX8_among_36 : decode cX8_among 36 = .ok (.i2l, 1) := sdX8_among_28.2.2.2.2.2.1
theorem dX8_among_37 : decode cX8_among 37 = .ok (.ldc2_w 171, 3) := sdX8_among_28.2.2.2.2.2.2.1
theorem dX8_among_40 : decode cX8_among 40 = .ok (.lsub, 1) := sdX8_among_28.2.2.2.2.2.2.2.1
theorem sdX8_among_41 : dz_Seg cX8_among [(41, .lor, 1), (42, .lstore_n 3, 1), (43, .goto 19, 3), (46, .lload_n 3, 1), (47, .aload_n 0, 1), (48, .getfield 167, 3), (51, .lcmp, 1), (52, .ifCond .ne 5, 3)] := dz_sg _ 41 (by decide +kernel)
theorem dX8_among_41 : decode cX8_among 41 = .ok (.lor, 1) := sdX8_among_41.1
theorem dX8_among_42 : decode cX8_among 42 = .ok (.lstore_n 3, 1) := sdX8_among_41.2.1
theorem dX8_among_43 : decode cX8_among 43 = .ok (.goto 19, 3) := sdX8_among_41.2.2.1
theorem dX8_among_46 : decode cX8_among 46 = .ok (.lload_n 3, 1) := sdX8_among_41.2.2.2.1
theorem dX8_among_47 : decode cX8_among 47 = .ok (.aload_n 0, 1) := sdX8_among_41.2.2.2.2.1
theorem dX8_among_48 : decode cX8_among 48 = .ok (.getfield 167, 3) := sdX8_among_41.2.2.2.2.2.1
theorem dX8_among_51 : decode cX8_among 51 = .ok (.lcmp, 1) := sdX8_among_41.2.2.2.2.2.2.1
theorem dX8_among_52 : decode cX8_among 52 = .ok (.ifCond .ne 5, 3) := sdX8_among_41.2.2.2.2.2.2.2.1
theorem sdX8_among_55 : dz_Seg cX8_among [(55, .iload_n 2, 1), (56, .ireturn, 1), (57, .lconst 0, 1), (58, .lstore_n 3, 1), (59, .iinc 2 1, 3), (62, .iinc 5 1, 3), (65, .goto (-58), 3), (68, .iconst (-1), 1)] := dz_sg _ 55 (by decide +kernel)
theorem dX8_among_55 : decode cX8_among 55 = .ok (.iload_n 2, 1) := sdX8_among_55.1
theorem dX8_among_56 : decode cX8_among 56 = .ok (.ireturn, 1) := sdX8_among_55.2.1
theorem dX8_among_57 : decode cX8_among 57 = .ok (.lconst 0, 1) := sdX8_among_55.2.2.1
theorem dX8_among_58 : decode cX8_among 58 = .ok (.lstore_n 3, 1) := sdX8_among_55.2.2.2.1
theorem dX8_among_59 : decode cX8_among 59 = .ok (.iinc 2 1, 3) := sdX8_among_55.2.2.2.2.1
theorem dX8_among_62 : decode cX8_among 62 = .ok (.iinc 5 1, 3) := sdX8_among_55.2.2.2.2.2.1
theorem dX8_among_65 : decode cX8_among 65 = .ok (.goto (-58), 3) := sdX8_among_55.2.2.2.2.2.2.1
theorem dX8_among_68 : decode cX8_among 68 = .ok (.iconst (-1), 1) := sdX8_among_55.2.2.2.2.2.2.2.1
theorem sdX8_among_69 : dz_Seg cX8_among [(69, .ireturn, 1)] := dz_sg _ 69 (by decide +kernel)
theorem dX8_among_69 : decode cX8_among 69 = .ok (.ireturn, 1) := sdX8_among_69.1
theorem sdX8_bad_0 : dz_Seg cX8_bad [(0, .aload_n 0, 1), (1, .aload_n 0, 1), (2, .getfield 160, 3), (5, .iconst 1, 1), (6, .if_icmp .ne 7, 3), (9, .iconst 1, 1), (10, .goto 4, 3), (13, .iload_n 1, 1)] := dz_sg _ 0 (by decide +kernel)
theorem dX8_bad_0 : decode cX8_bad 0 = .ok (.aload_n 0, 1) := sdX8_bad_0.1
theorem dX8_bad_1 : decode cX8_bad 1 = .ok (.aload_n 0, 1) := sdX8_bad_0.2.1
theorem dX8_bad_2 : decode cX8_bad 2 = .ok (.getfield 160, 3) := sdX8_bad_0.2.2.1
theorem dX8_bad_5 : decode cX8_bad 5 = .ok (.iconst 1, 1) := sdX8_bad_0.2.2.2.1
theorem dX8_bad_6 : decode cX8_bad 6 = .ok (.if_icmp .ne 7, 3) := sdX8_bad_0.2.2.2.2.1
theorem dX8_bad_9 : decode cX8_bad 9 = .ok (.iconst 1, 1) := sdX8_bad_0.2.2.2.2.2.1
theorem dX8_bad_10 : decode cX8_bad 10 = .ok (.goto 4, 3) := sdX8_bad_0.2.2.2.2.2.2.1
theorem dX8_bad_13 : decode cX8_bad 13 = .ok (.iload_n 1, 1) := sdX8_bad_0.2.2.2.2.2.2.2.1
theorem sdX8_bad_14 : dz_Seg cX8_bad [(14, .putfield 195, 3), (17, .aload_n 0, 1), (18, .aload_n 0, 1), (19, .getfield 154, 3), (22, .putfield 198, 3), (25, .iconst 0, 1), (26, .ireturn, 1)] := dz_sg _ 14 (by decide +kernel)
theorem dX8_bad_14 : decode cX8_bad 14 = .ok (.putfield 195, 3) := sdX8_bad_14.1
theorem dX8_bad_17 : decode cX8_bad 17 = .ok (.aload_n 0, 1) := sdX8_bad_14.2.1
theorem dX8_bad_18 : decode cX8_bad 18 = .ok (.aload_n 0, 1) := sdX8_bad_14.2.2.1
theorem dX8_bad_19 : decode cX8_bad 19 = .ok (.getfield 154, 3) := sdX8_bad_14.2.2.2.1
theorem dX8_bad_22 : decode cX8_bad 22 = .ok (.putfield 198, 3) := sdX8_bad_14.2.2.2.2.1
theorem dX8_bad_25 : decode cX8_bad 25 = .ok (.iconst 0, 1) := sdX8_bad_14.2.2.2.2.2.1
theorem dX8_bad_26 : decode cX8_bad 26 = .ok (.ireturn, 1) := sdX8_bad_14.2.2.2.2.2.2.1
theorem sdX8_isName_0 : dz_Seg cX8_isName [(0, .aload_n 0, 1), (1, .getfield 160, 3), (4, .iconst 2, 1), (5, .if_icmp .ne 15, 3), (8, .aload_n 0, 1), (9, .getfield 157, 3), (12, .iconst (-1), 1), (13, .if_icmp .ne 7, 3)] := dz_sg _ 0 (by decide +kernel)
theorem dX8_isName_0 : decode cX8_isName 0 = .ok (.aload_n 0, 1) := sdX8_isName_0.1
theorem dX8_isName_1 : decode cX8_isName 1 = .ok (.getfield 160, 3) := sdX8_isName_0.2.1
theorem dX8_isName_4 : decode cX8_isName 4 = .ok (.iconst 2, 1) := sdX8_isName_0.2.2.1
theorem dX8_isName_5 : decode cX8_isName 5 = .ok (.if_icmp .ne 15, 3) := sdX8_isName_0.2.2.2.1
theorem dX8_isName_8 : decode cX8_isName 8 = .ok (.aload_n 0, 1) := sdX8_isName_0.2.2.2.2.1
theorem dX8_isName_9 : decode cX8_isName 9 = .ok (.getfield 157, 3) := sdX8_isName_0.2.2.2.2.2.1
theorem dX8_isName_12 : decode cX8_isName 12 = .ok (.iconst (-1), 1) := sdX8_isName_0.2.2.2.2.2.2.1
theorem dX8_isName_13 : decode cX8_isName 13 = .ok (.if_icmp .ne 7, 3) := sdX8_isName_0.2.2.2.2.2.2.2.1
theorem sdX8_isName_16 : dz_Seg cX8_isName [(16, .iconst 1, 1), (17, .goto 4, 3), (20, .iconst 0, 1), (21, .ireturn, 1)] := dz_sg _ 16 (by decide +kernel)
theorem dX8_isName_16 : decode cX8_isName 16 = .ok (.iconst 1, 1) := sdX8_isName_16.1
theorem dX8_isName_17 : decode cX8_isName 17 = .ok (.goto 4, 3) := sdX8_isName_16.2.1
theorem dX8_isName_20 : decode cX8_isName 20 = .ok (.iconst 0, 1) := sdX8_isName_16.2.2.1
theorem dX8_isName_21 : decode cX8_isName 21 = .ok (.ireturn, 1) := sdX8_isName_16.2.2.2.1
theorem sdX8_found_0 : dz_Seg cX8_found [(0, .iconst 0, 1), (1, .istore 4, 2), (3, .iload 4, 2), (5, .iload_n 1, 1), (6, .if_icmp .ge 21, 3), (9, .aload_n 0, 1), (10, .iload 4, 2), (12, .laload, 1)] := dz_sg _ 0 (by decide +kernel)
theorem dX8_found_0 : decode cX8_found 0 = .ok (.iconst 0, 1) := sdX8_found_0.1
theorem dX8_found_1 : decode cX8_found 1 = .ok (.istore 4, 2) := sdX8_found_0.2.1
theorem dX8_found_3 : decode cX8_found 3 = .ok (.iload 4, 2) := sdX8_found_0.2.2.1
theorem dX8_found_5 : decode cX8_found 5 = .ok (.iload_n 1, 1) := sdX8_found_0.2.2.2.1
theorem dX8_found_6 : decode cX8_found 6 = .ok (.if_icmp .ge 21, 3) := sdX8_found_0.2.2.2.2.1
theorem dX8_found_9 : decode cX8_found 9 = .ok (.aload_n 0, 1) := sdX8_found_0.2.2.2.2.2.1
theorem dX8_found_10 : decode cX8_found 10 = .ok (.iload 4, 2) := sdX8_found_0.2.2.2.2.2.2.1
theorem dX8_found_12 : decode cX8_found 12 = .ok (.laload, 1) := sdX8_found_0.2.2.2.2.2.2.2.1
theorem sdX8_found_13 : dz_Seg cX8_found [(13, .lload_n 2, 1), (14, .lcmp, 1), (15, .ifCond .ne 6, 3), (18, .iload 4, 2), (20, .ireturn, 1), (21, .iinc 4 1, 3), (24, .goto (-21), 3), (27, .iconst (-1), 1)] := dz_sg _ 13 (by decide +kernel)
theorem dX8_found_13 : decode cX8_found 13 = .ok (.lload_n 2, 1) := sdX8_found_13.1
theorem dX8_found_14 : decode cX8_found 14 = .ok (.lcmp, 1) := sdX8_found_13.2.1
theorem dX8_found_15 : decode cX8_found 15 = .ok (.ifCond .ne 6, 3) := sdX8_found_13.2.2.1
theorem dX8_found_18 : decode cX8_found 18 = .ok (.iload 4, 2) := sdX8_found_13.2.2.2.1
theorem dX8_found_20 : decode cX8_found 20 = .ok (.ireturn, 1) := sdX8_found_13.2.2.2.2.1
theorem dX8_found_21 : decode cX8_found 21 = .ok (.iinc 4 1, 3) := sdX8_found_13.2.2.2.2.2.1
theorem dX8_found_24 : decode cX8_found 24 = .ok (.goto (-21), 3) := sdX8_found_13.2.2.2.2.2.2.1
theorem dX8_found_27 : decode cX8_found 27 = .ok (.iconst (-1), 1) := sdX8_found_13.2.2.2.2.2.2.2.1
theorem sdX8_found_28 : dz_Seg cX8_found [(28, .ireturn, 1)] := dz_sg _ 28 (by decide +kernel)
theorem dX8_found_28 : decode cX8_found 28 = .ok (.ireturn, 1) := sdX8_found_28.1
theorem sdX8_isTaken_0 : dz_Seg cX8_isTaken [(0, .aload_n 0, 1), (1, .getfield 39, 3), (4, .aload_n 0, 1), (5, .getfield 201, 3), (8, .aload_n 0, 1), (9, .getfield 167, 3), (12, .invokestatic 204, 3), (15, .iconst (-1), 1)] := dz_sg _ 0 (by decide +kernel)
theorem dX8_isTaken_0 : decode cX8_isTaken 0 = .ok (.aload_n 0, 1) := sdX8_isTaken_0.1
theorem dX8_isTaken_1 : decode cX8_isTaken 1 = .ok (.getfield 39, 3) := sdX8_isTaken_0.2.1
theorem dX8_isTaken_4 : decode cX8_isTaken 4 = .ok (.aload_n 0, 1) := sdX8_isTaken_0.2.2.1
theorem dX8_isTaken_5 : decode cX8_isTaken 5 = .ok (.getfield 201, 3) := sdX8_isTaken_0.2.2.2.1
theorem dX8_isTaken_8 : decode cX8_isTaken 8 = .ok (.aload_n 0, 1) := sdX8_isTaken_0.2.2.2.2.1
theorem dX8_isTaken_9 : decode cX8_isTaken 9 = .ok (.getfield 167, 3) := sdX8_isTaken_0.2.2.2.2.2.1
theorem dX8_isTaken_12 : decode cX8_isTaken 12 = .ok (.invokestatic 204, 3) := sdX8_isTaken_0.2.2.2.2.2.2.1
theorem dX8_isTaken_15 : decode cX8_isTaken 15 = .ok (.iconst (-1), 1) := sdX8_isTaken_0.2.2.2.2.2.2.2.1
theorem sdX8_isTaken_16 : dz_Seg cX8_isTaken [(16, .if_icmp .ne 41, 3), (19, .aload_n 0, 1), (20, .getfield 43, 3), (23, .aload_n 0, 1), (24, .getfield 208, 3), (27, .aload_n 0, 1), (28, .getfield 167, 3), (31, .invokestatic 204, 3)] := dz_sg _ 16 (by decide +kernel)
theorem dX8_isTaken_16 : decode cX8_isTaken 16 = .ok (.if_icmp .ne 41, 3) := sdX8_isTaken_16.1
theorem dX8_isTaken_19 : decode cX8_isTaken 19 = .ok (.aload_n 0, 1) := sdX8_isTaken_16.2.1
theorem dX8_isTaken_20 : decode cX8_isTaken 20 = .ok (.getfield 43, 3) := sdX8_isTaken_16.2.2.1
theorem dX8_isTaken_23 : decode cX8_isTaken 23 = .ok (.aload_n 0, 1) := sdX8_isTaken_16.2.2.2.1
theorem dX8_isTaken_24 : decode cX8_isTaken 24 = .ok (.getfield 208, 3) := sdX8_isTaken_16.2.2.2.2.1
theorem dX8_isTaken_27 : decode cX8_isTaken 27 = .ok (.aload_n 0, 1) := sdX8_isTaken_16.2.2.2.2.2.1
theorem dX8_isTaken_28 : decode cX8_isTaken 28 = .ok (.getfield 167, 3) := sdX8_isTaken_16.2.2.2.2.2.2.1
theorem dX8_isTaken_31 : decode cX8_isTaken 31 = .ok (.invokestatic 204, 3) := sdX8_isTaken_16.2.2.2.2.2.2.2.1
theorem sdX8_isTaken_34 : dz_Seg cX8_isTaken [(34, .iconst (-1), 1), (35, .if_icmp .ne 22, 3), (38, .aload_n 0, 1), (39, .getfield 46, 3), (42, .aload_n 0, 1), (43, .getfield 211, 3), (46, .aload_n 0, 1), (47, .getfield 167, 3)] := dz_sg _ 34 (by decide +kernel)
theorem dX8_isTaken_34 : decode cX8_isTaken 34 = .ok (.iconst (-1), 1) := sdX8_isTaken_34.1
theorem dX8_isTaken_35 : decode cX8_isTaken 35 = .ok (.if_icmp .ne 22, 3) := sdX8_isTaken_34.2.1
theorem dX8_isTaken_38 : decode cX8_isTaken 38 = .ok (.aload_n 0, 1) := sdX8_isTaken_34.2.2.1
theorem dX8_isTaken_39 : decode cX8_isTaken 39 = .ok (.getfield 46, 3) := sdX8_isTaken_34.2.2.2.1
theorem dX8_isTaken_42 : decode cX8_isTaken 42 = .ok (.aload_n 0, 1) := sdX8_isTaken_34.2.2.2.2.1
theorem dX8_isTaken_43 : decode cX8_isTaken 43 = .ok (.getfield 211, 3) := sdX8_isTaken_34.2.2.2.2.2.1
theorem dX8_isTaken_46 : decode cX8_isTaken 46 = .ok (.aload_n 0, 1) := sdX8_isTaken_34.2.2.2.2.2.2.1
theorem dX8_isTaken_47 : decode cX8_isTaken 47 = .ok (.getfield 167, 3) := sdX8_isTaken_34.2.2.2.2.2.2.2.1
theorem sdX8_isTaken_50 : dz_Seg cX8_isTaken [(50, .invokestatic 204, 3), (53, .iconst (-1), 1), (54, .if_icmp .eq 7, 3), (57, .iconst 1, 1), (58, .goto 4, 3), (61, .iconst 0, 1), (62, .ireturn, 1)] := dz_sg _ 50 (by decide +kernel)
theorem dX8_isTaken_50 : decode cX8_isTaken 50 = .ok (.invokestatic 204, 3) := sdX8_isTaken_50.1
theorem dX8_isTaken_53 : decode cX8_isTaken 53 = .ok (.iconst (-1), 1) := sdX8_isTaken_50.2.1
theorem dX8_isTaken_54 : decode cX8_isTaken 54 = .ok (.if_icmp .eq 7, 3) := sdX8_isTaken_50.2.2.1
theorem dX8_isTaken_57 : decode cX8_isTaken 57 = .ok (.iconst 1, 1) := sdX8_isTaken_50.2.2.2.1
theorem dX8_isTaken_58 : decode cX8_isTaken 58 = .ok (.goto 4, 3) := sdX8_isTaken_50.2.2.2.2.1
theorem dX8_isTaken_61 : decode cX8_isTaken 61 = .ok (.iconst 0, 1) := sdX8_isTaken_50.2.2.2.2.2.1
theorem dX8_isTaken_62 : decode cX8_isTaken 62 = .ok (.ireturn, 1) := sdX8_isTaken_50.2.2.2.2.2.2.1
theorem sdX8_number_0 : dz_Seg cX8_number [(0, .aload_n 0, 1), (1, .getfield 160, 3), (4, .iconst 3, 1), (5, .if_icmp .eq 9, 3), (8, .aload_n 0, 1), (9, .iconst 2, 1), (10, .invokevirtual 214, 3), (13, .ireturn, 1)] := dz_sg _ 0 (by decide +kernel)
theorem dX8_number_0 : decode cX8_number 0 = .ok (.aload_n 0, 1) := sdX8_number_0.1
theorem dX8_number_1 : decode cX8_number 1 = .ok (.getfield 160, 3) := sdX8_number_0.2.1
theorem dX8_number_4 : decode cX8_number 4 = .ok (.iconst 3, 1) := sdX8_number_0.2.2.1
theorem dX8_number_5 : decode cX8_number 5 = .ok (.if_icmp .eq 9, 3) := sdX8_number_0.2.2.2.1
theorem dX8_number_8 : decode cX8_number 8 = .ok (.aload_n 0, 1) := sdX8_number_0.2.2.2.2.1
theorem dX8_number_9 : decode cX8_number 9 = .ok (.iconst 2, 1) := sdX8_number_0.2.2.2.2.2.1
theorem dX8_number_10 : decode cX8_number 10 = .ok (.invokevirtual 214, 3) := sdX8_number_0.2.2.2.2.2.2.1
theorem dX8_number_13 : decode cX8_number 13 = .ok (.ireturn, 1) := sdX8_number_0.2.2.2.2.2.2.2.1
theorem sdX8_number_14 : dz_Seg cX8_number [(14, .aload_n 0, 1), (15, .getfield 182, 3), (18, .i2l, 1), (19, .iload_n 1, 1), (20, .i2l, 1), (21, .iload_n 2, 1), (22, .i2l, 1), (23, .invokestatic 128, 3)] := dz_sg _ 14 (by decide +kernel)
theorem dX8_number_14 : decode cX8_number 14 = .ok (.aload_n 0, 1) := sdX8_number_14.1
theorem dX8_number_15 : decode cX8_number 15 = .ok (.getfield 182, 3) := sdX8_number_14.2.1
theorem dX8_number_18 : decode cX8_number 18 = .ok (.i2l, 1) := sdX8_number_14.2.2.1
theorem dX8_number_19 : decode cX8_number 19 = .ok (.iload_n 1, 1) := sdX8_number_14.2.2.2.1
theorem dX8_number_20 : decode cX8_number 20 = .ok (.i2l, 1) := sdX8_number_14.2.2.2.2.1
theorem dX8_number_21 : decode cX8_number 21 = .ok (.iload_n 2, 1) := sdX8_number_14.2.2.2.2.2.1
theorem dX8_number_22 : decode cX8_number 22 = .ok (.i2l, 1) := sdX8_number_14.2.2.2.2.2.2.1
theorem dX8_number_23 : decode cX8_number 23 = .ok (.invokestatic 128, 3) := sdX8_number_14.2.2.2.2.2.2.2.1
theorem sdX8_number_26 : dz_Seg cX8_number [(26, .ifCond .ne 9, 3), (29, .aload_n 0, 1), (30, .iconst 3, 1), (31, .invokevirtual 214, 3), (34, .ireturn, 1), (35, .aload_n 0, 1), (36, .aload_n 0, 1), (37, .getfield 182, 3)] := dz_sg _ 26 (by decide +kernel)
theorem dX8_number_26 : decode cX8_number 26 = .ok (.ifCond .ne 9, 3) := sdX8_number_26.1
theorem dX8_number_29 : decode cX8_number 29 = .ok (.aload_n 0, 1) := sdX8_number_26.2.1
theorem dX8_number_30 : decode cX8_number 30 = .ok (.iconst 3, 1) := sdX8_number_26.2.2.1
theorem dX8_number_31 : decode cX8_number 31 = .ok (.invokevirtual 214, 3) := sdX8_number_26.2.2.2.1
theorem dX8_number_34 : decode cX8_number 34 = .ok (.ireturn, 1) := sdX8_number_26.2.2.2.2.1
theorem dX8_number_35 : decode cX8_number 35 = .ok (.aload_n 0, 1) := sdX8_number_26.2.2.2.2.2.1
theorem dX8_number_36 : decode cX8_number 36 = .ok (.aload_n 0, 1) := sdX8_number_26.2.2.2.2.2.2.1
theorem dX8_number_37 : decode cX8_number 37 = .ok (.getfield 182, 3) := sdX8_number_26.2.2.2.2.2.2.2.1
theorem sdX8_number_40 : dz_Seg cX8_number [(40, .putfield 217, 3), (43, .aload_n 0, 1), (44, .invokevirtual 220, 3), (47, .ireturn, 1)] := dz_sg _ 40 (by decide +kernel)
theorem dX8_number_40 : decode cX8_number 40 = .ok (.putfield 217, 3) := sdX8_number_40.1
theorem dX8_number_43 : decode cX8_number 43 = .ok (.aload_n 0, 1) := sdX8_number_40.2.1
theorem dX8_number_44 : decode cX8_number 44 = .ok (.invokevirtual 220, 3) := sdX8_number_40.2.2.1
theorem dX8_number_47 : decode cX8_number 47 = .ok (.ireturn, 1) := sdX8_number_40.2.2.2.1
theorem sdX8_newName_0 : dz_Seg cX8_newName [(0, .aload_n 0, 1), (1, .invokevirtual 224, 3), (4, .ifCond .ne 9, 3), (7, .aload_n 0, 1), (8, .iconst 2, 1), (9, .invokevirtual 214, 3), (12, .ireturn, 1), (13, .aload_n 0, 1)] := dz_sg _ 0 (by decide +kernel)
theorem dX8_newName_0 : decode cX8_newName 0 = .ok (.aload_n 0, 1) := sdX8_newName_0.1
theorem dX8_newName_1 : decode cX8_newName 1 = .ok (.invokevirtual 224, 3) := sdX8_newName_0.2.1
theorem dX8_newName_4 : decode cX8_newName 4 = .ok (.ifCond .ne 9, 3) := sdX8_newName_0.2.2.1
theorem dX8_newName_7 : decode cX8_newName 7 = .ok (.aload_n 0, 1) := sdX8_newName_0.2.2.2.1
theorem dX8_newName_8 : decode cX8_newName 8 = .ok (.iconst 2, 1) := sdX8_newName_0.2.2.2.2.1
theorem dX8_newName_9 : decode cX8_newName 9 = .ok (.invokevirtual 214, 3) := sdX8_newName_0.2.2.2.2.2.1
theorem dX8_newName_12 : decode cX8_newName 12 = .ok (.ireturn, 1) := sdX8_newName_0.2.2.2.2.2.2.1
theorem dX8_newName_13 : decode cX8_newName 13 = .ok (.aload_n 0, 1) := sdX8_newName_0.2.2.2.2.2.2.2.1
theorem sdX8_newName_14 : dz_Seg cX8_newName [(14, .invokevirtual 227, 3), (17, .ifCond .eq 9, 3), (20, .aload_n 0, 1), (21, .iconst 4, 1), (22, .invokevirtual 214, 3), (25, .ireturn, 1), (26, .aload_n 0, 1), (27, .aload_n 0, 1)] := dz_sg _ 14 (by decide +kernel)
theorem dX8_newName_14 : decode cX8_newName 14 = .ok (.invokevirtual 227, 3) := sdX8_newName_14.1
theorem dX8_newName_17 : decode cX8_newName 17 = .ok (.ifCond .eq 9, 3) := sdX8_newName_14.2.1
theorem dX8_newName_20 : decode cX8_newName 20 = .ok (.aload_n 0, 1) := sdX8_newName_14.2.2.1
theorem dX8_newName_21 : decode cX8_newName 21 = .ok (.iconst 4, 1) := sdX8_newName_14.2.2.2.1
theorem dX8_newName_22 : decode cX8_newName 22 = .ok (.invokevirtual 214, 3) := sdX8_newName_14.2.2.2.2.1
theorem dX8_newName_25 : decode cX8_newName 25 = .ok (.ireturn, 1) := sdX8_newName_14.2.2.2.2.2.1
theorem dX8_newName_26 : decode cX8_newName 26 = .ok (.aload_n 0, 1) := sdX8_newName_14.2.2.2.2.2.2.1
theorem dX8_newName_27 : decode cX8_newName 27 = .ok (.aload_n 0, 1) := sdX8_newName_14.2.2.2.2.2.2.2.1
theorem sdX8_newName_28 : dz_Seg cX8_newName [(28, .getfield 167, 3), (31, .putfield 230, 3), (34, .aload_n 0, 1), (35, .invokevirtual 220, 3), (38, .ireturn, 1)] := dz_sg _ 28 (by decide +kernel)
theorem dX8_newName_28 : decode cX8_newName 28 = .ok (.getfield 167, 3) := sdX8_newName_28.1
theorem dX8_newName_31 : decode cX8_newName 31 = .ok (.putfield 230, 3) := sdX8_newName_28.2.1
theorem dX8_newName_34 : decode cX8_newName 34 = .ok (.aload_n 0, 1) := sdX8_newName_28.2.2.1
theorem dX8_newName_35 : decode cX8_newName 35 = .ok (.invokevirtual 220, 3) := sdX8_newName_28.2.2.2.1
theorem dX8_newName_38 : decode cX8_newName 38 = .ok (.ireturn, 1) := sdX8_newName_28.2.2.2.2.1
theorem sdX8_readUnit_0 : dz_Seg cX8_readUnit [(0, .aload_n 0, 1), (1, .getfield 201, 3), (4, .iconst 5, 1), (5, .if_icmp .ne 9, 3), (8, .aload_n 0, 1), (9, .iconst 2, 1), (10, .invokevirtual 214, 3), (13, .ireturn, 1)] := dz_sg _ 0 (by decide +kernel)
theorem dX8_readUnit_0 : decode cX8_readUnit 0 = .ok (.aload_n 0, 1) := sdX8_readUnit_0.1
theorem dX8_readUnit_1 : decode cX8_readUnit 1 = .ok (.getfield 201, 3) := sdX8_readUnit_0.2.1
theorem dX8_readUnit_4 : decode cX8_readUnit 4 = .ok (.iconst 5, 1) := sdX8_readUnit_0.2.2.1
theorem dX8_readUnit_5 : decode cX8_readUnit 5 = .ok (.if_icmp .ne 9, 3) := sdX8_readUnit_0.2.2.2.1
theorem dX8_readUnit_8 : decode cX8_readUnit 8 = .ok (.aload_n 0, 1) := sdX8_readUnit_0.2.2.2.2.1
theorem dX8_readUnit_9 : decode cX8_readUnit 9 = .ok (.iconst 2, 1) := sdX8_readUnit_0.2.2.2.2.2.1
theorem dX8_readUnit_10 : decode cX8_readUnit 10 = .ok (.invokevirtual 214, 3) := sdX8_readUnit_0.2.2.2.2.2.2.1
theorem dX8_readUnit_13 : decode cX8_readUnit 13 = .ok (.ireturn, 1) := sdX8_readUnit_0.2.2.2.2.2.2.2.1
theorem sdX8_readUnit_14 : dz_Seg cX8_readUnit [(14, .aload_n 0, 1), (15, .invokevirtual 220, 3), (18, .ifCond .eq 20, 3), (21, .aload_n 0, 1), (22, .invokevirtual 233, 3), (25, .ifCond .eq 13, 3), (28, .aload_n 0, 1), (29, .iconst 0, 1)] := dz_sg _ 14 (by decide +kernel)
theorem dX8_readUnit_14 : decode cX8_readUnit 14 = .ok (.aload_n 0, 1) := sdX8_readUnit_14.1
theorem dX8_readUnit_15 : decode cX8_readUnit 15 = .ok (.invokevirtual 220, 3) := sdX8_readUnit_14.2.1
theorem dX8_readUnit_18 : decode cX8_readUnit 18 = .ok (.ifCond .eq 20, 3) := sdX8_readUnit_14.2.2.1
theorem dX8_readUnit_21 : decode cX8_readUnit 21 = .ok (.aload_n 0, 1) := sdX8_readUnit_14.2.2.2.1
theorem dX8_readUnit_22 : decode cX8_readUnit 22 = .ok (.invokevirtual 233, 3) := sdX8_readUnit_14.2.2.2.2.1
theorem dX8_readUnit_25 : decode cX8_readUnit 25 = .ok (.ifCond .eq 13, 3) := sdX8_readUnit_14.2.2.2.2.2.1
theorem dX8_readUnit_28 : decode cX8_readUnit 28 = .ok (.aload_n 0, 1) := sdX8_readUnit_14.2.2.2.2.2.2.1
theorem dX8_readUnit_29 : decode cX8_readUnit 29 = .ok (.iconst 0, 1) := sdX8_readUnit_14.2.2.2.2.2.2.2.1
theorem sdX8_readUnit_30 : dz_Seg cX8_readUnit [(30, .bipush 20, 2), (32, .invokevirtual 236, 3), (35, .ifCond .ne 5, 3), (38, .iconst 0, 1), (39, .ireturn, 1), (40, .aload_n 0, 1), (41, .getfield 39, 3), (44, .aload_n 0, 1)] := dz_sg _ 30 (by decide +kernel)
theorem dX8_readUnit_30 : decode cX8_readUnit 30 = .ok (.bipush 20, 2) := sdX8_readUnit_30.1
theorem dX8_readUnit_32 : decode cX8_readUnit 32 = .ok (.invokevirtual 236, 3) := sdX8_readUnit_30.2.1
theorem dX8_readUnit_35 : decode cX8_readUnit 35 = .ok (.ifCond .ne 5, 3) := sdX8_readUnit_30.2.2.1
theorem dX8_readUnit_38 : decode cX8_readUnit 38 = .ok (.iconst 0, 1) := sdX8_readUnit_30.2.2.2.1
theorem dX8_readUnit_39 : decode cX8_readUnit 39 = .ok (.ireturn, 1) := sdX8_readUnit_30.2.2.2.2.1
theorem dX8_readUnit_40 : decode cX8_readUnit 40 = .ok (.aload_n 0, 1) := sdX8_readUnit_30.2.2.2.2.2.1
theorem dX8_readUnit_41 : decode cX8_readUnit 41 = .ok (.getfield 39, 3) := sdX8_readUnit_30.2.2.2.2.2.2.1
theorem dX8_readUnit_44 : decode cX8_readUnit 44 = .ok (.aload_n 0, 1) := sdX8_readUnit_30.2.2.2.2.2.2.2.1
theorem sdX8_readUnit_45 : dz_Seg cX8_readUnit [(45, .getfield 201, 3), (48, .aload_n 0, 1), (49, .getfield 230, 3), (52, .lastore, 1), (53, .aload_n 0, 1), (54, .getfield 13, 3), (57, .bipush 62, 2), (59, .aload_n 0, 1)] := dz_sg _ 45 (by decide +kernel)
theorem dX8_readUnit_45 : decode cX8_readUnit 45 = .ok (.getfield 201, 3) := sdX8_readUnit_45.1
theorem dX8_readUnit_48 : decode cX8_readUnit 48 = .ok (.aload_n 0, 1) := sdX8_readUnit_45.2.1
theorem dX8_readUnit_49 : decode cX8_readUnit 49 = .ok (.getfield 230, 3) := sdX8_readUnit_45.2.2.1
theorem dX8_readUnit_52 : decode cX8_readUnit 52 = .ok (.lastore, 1) := sdX8_readUnit_45.2.2.2.1
theorem dX8_readUnit_53 : decode cX8_readUnit 53 = .ok (.aload_n 0, 1) := sdX8_readUnit_45.2.2.2.2.1
theorem dX8_readUnit_54 : decode cX8_readUnit 54 = .ok (.getfield 13, 3) := sdX8_readUnit_45.2.2.2.2.2.1
theorem dX8_readUnit_57 : decode cX8_readUnit 57 = .ok (.bipush 62, 2) := sdX8_readUnit_45.2.2.2.2.2.2.1
theorem dX8_readUnit_59 : decode cX8_readUnit 59 = .ok (.aload_n 0, 1) := sdX8_readUnit_45.2.2.2.2.2.2.2.1
theorem sdX8_readUnit_60 : dz_Seg cX8_readUnit [(60, .getfield 201, 3), (63, .iadd, 1), (64, .aload_n 0, 1), (65, .getfield 217, 3), (68, .iastore, 1), (69, .aload_n 0, 1), (70, .dup, 1), (71, .getfield 201, 3)] := dz_sg _ 60 (by decide +kernel)
theorem dX8_readUnit_60 : decode cX8_readUnit 60 = .ok (.getfield 201, 3) := sdX8_readUnit_60.1
theorem dX8_readUnit_63 : decode cX8_readUnit 63 = .ok (.iadd, 1) := sdX8_readUnit_60.2.1
theorem dX8_readUnit_64 : decode cX8_readUnit 64 = .ok (.aload_n 0, 1) := sdX8_readUnit_60.2.2.1
theorem dX8_readUnit_65 : decode cX8_readUnit 65 = .ok (.getfield 217, 3) := sdX8_readUnit_60.2.2.2.1
theorem dX8_readUnit_68 : decode cX8_readUnit 68 = .ok (.iastore, 1) := sdX8_readUnit_60.2.2.2.2.1
theorem dX8_readUnit_69 : decode cX8_readUnit 69 = .ok (.aload_n 0, 1) := sdX8_readUnit_60.2.2.2.2.2.1
theorem dX8_readUnit_70 : decode cX8_readUnit 70 = .ok (.dup, 1) := sdX8_readUnit_60.2.2.2.2.2.2.1
theorem dX8_readUnit_71 : decode cX8_readUnit 71 = .ok (.getfield 201, 3) := sdX8_readUnit_60.2.2.2.2.2.2.2.1
theorem sdX8_readUnit_74 : dz_Seg cX8_readUnit [(74, .iconst 1, 1), (75, .iadd, 1), (76, .putfield 201, 3), (79, .iconst 1, 1), (80, .ireturn, 1)] := dz_sg _ 74 (by decide +kernel)
theorem dX8_readUnit_74 : decode cX8_readUnit 74 = .ok (.iconst 1, 1) := sdX8_readUnit_74.1
theorem dX8_readUnit_75 : decode cX8_readUnit 75 = .ok (.iadd, 1) := sdX8_readUnit_74.2.1
theorem dX8_readUnit_76 : decode cX8_readUnit 76 = .ok (.putfield 201, 3) := sdX8_readUnit_74.2.2.1
theorem dX8_readUnit_79 : decode cX8_readUnit 79 = .ok (.iconst 1, 1) := sdX8_readUnit_74.2.2.2.1
theorem dX8_readUnit_80 : decode cX8_readUnit 80 = .ok (.ireturn, 1) := sdX8_readUnit_74.2.2.2.2.1
theorem sdX8_readHunter_0 : dz_Seg cX8_readHunter [(0, .aload_n 0, 1), (1, .getfield 208, 3), (4, .bipush 10, 2), (6, .if_icmp .ne 9, 3), (9, .aload_n 0, 1), (10, .iconst 2, 1), (11, .invokevirtual 214, 3), (14, .ireturn, 1)] := dz_sg _ 0 (by decide +kernel)
theorem dX8_readHunter_0 : decode cX8_readHunter 0 = .ok (.aload_n 0, 1) := sdX8_readHunter_0.1
theorem dX8_readHunter_1 : decode cX8_readHunter 1 = .ok (.getfield 208, 3) := sdX8_readHunter_0.2.1
theorem dX8_readHunter_4 : decode cX8_readHunter 4 = .ok (.bipush 10, 2) := sdX8_readHunter_0.2.2.1
theorem dX8_readHunter_6 : decode cX8_readHunter 6 = .ok (.if_icmp .ne 9, 3) := sdX8_readHunter_0.2.2.2.1
theorem dX8_readHunter_9 : decode cX8_readHunter 9 = .ok (.aload_n 0, 1) := sdX8_readHunter_0.2.2.2.2.1
theorem dX8_readHunter_10 : decode cX8_readHunter 10 = .ok (.iconst 2, 1) := sdX8_readHunter_0.2.2.2.2.2.1
theorem dX8_readHunter_11 : decode cX8_readHunter 11 = .ok (.invokevirtual 214, 3) := sdX8_readHunter_0.2.2.2.2.2.2.1
theorem dX8_readHunter_14 : decode cX8_readHunter 14 = .ok (.ireturn, 1) := sdX8_readHunter_0.2.2.2.2.2.2.2.1
theorem sdX8_readHunter_15 : dz_Seg cX8_readHunter [(15, .aload_n 0, 1), (16, .invokevirtual 220, 3), (19, .ifCond .eq 20, 3), (22, .aload_n 0, 1), (23, .invokevirtual 233, 3), (26, .ifCond .eq 13, 3), (29, .aload_n 0, 1), (30, .iconst 0, 1)] := dz_sg _ 15 (by decide +kernel)
theorem dX8_readHunter_15 : decode cX8_readHunter 15 = .ok (.aload_n 0, 1) := sdX8_readHunter_15.1
theorem dX8_readHunter_16 : decode cX8_readHunter 16 = .ok (.invokevirtual 220, 3) := sdX8_readHunter_15.2.1
theorem dX8_readHunter_19 : decode cX8_readHunter 19 = .ok (.ifCond .eq 20, 3) := sdX8_readHunter_15.2.2.1
theorem dX8_readHunter_22 : decode cX8_readHunter 22 = .ok (.aload_n 0, 1) := sdX8_readHunter_15.2.2.2.1
theorem dX8_readHunter_23 : decode cX8_readHunter 23 = .ok (.invokevirtual 233, 3) := sdX8_readHunter_15.2.2.2.2.1
theorem dX8_readHunter_26 : decode cX8_readHunter 26 = .ok (.ifCond .eq 13, 3) := sdX8_readHunter_15.2.2.2.2.2.1
theorem dX8_readHunter_29 : decode cX8_readHunter 29 = .ok (.aload_n 0, 1) := sdX8_readHunter_15.2.2.2.2.2.2.1
theorem dX8_readHunter_30 : decode cX8_readHunter 30 = .ok (.iconst 0, 1) := sdX8_readHunter_15.2.2.2.2.2.2.2.1
theorem sdX8_readHunter_31 : dz_Seg cX8_readHunter [(31, .bipush 20, 2), (33, .invokevirtual 236, 3), (36, .ifCond .ne 5, 3), (39, .iconst 0, 1), (40, .ireturn, 1), (41, .aload_n 0, 1), (42, .getfield 43, 3), (45, .aload_n 0, 1)] := dz_sg _ 31 (by decide +kernel)
theorem dX8_readHunter_31 : decode cX8_readHunter 31 = .ok (.bipush 20, 2) := sdX8_readHunter_31.1
theorem dX8_readHunter_33 : decode cX8_readHunter 33 = .ok (.invokevirtual 236, 3) := sdX8_readHunter_31.2.1
theorem dX8_readHunter_36 : decode cX8_readHunter 36 = .ok (.ifCond .ne 5, 3) := sdX8_readHunter_31.2.2.1
theorem dX8_readHunter_39 : decode cX8_readHunter 39 = .ok (.iconst 0, 1) := sdX8_readHunter_31.2.2.2.1
theorem dX8_readHunter_40 : decode cX8_readHunter 40 = .ok (.ireturn, 1) := sdX8_readHunter_31.2.2.2.2.1
theorem dX8_readHunter_41 : decode cX8_readHunter 41 = .ok (.aload_n 0, 1) := sdX8_readHunter_31.2.2.2.2.2.1
theorem dX8_readHunter_42 : decode cX8_readHunter 42 = .ok (.getfield 43, 3) := sdX8_readHunter_31.2.2.2.2.2.2.1
theorem dX8_readHunter_45 : decode cX8_readHunter 45 = .ok (.aload_n 0, 1) := sdX8_readHunter_31.2.2.2.2.2.2.2.1
theorem sdX8_readHunter_46 : dz_Seg cX8_readHunter [(46, .getfield 208, 3), (49, .aload_n 0, 1), (50, .getfield 230, 3), (53, .lastore, 1), (54, .aload_n 0, 1), (55, .getfield 13, 3), (58, .iconst 0, 1), (59, .aload_n 0, 1)] := dz_sg _ 46 (by decide +kernel)
theorem dX8_readHunter_46 : decode cX8_readHunter 46 = .ok (.getfield 208, 3) := sdX8_readHunter_46.1
theorem dX8_readHunter_49 : decode cX8_readHunter 49 = .ok (.aload_n 0, 1) := sdX8_readHunter_46.2.1
theorem dX8_readHunter_50 : decode cX8_readHunter 50 = .ok (.getfield 230, 3) := sdX8_readHunter_46.2.2.1
theorem dX8_readHunter_53 : decode cX8_readHunter 53 = .ok (.lastore, 1) := sdX8_readHunter_46.2.2.2.1
theorem dX8_readHunter_54 : decode cX8_readHunter 54 = .ok (.aload_n 0, 1) := sdX8_readHunter_46.2.2.2.2.1
theorem dX8_readHunter_55 : decode cX8_readHunter 55 = .ok (.getfield 13, 3) := sdX8_readHunter_46.2.2.2.2.2.1
theorem dX8_readHunter_58 : decode cX8_readHunter 58 = .ok (.iconst 0, 1) := sdX8_readHunter_46.2.2.2.2.2.2.1
theorem dX8_readHunter_59 : decode cX8_readHunter 59 = .ok (.aload_n 0, 1) := sdX8_readHunter_46.2.2.2.2.2.2.2.1
theorem sdX8_readHunter_60 : dz_Seg cX8_readHunter [(60, .getfield 208, 3), (63, .iadd, 1), (64, .aload_n 0, 1), (65, .getfield 217, 3), (68, .iastore, 1), (69, .aload_n 0, 1), (70, .getfield 26, 3), (73, .aload_n 0, 1)] := dz_sg _ 60 (by decide +kernel)
theorem dX8_readHunter_60 : decode cX8_readHunter 60 = .ok (.getfield 208, 3) := sdX8_readHunter_60.1
theorem dX8_readHunter_63 : decode cX8_readHunter 63 = .ok (.iadd, 1) := sdX8_readHunter_60.2.1
theorem dX8_readHunter_64 : decode cX8_readHunter 64 = .ok (.aload_n 0, 1) := sdX8_readHunter_60.2.2.1
theorem dX8_readHunter_65 : decode cX8_readHunter 65 = .ok (.getfield 217, 3) := sdX8_readHunter_60.2.2.2.1
theorem dX8_readHunter_68 : decode cX8_readHunter 68 = .ok (.iastore, 1) := sdX8_readHunter_60.2.2.2.2.1
theorem dX8_readHunter_69 : decode cX8_readHunter 69 = .ok (.aload_n 0, 1) := sdX8_readHunter_60.2.2.2.2.2.1
theorem dX8_readHunter_70 : decode cX8_readHunter 70 = .ok (.getfield 26, 3) := sdX8_readHunter_60.2.2.2.2.2.2.1
theorem dX8_readHunter_73 : decode cX8_readHunter 73 = .ok (.aload_n 0, 1) := sdX8_readHunter_60.2.2.2.2.2.2.2.1
theorem sdX8_readHunter_74 : dz_Seg cX8_readHunter [(74, .getfield 208, 3), (77, .aload_n 0, 1), (78, .getfield 160, 3), (81, .iconst 2, 1), (82, .if_icmp .ne 15, 3), (85, .aload_n 0, 1), (86, .getfield 157, 3), (89, .iconst 2, 1)] := dz_sg _ 74 (by decide +kernel)
theorem dX8_readHunter_74 : decode cX8_readHunter 74 = .ok (.getfield 208, 3) := sdX8_readHunter_74.1
theorem dX8_readHunter_77 : decode cX8_readHunter 77 = .ok (.aload_n 0, 1) := sdX8_readHunter_74.2.1
theorem dX8_readHunter_78 : decode cX8_readHunter 78 = .ok (.getfield 160, 3) := sdX8_readHunter_74.2.2.1
theorem dX8_readHunter_81 : decode cX8_readHunter 81 = .ok (.iconst 2, 1) := sdX8_readHunter_74.2.2.2.1
theorem dX8_readHunter_82 : decode cX8_readHunter 82 = .ok (.if_icmp .ne 15, 3) := sdX8_readHunter_74.2.2.2.2.1
theorem dX8_readHunter_85 : decode cX8_readHunter 85 = .ok (.aload_n 0, 1) := sdX8_readHunter_74.2.2.2.2.2.1
theorem dX8_readHunter_86 : decode cX8_readHunter 86 = .ok (.getfield 157, 3) := sdX8_readHunter_74.2.2.2.2.2.2.1
theorem dX8_readHunter_89 : decode cX8_readHunter 89 = .ok (.iconst 2, 1) := sdX8_readHunter_74.2.2.2.2.2.2.2.1
theorem sdX8_readHunter_90 : dz_Seg cX8_readHunter [(90, .if_icmp .ne 7, 3), (93, .iconst 1, 1), (94, .goto 4, 3), (97, .iconst 0, 1), (98, .bastore, 1), (99, .aload_n 0, 1), (100, .getfield 26, 3), (103, .aload_n 0, 1)] := dz_sg _ 90 (by decide +kernel)
theorem dX8_readHunter_90 : decode cX8_readHunter 90 = .ok (.if_icmp .ne 7, 3) := sdX8_readHunter_90.1
theorem dX8_readHunter_93 : decode cX8_readHunter 93 = .ok (.iconst 1, 1) := sdX8_readHunter_90.2.1
theorem dX8_readHunter_94 : decode cX8_readHunter 94 = .ok (.goto 4, 3) := sdX8_readHunter_90.2.2.1
theorem dX8_readHunter_97 : decode cX8_readHunter 97 = .ok (.iconst 0, 1) := sdX8_readHunter_90.2.2.2.1
theorem dX8_readHunter_98 : decode cX8_readHunter 98 = .ok (.bastore, 1) := sdX8_readHunter_90.2.2.2.2.1
theorem dX8_readHunter_99 : decode cX8_readHunter 99 = .ok (.aload_n 0, 1) := sdX8_readHunter_90.2.2.2.2.2.1
theorem dX8_readHunter_100 : decode cX8_readHunter 100 = .ok (.getfield 26, 3) := sdX8_readHunter_90.2.2.2.2.2.2.1
theorem dX8_readHunter_103 : decode cX8_readHunter 103 = .ok (.aload_n 0, 1) := sdX8_readHunter_90.2.2.2.2.2.2.2.1
theorem sdX8_readHunter_104 : dz_Seg cX8_readHunter [(104, .getfield 208, 3), (107, .baload, 1), (108, .ifCond .eq 8, 3), (111, .aload_n 0, 1), (112, .invokevirtual 220, 3), (115, .pop, 1), (116, .aload_n 0, 1), (117, .dup, 1)] := dz_sg _ 104 (by decide +kernel)
theorem dX8_readHunter_104 : decode cX8_readHunter 104 = .ok (.getfield 208, 3) := sdX8_readHunter_104.1
theorem dX8_readHunter_107 : decode cX8_readHunter 107 = .ok (.baload, 1) := sdX8_readHunter_104.2.1
theorem dX8_readHunter_108 : decode cX8_readHunter 108 = .ok (.ifCond .eq 8, 3) := sdX8_readHunter_104.2.2.1
theorem dX8_readHunter_111 : decode cX8_readHunter 111 = .ok (.aload_n 0, 1) := sdX8_readHunter_104.2.2.2.1
theorem dX8_readHunter_112 : decode cX8_readHunter 112 = .ok (.invokevirtual 220, 3) := sdX8_readHunter_104.2.2.2.2.1
theorem dX8_readHunter_115 : decode cX8_readHunter 115 = .ok (.pop, 1) := sdX8_readHunter_104.2.2.2.2.2.1
theorem dX8_readHunter_116 : decode cX8_readHunter 116 = .ok (.aload_n 0, 1) := sdX8_readHunter_104.2.2.2.2.2.2.1
theorem dX8_readHunter_117 : decode cX8_readHunter 117 = .ok (.dup, 1) := sdX8_readHunter_104.2.2.2.2.2.2.2.1
theorem sdX8_readHunter_118 : dz_Seg cX8_readHunter [(118, .getfield 208, 3), (121, .iconst 1, 1), (122, .iadd, 1), (123, .putfield 208, 3), (126, .iconst 1, 1), (127, .ireturn, 1)] := dz_sg _ 118 (by decide +kernel)
theorem dX8_readHunter_118 : decode cX8_readHunter 118 = .ok (.getfield 208, 3) := sdX8_readHunter_118.1
theorem dX8_readHunter_121 : decode cX8_readHunter 121 = .ok (.iconst 1, 1) := sdX8_readHunter_118.2.1
theorem dX8_readHunter_122 : decode cX8_readHunter 122 = .ok (.iadd, 1) := sdX8_readHunter_118.2.2.1
theorem dX8_readHunter_123 : decode cX8_readHunter 123 = .ok (.putfield 208, 3) := sdX8_readHunter_118.2.2.2.1
theorem dX8_readHunter_126 : decode cX8_readHunter 126 = .ok (.iconst 1, 1) := sdX8_readHunter_118.2.2.2.2.1
theorem dX8_readHunter_127 : decode cX8_readHunter 127 = .ok (.ireturn, 1) := sdX8_readHunter_118.2.2.2.2.2.1
theorem sdX8_readParty_0 : dz_Seg cX8_readParty [(0, .aload_n 0, 1), (1, .getfield 211, 3), (4, .iconst 4, 1), (5, .if_icmp .ne 9, 3), (8, .aload_n 0, 1), (9, .iconst 2, 1), (10, .invokevirtual 214, 3), (13, .ireturn, 1)] := dz_sg _ 0 (by decide +kernel)
theorem dX8_readParty_0 : decode cX8_readParty 0 = .ok (.aload_n 0, 1) := sdX8_readParty_0.1
theorem dX8_readParty_1 : decode cX8_readParty 1 = .ok (.getfield 211, 3) := sdX8_readParty_0.2.1
theorem dX8_readParty_4 : decode cX8_readParty 4 = .ok (.iconst 4, 1) := sdX8_readParty_0.2.2.1
theorem dX8_readParty_5 : decode cX8_readParty 5 = .ok (.if_icmp .ne 9, 3) := sdX8_readParty_0.2.2.2.1
theorem dX8_readParty_8 : decode cX8_readParty 8 = .ok (.aload_n 0, 1) := sdX8_readParty_0.2.2.2.2.1
theorem dX8_readParty_9 : decode cX8_readParty 9 = .ok (.iconst 2, 1) := sdX8_readParty_0.2.2.2.2.2.1
theorem dX8_readParty_10 : decode cX8_readParty 10 = .ok (.invokevirtual 214, 3) := sdX8_readParty_0.2.2.2.2.2.2.1
theorem dX8_readParty_13 : decode cX8_readParty 13 = .ok (.ireturn, 1) := sdX8_readParty_0.2.2.2.2.2.2.2.1
theorem sdX8_readParty_14 : dz_Seg cX8_readParty [(14, .aload_n 0, 1), (15, .invokevirtual 220, 3), (18, .ifCond .eq 10, 3), (21, .aload_n 0, 1), (22, .invokevirtual 233, 3), (25, .ifCond .ne 5, 3), (28, .iconst 0, 1), (29, .ireturn, 1)] := dz_sg _ 14 (by decide +kernel)
theorem dX8_readParty_14 : decode cX8_readParty 14 = .ok (.aload_n 0, 1) := sdX8_readParty_14.1
theorem dX8_readParty_15 : decode cX8_readParty 15 = .ok (.invokevirtual 220, 3) := sdX8_readParty_14.2.1
theorem dX8_readParty_18 : decode cX8_readParty 18 = .ok (.ifCond .eq 10, 3) := sdX8_readParty_14.2.2.1
theorem dX8_readParty_21 : decode cX8_readParty 21 = .ok (.aload_n 0, 1) := sdX8_readParty_14.2.2.2.1
theorem dX8_readParty_22 : decode cX8_readParty 22 = .ok (.invokevirtual 233, 3) := sdX8_readParty_14.2.2.2.2.1
theorem dX8_readParty_25 : decode cX8_readParty 25 = .ok (.ifCond .ne 5, 3) := sdX8_readParty_14.2.2.2.2.2.1
theorem dX8_readParty_28 : decode cX8_readParty 28 = .ok (.iconst 0, 1) := sdX8_readParty_14.2.2.2.2.2.2.1
theorem dX8_readParty_29 : decode cX8_readParty 29 = .ok (.ireturn, 1) := sdX8_readParty_14.2.2.2.2.2.2.2.1
theorem sdX8_readParty_30 : dz_Seg cX8_readParty [(30, .aload_n 0, 1), (31, .getfield 230, 3), (34, .lstore_n 1, 1), (35, .iconst 0, 1), (36, .istore_n 3, 1), (37, .iconst 0, 1), (38, .istore 4, 2), (40, .iload 4, 2)] := dz_sg _ 30 (by decide +kernel)
theorem dX8_readParty_30 : decode cX8_readParty 30 = .ok (.aload_n 0, 1) := sdX8_readParty_30.1
theorem dX8_readParty_31 : decode cX8_readParty 31 = .ok (.getfield 230, 3) := sdX8_readParty_30.2.1
theorem dX8_readParty_34 : decode cX8_readParty 34 = .ok (.lstore_n 1, 1) := sdX8_readParty_30.2.2.1
theorem dX8_readParty_35 : decode cX8_readParty 35 = .ok (.iconst 0, 1) := sdX8_readParty_30.2.2.2.1
theorem dX8_readParty_36 : decode cX8_readParty 36 = .ok (.istore_n 3, 1) := sdX8_readParty_30.2.2.2.2.1
theorem dX8_readParty_37 : decode cX8_readParty 37 = .ok (.iconst 0, 1) := sdX8_readParty_30.2.2.2.2.2.1
theorem dX8_readParty_38 : decode cX8_readParty 38 = .ok (.istore 4, 2) := sdX8_readParty_30.2.2.2.2.2.2.1
theorem dX8_readParty_40 : decode cX8_readParty 40 = .ok (.iload 4, 2) := sdX8_readParty_30.2.2.2.2.2.2.2.1
theorem sdX8_readParty_42 : dz_Seg cX8_readParty [(42, .iconst 2, 1), (43, .if_icmp .lt 10, 3), (46, .aload_n 0, 1), (47, .invokevirtual 224, 3), (50, .ifCond .eq 108, 3), (53, .aload_n 0, 1), (54, .invokevirtual 224, 3), (57, .ifCond .eq 9, 3)] := dz_sg _ 42 (by decide +kernel)
theorem dX8_readParty_42 : decode cX8_readParty 42 = .ok (.iconst 2, 1) := sdX8_readParty_42.1
theorem dX8_readParty_43 : decode cX8_readParty 43 = .ok (.if_icmp .lt 10, 3) := sdX8_readParty_42.2.1
theorem dX8_readParty_46 : decode cX8_readParty 46 = .ok (.aload_n 0, 1) := sdX8_readParty_42.2.2.1
theorem dX8_readParty_47 : decode cX8_readParty 47 = .ok (.invokevirtual 224, 3) := sdX8_readParty_42.2.2.2.1
theorem dX8_readParty_50 : decode cX8_readParty 50 = .ok (.ifCond .eq 108, 3) := sdX8_readParty_42.2.2.2.2.1
theorem dX8_readParty_53 : decode cX8_readParty 53 = .ok (.aload_n 0, 1) := sdX8_readParty_42.2.2.2.2.2.1
theorem dX8_readParty_54 : decode cX8_readParty 54 = .ok (.invokevirtual 224, 3) := sdX8_readParty_42.2.2.2.2.2.2.1
theorem dX8_readParty_57 : decode cX8_readParty 57 = .ok (.ifCond .eq 9, 3) := sdX8_readParty_42.2.2.2.2.2.2.2.1
theorem sdX8_readParty_60 : dz_Seg cX8_readParty [(60, .iload 4, 2), (62, .iconst 4, 1), (63, .if_icmp .ne 9, 3), (66, .aload_n 0, 1), (67, .iconst 2, 1), (68, .invokevirtual 214, 3), (71, .ireturn, 1), (72, .aload_n 0, 1)] := dz_sg _ 60 (by decide +kernel)
theorem dX8_readParty_60 : decode cX8_readParty 60 = .ok (.iload 4, 2) := sdX8_readParty_60.1
theorem dX8_readParty_62 : decode cX8_readParty 62 = .ok (.iconst 4, 1) := sdX8_readParty_60.2.1
theorem dX8_readParty_63 : decode cX8_readParty 63 = .ok (.if_icmp .ne 9, 3) := sdX8_readParty_60.2.2.1
theorem dX8_readParty_66 : decode cX8_readParty 66 = .ok (.aload_n 0, 1) := sdX8_readParty_60.2.2.2.1
theorem dX8_readParty_67 : decode cX8_readParty 67 = .ok (.iconst 2, 1) := sdX8_readParty_60.2.2.2.2.1
theorem dX8_readParty_68 : decode cX8_readParty 68 = .ok (.invokevirtual 214, 3) := sdX8_readParty_60.2.2.2.2.2.1
theorem dX8_readParty_71 : decode cX8_readParty 71 = .ok (.ireturn, 1) := sdX8_readParty_60.2.2.2.2.2.2.1
theorem dX8_readParty_72 : decode cX8_readParty 72 = .ok (.aload_n 0, 1) := sdX8_readParty_60.2.2.2.2.2.2.2.1
theorem sdX8_readParty_73 : dz_Seg cX8_readParty [(73, .getfield 43, 3), (76, .aload_n 0, 1), (77, .getfield 208, 3), (80, .aload_n 0, 1), (81, .getfield 167, 3), (84, .invokestatic 204, 3), (87, .istore 5, 2), (89, .iload 5, 2)] := dz_sg _ 73 (by decide +kernel)
theorem dX8_readParty_73 : decode cX8_readParty 73 = .ok (.getfield 43, 3) := sdX8_readParty_73.1
theorem dX8_readParty_76 : decode cX8_readParty 76 = .ok (.aload_n 0, 1) := sdX8_readParty_73.2.1
theorem dX8_readParty_77 : decode cX8_readParty 77 = .ok (.getfield 208, 3) := sdX8_readParty_73.2.2.1
theorem dX8_readParty_80 : decode cX8_readParty 80 = .ok (.aload_n 0, 1) := sdX8_readParty_73.2.2.2.1
theorem dX8_readParty_81 : decode cX8_readParty 81 = .ok (.getfield 167, 3) := sdX8_readParty_73.2.2.2.2.1
theorem dX8_readParty_84 : decode cX8_readParty 84 = .ok (.invokestatic 204, 3) := sdX8_readParty_73.2.2.2.2.2.1
theorem dX8_readParty_87 : decode cX8_readParty 87 = .ok (.istore 5, 2) := sdX8_readParty_73.2.2.2.2.2.2.1
theorem dX8_readParty_89 : decode cX8_readParty 89 = .ok (.iload 5, 2) := sdX8_readParty_73.2.2.2.2.2.2.2.1
theorem sdX8_readParty_91 : dz_Seg cX8_readParty [(91, .iconst (-1), 1), (92, .if_icmp .eq 42, 3), (95, .aload_n 0, 1), (96, .getfield 13, 3), (99, .bipush 10, 2), (101, .iload 5, 2), (103, .iadd, 1), (104, .iaload, 1)] := dz_sg _ 91 (by decide +kernel)
theorem dX8_readParty_91 : decode cX8_readParty 91 = .ok (.iconst (-1), 1) := sdX8_readParty_91.1
theorem dX8_readParty_92 : decode cX8_readParty 92 = .ok (.if_icmp .eq 42, 3) := sdX8_readParty_91.2.1
theorem dX8_readParty_95 : decode cX8_readParty 95 = .ok (.aload_n 0, 1) := sdX8_readParty_91.2.2.1
theorem dX8_readParty_96 : decode cX8_readParty 96 = .ok (.getfield 13, 3) := sdX8_readParty_91.2.2.2.1
theorem dX8_readParty_99 : decode cX8_readParty 99 = .ok (.bipush 10, 2) := sdX8_readParty_91.2.2.2.2.1
theorem dX8_readParty_101 : decode cX8_readParty 101 = .ok (.iload 5, 2) := sdX8_readParty_91.2.2.2.2.2.1
theorem dX8_readParty_103 : decode cX8_readParty 103 = .ok (.iadd, 1) := sdX8_readParty_91.2.2.2.2.2.2.1
theorem dX8_readParty_104 : decode cX8_readParty 104 = .ok (.iaload, 1) := sdX8_readParty_91.2.2.2.2.2.2.2.1
theorem sdX8_readParty_105 : dz_Seg cX8_readParty [(105, .iconst (-1), 1), (106, .if_icmp .ne 28, 3), (109, .aload_n 0, 1), (110, .getfield 13, 3), (113, .bipush 20, 2), (115, .iconst 3, 1), (116, .iload 5, 2), (118, .imul, 1)] := dz_sg _ 105 (by decide +kernel)
theorem dX8_readParty_105 : decode cX8_readParty 105 = .ok (.iconst (-1), 1) := sdX8_readParty_105.1
theorem dX8_readParty_106 : decode cX8_readParty 106 = .ok (.if_icmp .ne 28, 3) := sdX8_readParty_105.2.1
theorem dX8_readParty_109 : decode cX8_readParty 109 = .ok (.aload_n 0, 1) := sdX8_readParty_105.2.2.1
theorem dX8_readParty_110 : decode cX8_readParty 110 = .ok (.getfield 13, 3) := sdX8_readParty_105.2.2.2.1
theorem dX8_readParty_113 : decode cX8_readParty 113 = .ok (.bipush 20, 2) := sdX8_readParty_105.2.2.2.2.1
theorem dX8_readParty_115 : decode cX8_readParty 115 = .ok (.iconst 3, 1) := sdX8_readParty_105.2.2.2.2.2.1
theorem dX8_readParty_116 : decode cX8_readParty 116 = .ok (.iload 5, 2) := sdX8_readParty_105.2.2.2.2.2.2.1
theorem dX8_readParty_118 : decode cX8_readParty 118 = .ok (.imul, 1) := sdX8_readParty_105.2.2.2.2.2.2.2.1
theorem sdX8_readParty_119 : dz_Seg cX8_readParty [(119, .iadd, 1), (120, .iaload, 1), (121, .iconst (-1), 1), (122, .if_icmp .ne 12, 3), (125, .iload_n 3, 1), (126, .iload 5, 2), (128, .invokestatic 240, 3), (131, .ifCond .eq 9, 3)] := dz_sg _ 119 (by decide +kernel)
theorem dX8_readParty_119 : decode cX8_readParty 119 = .ok (.iadd, 1) := sdX8_readParty_119.1
theorem dX8_readParty_120 : decode cX8_readParty 120 = .ok (.iaload, 1) := sdX8_readParty_119.2.1
theorem dX8_readParty_121 : decode cX8_readParty 121 = .ok (.iconst (-1), 1) := sdX8_readParty_119.2.2.1
theorem dX8_readParty_122 : decode cX8_readParty 122 = .ok (.if_icmp .ne 12, 3) := sdX8_readParty_119.2.2.2.1
theorem dX8_readParty_125 : decode cX8_readParty 125 = .ok (.iload_n 3, 1) := sdX8_readParty_119.2.2.2.2.1
theorem dX8_readParty_126 : decode cX8_readParty 126 = .ok (.iload 5, 2) := sdX8_readParty_119.2.2.2.2.2.1
theorem dX8_readParty_128 : decode cX8_readParty 128 = .ok (.invokestatic 240, 3) := sdX8_readParty_119.2.2.2.2.2.2.1
theorem dX8_readParty_131 : decode cX8_readParty 131 = .ok (.ifCond .eq 9, 3) := sdX8_readParty_119.2.2.2.2.2.2.2.1
theorem sdX8_readParty_134 : dz_Seg cX8_readParty [(134, .aload_n 0, 1), (135, .iconst 4, 1), (136, .invokevirtual 214, 3), (139, .ireturn, 1), (140, .iload_n 3, 1), (141, .iconst 1, 1), (142, .iload 5, 2), (144, .ishl, 1)] := dz_sg _ 134 (by decide +kernel)
theorem dX8_readParty_134 : decode cX8_readParty 134 = .ok (.aload_n 0, 1) := sdX8_readParty_134.1
theorem dX8_readParty_135 : decode cX8_readParty 135 = .ok (.iconst 4, 1) := sdX8_readParty_134.2.1
theorem dX8_readParty_136 : decode cX8_readParty 136 = .ok (.invokevirtual 214, 3) := sdX8_readParty_134.2.2.1
theorem dX8_readParty_139 : decode cX8_readParty 139 = .ok (.ireturn, 1) := sdX8_readParty_134.2.2.2.1
theorem dX8_readParty_140 : decode cX8_readParty 140 = .ok (.iload_n 3, 1) := sdX8_readParty_134.2.2.2.2.1
theorem dX8_readParty_141 : decode cX8_readParty 141 = .ok (.iconst 1, 1) := sdX8_readParty_134.2.2.2.2.2.1
theorem dX8_readParty_142 : decode cX8_readParty 142 = .ok (.iload 5, 2) := sdX8_readParty_134.2.2.2.2.2.2.1
theorem dX8_readParty_144 : decode cX8_readParty 144 = .ok (.ishl, 1) := sdX8_readParty_134.2.2.2.2.2.2.2.1
theorem sdX8_readParty_145 : dz_Seg cX8_readParty [(145, .ior, 1), (146, .istore_n 3, 1), (147, .iinc 4 1, 3), (150, .aload_n 0, 1), (151, .invokevirtual 220, 3), (154, .pop, 1), (155, .goto (-115), 3), (158, .iconst 0, 1)] := dz_sg _ 145 (by decide +kernel)
theorem dX8_readParty_145 : decode cX8_readParty 145 = .ok (.ior, 1) := sdX8_readParty_145.1
theorem dX8_readParty_146 : decode cX8_readParty 146 = .ok (.istore_n 3, 1) := sdX8_readParty_145.2.1
theorem dX8_readParty_147 : decode cX8_readParty 147 = .ok (.iinc 4 1, 3) := sdX8_readParty_145.2.2.1
theorem dX8_readParty_150 : decode cX8_readParty 150 = .ok (.aload_n 0, 1) := sdX8_readParty_145.2.2.2.1
theorem dX8_readParty_151 : decode cX8_readParty 151 = .ok (.invokevirtual 220, 3) := sdX8_readParty_145.2.2.2.2.1
theorem dX8_readParty_154 : decode cX8_readParty 154 = .ok (.pop, 1) := sdX8_readParty_145.2.2.2.2.2.1
theorem dX8_readParty_155 : decode cX8_readParty 155 = .ok (.goto (-115), 3) := sdX8_readParty_145.2.2.2.2.2.2.1
theorem dX8_readParty_158 : decode cX8_readParty 158 = .ok (.iconst 0, 1) := sdX8_readParty_145.2.2.2.2.2.2.2.1
theorem sdX8_readParty_159 : dz_Seg cX8_readParty [(159, .istore 5, 2), (161, .iload 5, 2), (163, .aload_n 0, 1), (164, .getfield 208, 3), (167, .if_icmp .ge 32, 3), (170, .iload_n 3, 1), (171, .iload 5, 2), (173, .invokestatic 240, 3)] := dz_sg _ 159 (by decide +kernel)
theorem dX8_readParty_159 : decode cX8_readParty 159 = .ok (.istore 5, 2) := sdX8_readParty_159.1
theorem dX8_readParty_161 : decode cX8_readParty 161 = .ok (.iload 5, 2) := sdX8_readParty_159.2.1
theorem dX8_readParty_163 : decode cX8_readParty 163 = .ok (.aload_n 0, 1) := sdX8_readParty_159.2.2.1
theorem dX8_readParty_164 : decode cX8_readParty 164 = .ok (.getfield 208, 3) := sdX8_readParty_159.2.2.2.1
theorem dX8_readParty_167 : decode cX8_readParty 167 = .ok (.if_icmp .ge 32, 3) := sdX8_readParty_159.2.2.2.2.1
theorem dX8_readParty_170 : decode cX8_readParty 170 = .ok (.iload_n 3, 1) := sdX8_readParty_159.2.2.2.2.2.1
theorem dX8_readParty_171 : decode cX8_readParty 171 = .ok (.iload 5, 2) := sdX8_readParty_159.2.2.2.2.2.2.1
theorem dX8_readParty_173 : decode cX8_readParty 173 = .ok (.invokestatic 240, 3) := sdX8_readParty_159.2.2.2.2.2.2.2.1
theorem sdX8_readParty_176 : dz_Seg cX8_readParty [(176, .ifCond .eq 17, 3), (179, .aload_n 0, 1), (180, .getfield 13, 3), (183, .bipush 10, 2), (185, .iload 5, 2), (187, .iadd, 1), (188, .aload_n 0, 1), (189, .getfield 211, 3)] := dz_sg _ 176 (by decide +kernel)
theorem dX8_readParty_176 : decode cX8_readParty 176 = .ok (.ifCond .eq 17, 3) := sdX8_readParty_176.1
theorem dX8_readParty_179 : decode cX8_readParty 179 = .ok (.aload_n 0, 1) := sdX8_readParty_176.2.1
theorem dX8_readParty_180 : decode cX8_readParty 180 = .ok (.getfield 13, 3) := sdX8_readParty_176.2.2.1
theorem dX8_readParty_183 : decode cX8_readParty 183 = .ok (.bipush 10, 2) := sdX8_readParty_176.2.2.2.1
theorem dX8_readParty_185 : decode cX8_readParty 185 = .ok (.iload 5, 2) := sdX8_readParty_176.2.2.2.2.1
theorem dX8_readParty_187 : decode cX8_readParty 187 = .ok (.iadd, 1) := sdX8_readParty_176.2.2.2.2.2.1
theorem dX8_readParty_188 : decode cX8_readParty 188 = .ok (.aload_n 0, 1) := sdX8_readParty_176.2.2.2.2.2.2.1
theorem dX8_readParty_189 : decode cX8_readParty 189 = .ok (.getfield 211, 3) := sdX8_readParty_176.2.2.2.2.2.2.2.1
theorem sdX8_readParty_192 : dz_Seg cX8_readParty [(192, .iastore, 1), (193, .iinc 5 1, 3), (196, .goto (-35), 3), (199, .aload_n 0, 1), (200, .getfield 46, 3), (203, .aload_n 0, 1), (204, .getfield 211, 3), (207, .lload_n 1, 1)] := dz_sg _ 192 (by decide +kernel)
theorem dX8_readParty_192 : decode cX8_readParty 192 = .ok (.iastore, 1) := sdX8_readParty_192.1
theorem dX8_readParty_193 : decode cX8_readParty 193 = .ok (.iinc 5 1, 3) := sdX8_readParty_192.2.1
theorem dX8_readParty_196 : decode cX8_readParty 196 = .ok (.goto (-35), 3) := sdX8_readParty_192.2.2.1
theorem dX8_readParty_199 : decode cX8_readParty 199 = .ok (.aload_n 0, 1) := sdX8_readParty_192.2.2.2.1
theorem dX8_readParty_200 : decode cX8_readParty 200 = .ok (.getfield 46, 3) := sdX8_readParty_192.2.2.2.2.1
theorem dX8_readParty_203 : decode cX8_readParty 203 = .ok (.aload_n 0, 1) := sdX8_readParty_192.2.2.2.2.2.1
theorem dX8_readParty_204 : decode cX8_readParty 204 = .ok (.getfield 211, 3) := sdX8_readParty_192.2.2.2.2.2.2.1
theorem dX8_readParty_207 : decode cX8_readParty 207 = .ok (.lload_n 1, 1) := sdX8_readParty_192.2.2.2.2.2.2.2.1
theorem sdX8_readParty_208 : dz_Seg cX8_readParty [(208, .lastore, 1), (209, .aload_n 0, 1), (210, .dup, 1), (211, .getfield 211, 3), (214, .iconst 1, 1), (215, .iadd, 1), (216, .putfield 211, 3), (219, .iconst 1, 1)] := dz_sg _ 208 (by decide +kernel)
theorem dX8_readParty_208 : decode cX8_readParty 208 = .ok (.lastore, 1) := sdX8_readParty_208.1
theorem dX8_readParty_209 : decode cX8_readParty 209 = .ok (.aload_n 0, 1) := sdX8_readParty_208.2.1
theorem dX8_readParty_210 : decode cX8_readParty 210 = .ok (.dup, 1) := sdX8_readParty_208.2.2.1
theorem dX8_readParty_211 : decode cX8_readParty 211 = .ok (.getfield 211, 3) := sdX8_readParty_208.2.2.2.1
theorem dX8_readParty_214 : decode cX8_readParty 214 = .ok (.iconst 1, 1) := sdX8_readParty_208.2.2.2.2.1
theorem dX8_readParty_215 : decode cX8_readParty 215 = .ok (.iadd, 1) := sdX8_readParty_208.2.2.2.2.2.1
theorem dX8_readParty_216 : decode cX8_readParty 216 = .ok (.putfield 211, 3) := sdX8_readParty_208.2.2.2.2.2.2.1
theorem dX8_readParty_219 : decode cX8_readParty 219 = .ok (.iconst 1, 1) := sdX8_readParty_208.2.2.2.2.2.2.2.1
theorem sdX8_readParty_220 : dz_Seg cX8_readParty [(220, .ireturn, 1)] := dz_sg _ 220 (by decide +kernel)
theorem dX8_readParty_220 : decode cX8_readParty 220 = .ok (.ireturn, 1) := sdX8_readParty_220.1
theorem sdX8_readAsks_0 : dz_Seg cX8_readAsks [(0, .aload_n 0, 1), (1, .invokevirtual 220, 3), (4, .pop, 1), (5, .aload_n 0, 1), (6, .invokevirtual 224, 3), (9, .ifCond .ne 9, 3), (12, .aload_n 0, 1), (13, .iconst 2, 1)] := dz_sg _ 0 (by decide +kernel)
theorem dX8_readAsks_0 : decode cX8_readAsks 0 = .ok (.aload_n 0, 1) := sdX8_readAsks_0.1
theorem dX8_readAsks_1 : decode cX8_readAsks 1 = .ok (.invokevirtual 220, 3) := sdX8_readAsks_0.2.1
theorem dX8_readAsks_4 : decode cX8_readAsks 4 = .ok (.pop, 1) := sdX8_readAsks_0.2.2.1
theorem dX8_readAsks_5 : decode cX8_readAsks 5 = .ok (.aload_n 0, 1) := sdX8_readAsks_0.2.2.2.1
theorem dX8_readAsks_6 : decode cX8_readAsks 6 = .ok (.invokevirtual 224, 3) := sdX8_readAsks_0.2.2.2.2.1
theorem dX8_readAsks_9 : decode cX8_readAsks 9 = .ok (.ifCond .ne 9, 3) := sdX8_readAsks_0.2.2.2.2.2.1
theorem dX8_readAsks_12 : decode cX8_readAsks 12 = .ok (.aload_n 0, 1) := sdX8_readAsks_0.2.2.2.2.2.2.1
theorem dX8_readAsks_13 : decode cX8_readAsks 13 = .ok (.iconst 2, 1) := sdX8_readAsks_0.2.2.2.2.2.2.2.1
theorem sdX8_readAsks_14 : dz_Seg cX8_readAsks [(14, .invokevirtual 214, 3), (17, .ireturn, 1), (18, .aload_n 0, 1), (19, .getfield 43, 3), (22, .aload_n 0, 1), (23, .getfield 208, 3), (26, .aload_n 0, 1), (27, .getfield 167, 3)] := dz_sg _ 14 (by decide +kernel)
theorem dX8_readAsks_14 : decode cX8_readAsks 14 = .ok (.invokevirtual 214, 3) := sdX8_readAsks_14.1
theorem dX8_readAsks_17 : decode cX8_readAsks 17 = .ok (.ireturn, 1) := sdX8_readAsks_14.2.1
theorem dX8_readAsks_18 : decode cX8_readAsks 18 = .ok (.aload_n 0, 1) := sdX8_readAsks_14.2.2.1
theorem dX8_readAsks_19 : decode cX8_readAsks 19 = .ok (.getfield 43, 3) := sdX8_readAsks_14.2.2.2.1
theorem dX8_readAsks_22 : decode cX8_readAsks 22 = .ok (.aload_n 0, 1) := sdX8_readAsks_14.2.2.2.2.1
theorem dX8_readAsks_23 : decode cX8_readAsks 23 = .ok (.getfield 208, 3) := sdX8_readAsks_14.2.2.2.2.2.1
theorem dX8_readAsks_26 : decode cX8_readAsks 26 = .ok (.aload_n 0, 1) := sdX8_readAsks_14.2.2.2.2.2.2.1
theorem dX8_readAsks_27 : decode cX8_readAsks 27 = .ok (.getfield 167, 3) := sdX8_readAsks_14.2.2.2.2.2.2.2.1
theorem sdX8_readAsks_30 : dz_Seg cX8_readAsks [(30, .invokestatic 204, 3), (33, .istore_n 1, 1), (34, .aload_n 0, 1), (35, .getfield 46, 3), (38, .aload_n 0, 1), (39, .getfield 211, 3), (42, .aload_n 0, 1), (43, .getfield 167, 3)] := dz_sg _ 30 (by decide +kernel)
theorem dX8_readAsks_30 : decode cX8_readAsks 30 = .ok (.invokestatic 204, 3) := sdX8_readAsks_30.1
theorem dX8_readAsks_33 : decode cX8_readAsks 33 = .ok (.istore_n 1, 1) := sdX8_readAsks_30.2.1
theorem dX8_readAsks_34 : decode cX8_readAsks 34 = .ok (.aload_n 0, 1) := sdX8_readAsks_30.2.2.1
theorem dX8_readAsks_35 : decode cX8_readAsks 35 = .ok (.getfield 46, 3) := sdX8_readAsks_30.2.2.2.1
theorem dX8_readAsks_38 : decode cX8_readAsks 38 = .ok (.aload_n 0, 1) := sdX8_readAsks_30.2.2.2.2.1
theorem dX8_readAsks_39 : decode cX8_readAsks 39 = .ok (.getfield 211, 3) := sdX8_readAsks_30.2.2.2.2.2.1
theorem dX8_readAsks_42 : decode cX8_readAsks 42 = .ok (.aload_n 0, 1) := sdX8_readAsks_30.2.2.2.2.2.2.1
theorem dX8_readAsks_43 : decode cX8_readAsks 43 = .ok (.getfield 167, 3) := sdX8_readAsks_30.2.2.2.2.2.2.2.1
theorem sdX8_readAsks_46 : dz_Seg cX8_readAsks [(46, .invokestatic 204, 3), (49, .istore_n 2, 1), (50, .iload_n 2, 1), (51, .iconst (-1), 1), (52, .if_icmp .ne 27, 3), (55, .iload_n 1, 1), (56, .iconst (-1), 1), (57, .if_icmp .eq 16, 3)] := dz_sg _ 46 (by decide +kernel)
theorem dX8_readAsks_46 : decode cX8_readAsks 46 = .ok (.invokestatic 204, 3) := sdX8_readAsks_46.1
theorem dX8_readAsks_49 : decode cX8_readAsks 49 = .ok (.istore_n 2, 1) := sdX8_readAsks_46.2.1
theorem dX8_readAsks_50 : decode cX8_readAsks 50 = .ok (.iload_n 2, 1) := sdX8_readAsks_46.2.2.1
theorem dX8_readAsks_51 : decode cX8_readAsks 51 = .ok (.iconst (-1), 1) := sdX8_readAsks_46.2.2.2.1
theorem dX8_readAsks_52 : decode cX8_readAsks 52 = .ok (.if_icmp .ne 27, 3) := sdX8_readAsks_46.2.2.2.2.1
theorem dX8_readAsks_55 : decode cX8_readAsks 55 = .ok (.iload_n 1, 1) := sdX8_readAsks_46.2.2.2.2.2.1
theorem dX8_readAsks_56 : decode cX8_readAsks 56 = .ok (.iconst (-1), 1) := sdX8_readAsks_46.2.2.2.2.2.2.1
theorem dX8_readAsks_57 : decode cX8_readAsks 57 = .ok (.if_icmp .eq 16, 3) := sdX8_readAsks_46.2.2.2.2.2.2.2.1
theorem sdX8_readAsks_60 : dz_Seg cX8_readAsks [(60, .aload_n 0, 1), (61, .getfield 13, 3), (64, .bipush 10, 2), (66, .iload_n 1, 1), (67, .iadd, 1), (68, .iaload, 1), (69, .iconst (-1), 1), (70, .if_icmp .eq 9, 3)] := dz_sg _ 60 (by decide +kernel)
theorem dX8_readAsks_60 : decode cX8_readAsks 60 = .ok (.aload_n 0, 1) := sdX8_readAsks_60.1
theorem dX8_readAsks_61 : decode cX8_readAsks 61 = .ok (.getfield 13, 3) := sdX8_readAsks_60.2.1
theorem dX8_readAsks_64 : decode cX8_readAsks 64 = .ok (.bipush 10, 2) := sdX8_readAsks_60.2.2.1
theorem dX8_readAsks_66 : decode cX8_readAsks 66 = .ok (.iload_n 1, 1) := sdX8_readAsks_60.2.2.2.1
theorem dX8_readAsks_67 : decode cX8_readAsks 67 = .ok (.iadd, 1) := sdX8_readAsks_60.2.2.2.2.1
theorem dX8_readAsks_68 : decode cX8_readAsks 68 = .ok (.iaload, 1) := sdX8_readAsks_60.2.2.2.2.2.1
theorem dX8_readAsks_69 : decode cX8_readAsks 69 = .ok (.iconst (-1), 1) := sdX8_readAsks_60.2.2.2.2.2.2.1
theorem dX8_readAsks_70 : decode cX8_readAsks 70 = .ok (.if_icmp .eq 9, 3) := sdX8_readAsks_60.2.2.2.2.2.2.2.1
theorem sdX8_readAsks_73 : dz_Seg cX8_readAsks [(73, .aload_n 0, 1), (74, .iconst 4, 1), (75, .invokevirtual 214, 3), (78, .ireturn, 1), (79, .iload_n 2, 1), (80, .iconst (-1), 1), (81, .if_icmp .eq 12, 3), (84, .bipush 50, 2)] := dz_sg _ 73 (by decide +kernel)
theorem dX8_readAsks_73 : decode cX8_readAsks 73 = .ok (.aload_n 0, 1) := sdX8_readAsks_73.1
theorem dX8_readAsks_74 : decode cX8_readAsks 74 = .ok (.iconst 4, 1) := sdX8_readAsks_73.2.1
theorem dX8_readAsks_75 : decode cX8_readAsks 75 = .ok (.invokevirtual 214, 3) := sdX8_readAsks_73.2.2.1
theorem dX8_readAsks_78 : decode cX8_readAsks 78 = .ok (.ireturn, 1) := sdX8_readAsks_73.2.2.2.1
theorem dX8_readAsks_79 : decode cX8_readAsks 79 = .ok (.iload_n 2, 1) := sdX8_readAsks_73.2.2.2.2.1
theorem dX8_readAsks_80 : decode cX8_readAsks 80 = .ok (.iconst (-1), 1) := sdX8_readAsks_73.2.2.2.2.2.1
theorem dX8_readAsks_81 : decode cX8_readAsks 81 = .ok (.if_icmp .eq 12, 3) := sdX8_readAsks_73.2.2.2.2.2.2.1
theorem dX8_readAsks_84 : decode cX8_readAsks 84 = .ok (.bipush 50, 2) := sdX8_readAsks_73.2.2.2.2.2.2.2.1
theorem sdX8_readAsks_86 : dz_Seg cX8_readAsks [(86, .iconst 3, 1), (87, .iload_n 2, 1), (88, .imul, 1), (89, .iadd, 1), (90, .goto 9, 3), (93, .bipush 20, 2), (95, .iconst 3, 1), (96, .iload_n 1, 1)] := dz_sg _ 86 (by decide +kernel)
theorem dX8_readAsks_86 : decode cX8_readAsks 86 = .ok (.iconst 3, 1) := sdX8_readAsks_86.1
theorem dX8_readAsks_87 : decode cX8_readAsks 87 = .ok (.iload_n 2, 1) := sdX8_readAsks_86.2.1
theorem dX8_readAsks_88 : decode cX8_readAsks 88 = .ok (.imul, 1) := sdX8_readAsks_86.2.2.1
theorem dX8_readAsks_89 : decode cX8_readAsks 89 = .ok (.iadd, 1) := sdX8_readAsks_86.2.2.2.1
theorem dX8_readAsks_90 : decode cX8_readAsks 90 = .ok (.goto 9, 3) := sdX8_readAsks_86.2.2.2.2.1
theorem dX8_readAsks_93 : decode cX8_readAsks 93 = .ok (.bipush 20, 2) := sdX8_readAsks_86.2.2.2.2.2.1
theorem dX8_readAsks_95 : decode cX8_readAsks 95 = .ok (.iconst 3, 1) := sdX8_readAsks_86.2.2.2.2.2.2.1
theorem dX8_readAsks_96 : decode cX8_readAsks 96 = .ok (.iload_n 1, 1) := sdX8_readAsks_86.2.2.2.2.2.2.2.1
theorem sdX8_readAsks_97 : dz_Seg cX8_readAsks [(97, .imul, 1), (98, .iadd, 1), (99, .istore_n 3, 1), (100, .aload_n 0, 1), (101, .getfield 13, 3), (104, .iload_n 3, 1), (105, .iaload, 1), (106, .iconst (-1), 1)] := dz_sg _ 97 (by decide +kernel)
theorem dX8_readAsks_97 : decode cX8_readAsks 97 = .ok (.imul, 1) := sdX8_readAsks_97.1
theorem dX8_readAsks_98 : decode cX8_readAsks 98 = .ok (.iadd, 1) := sdX8_readAsks_97.2.1
theorem dX8_readAsks_99 : decode cX8_readAsks 99 = .ok (.istore_n 3, 1) := sdX8_readAsks_97.2.2.1
theorem dX8_readAsks_100 : decode cX8_readAsks 100 = .ok (.aload_n 0, 1) := sdX8_readAsks_97.2.2.2.1
theorem dX8_readAsks_101 : decode cX8_readAsks 101 = .ok (.getfield 13, 3) := sdX8_readAsks_97.2.2.2.2.1
theorem dX8_readAsks_104 : decode cX8_readAsks 104 = .ok (.iload_n 3, 1) := sdX8_readAsks_97.2.2.2.2.2.1
theorem dX8_readAsks_105 : decode cX8_readAsks 105 = .ok (.iaload, 1) := sdX8_readAsks_97.2.2.2.2.2.2.1
theorem dX8_readAsks_106 : decode cX8_readAsks 106 = .ok (.iconst (-1), 1) := sdX8_readAsks_97.2.2.2.2.2.2.2.1
theorem sdX8_readAsks_107 : dz_Seg cX8_readAsks [(107, .if_icmp .eq 9, 3), (110, .aload_n 0, 1), (111, .iconst 4, 1), (112, .invokevirtual 214, 3), (115, .ireturn, 1), (116, .aload_n 0, 1), (117, .invokevirtual 220, 3), (120, .pop, 1)] := dz_sg _ 107 (by decide +kernel)
theorem dX8_readAsks_107 : decode cX8_readAsks 107 = .ok (.if_icmp .eq 9, 3) := sdX8_readAsks_107.1
theorem dX8_readAsks_110 : decode cX8_readAsks 110 = .ok (.aload_n 0, 1) := sdX8_readAsks_107.2.1
theorem dX8_readAsks_111 : decode cX8_readAsks 111 = .ok (.iconst 4, 1) := sdX8_readAsks_107.2.2.1
theorem dX8_readAsks_112 : decode cX8_readAsks 112 = .ok (.invokevirtual 214, 3) := sdX8_readAsks_107.2.2.2.1
theorem dX8_readAsks_115 : decode cX8_readAsks 115 = .ok (.ireturn, 1) := sdX8_readAsks_107.2.2.2.2.1
theorem dX8_readAsks_116 : decode cX8_readAsks 116 = .ok (.aload_n 0, 1) := sdX8_readAsks_107.2.2.2.2.2.1
theorem dX8_readAsks_117 : decode cX8_readAsks 117 = .ok (.invokevirtual 220, 3) := sdX8_readAsks_107.2.2.2.2.2.2.1
theorem dX8_readAsks_120 : decode cX8_readAsks 120 = .ok (.pop, 1) := sdX8_readAsks_107.2.2.2.2.2.2.2.1
theorem sdX8_readAsks_121 : dz_Seg cX8_readAsks [(121, .iconst 0, 1), (122, .istore 4, 2), (124, .iload 4, 2), (126, .ifCond .eq 10, 3), (129, .aload_n 0, 1), (130, .invokevirtual 224, 3), (133, .ifCond .eq 109, 3), (136, .aload_n 0, 1)] := dz_sg _ 121 (by decide +kernel)
theorem dX8_readAsks_121 : decode cX8_readAsks 121 = .ok (.iconst 0, 1) := sdX8_readAsks_121.1
theorem dX8_readAsks_122 : decode cX8_readAsks 122 = .ok (.istore 4, 2) := sdX8_readAsks_121.2.1
theorem dX8_readAsks_124 : decode cX8_readAsks 124 = .ok (.iload 4, 2) := sdX8_readAsks_121.2.2.1
theorem dX8_readAsks_126 : decode cX8_readAsks 126 = .ok (.ifCond .eq 10, 3) := sdX8_readAsks_121.2.2.2.1
theorem dX8_readAsks_129 : decode cX8_readAsks 129 = .ok (.aload_n 0, 1) := sdX8_readAsks_121.2.2.2.2.1
theorem dX8_readAsks_130 : decode cX8_readAsks 130 = .ok (.invokevirtual 224, 3) := sdX8_readAsks_121.2.2.2.2.2.1
theorem dX8_readAsks_133 : decode cX8_readAsks 133 = .ok (.ifCond .eq 109, 3) := sdX8_readAsks_121.2.2.2.2.2.2.1
theorem dX8_readAsks_136 : decode cX8_readAsks 136 = .ok (.aload_n 0, 1) := sdX8_readAsks_121.2.2.2.2.2.2.2.1
theorem sdX8_readAsks_137 : dz_Seg cX8_readAsks [(137, .invokevirtual 224, 3), (140, .ifCond .eq 9, 3), (143, .iload 4, 2), (145, .iconst 3, 1), (146, .if_icmp .ne 9, 3), (149, .aload_n 0, 1), (150, .iconst 2, 1), (151, .invokevirtual 214, 3)] := dz_sg _ 137 (by decide +kernel)
theorem dX8_readAsks_137 : decode cX8_readAsks 137 = .ok (.invokevirtual 224, 3) := sdX8_readAsks_137.1
theorem dX8_readAsks_140 : decode cX8_readAsks 140 = .ok (.ifCond .eq 9, 3) := sdX8_readAsks_137.2.1
theorem dX8_readAsks_143 : decode cX8_readAsks 143 = .ok (.iload 4, 2) := sdX8_readAsks_137.2.2.1
theorem dX8_readAsks_145 : decode cX8_readAsks 145 = .ok (.iconst 3, 1) := sdX8_readAsks_137.2.2.2.1
theorem dX8_readAsks_146 : decode cX8_readAsks 146 = .ok (.if_icmp .ne 9, 3) := sdX8_readAsks_137.2.2.2.2.1
theorem dX8_readAsks_149 : decode cX8_readAsks 149 = .ok (.aload_n 0, 1) := sdX8_readAsks_137.2.2.2.2.2.1
theorem dX8_readAsks_150 : decode cX8_readAsks 150 = .ok (.iconst 2, 1) := sdX8_readAsks_137.2.2.2.2.2.2.1
theorem dX8_readAsks_151 : decode cX8_readAsks 151 = .ok (.invokevirtual 214, 3) := sdX8_readAsks_137.2.2.2.2.2.2.2.1
theorem sdX8_readAsks_154 : dz_Seg cX8_readAsks [(154, .ireturn, 1), (155, .aload_n 0, 1), (156, .getfield 39, 3), (159, .aload_n 0, 1), (160, .getfield 201, 3), (163, .aload_n 0, 1), (164, .getfield 167, 3), (167, .invokestatic 204, 3)] := dz_sg _ 154 (by decide +kernel)
theorem dX8_readAsks_154 : decode cX8_readAsks 154 = .ok (.ireturn, 1) := sdX8_readAsks_154.1
theorem dX8_readAsks_155 : decode cX8_readAsks 155 = .ok (.aload_n 0, 1) := sdX8_readAsks_154.2.1
theorem dX8_readAsks_156 : decode cX8_readAsks 156 = .ok (.getfield 39, 3) := sdX8_readAsks_154.2.2.1
theorem dX8_readAsks_159 : decode cX8_readAsks 159 = .ok (.aload_n 0, 1) := sdX8_readAsks_154.2.2.2.1
theorem dX8_readAsks_160 : decode cX8_readAsks 160 = .ok (.getfield 201, 3) := sdX8_readAsks_154.2.2.2.2.1
theorem dX8_readAsks_163 : decode cX8_readAsks 163 = .ok (.aload_n 0, 1) := sdX8_readAsks_154.2.2.2.2.2.1
theorem dX8_readAsks_164 : decode cX8_readAsks 164 = .ok (.getfield 167, 3) := sdX8_readAsks_154.2.2.2.2.2.2.1
theorem dX8_readAsks_167 : decode cX8_readAsks 167 = .ok (.invokestatic 204, 3) := sdX8_readAsks_154.2.2.2.2.2.2.2.1
theorem sdX8_readAsks_170 : dz_Seg cX8_readAsks [(170, .istore 5, 2), (172, .iload 5, 2), (174, .iconst (-1), 1), (175, .if_icmp .ne 9, 3), (178, .aload_n 0, 1), (179, .iconst 4, 1), (180, .invokevirtual 214, 3), (183, .ireturn, 1)] := dz_sg _ 170 (by decide +kernel)
theorem dX8_readAsks_170 : decode cX8_readAsks 170 = .ok (.istore 5, 2) := sdX8_readAsks_170.1
theorem dX8_readAsks_172 : decode cX8_readAsks 172 = .ok (.iload 5, 2) := sdX8_readAsks_170.2.1
theorem dX8_readAsks_174 : decode cX8_readAsks 174 = .ok (.iconst (-1), 1) := sdX8_readAsks_170.2.2.1
theorem dX8_readAsks_175 : decode cX8_readAsks 175 = .ok (.if_icmp .ne 9, 3) := sdX8_readAsks_170.2.2.2.1
theorem dX8_readAsks_178 : decode cX8_readAsks 178 = .ok (.aload_n 0, 1) := sdX8_readAsks_170.2.2.2.2.1
theorem dX8_readAsks_179 : decode cX8_readAsks 179 = .ok (.iconst 4, 1) := sdX8_readAsks_170.2.2.2.2.2.1
theorem dX8_readAsks_180 : decode cX8_readAsks 180 = .ok (.invokevirtual 214, 3) := sdX8_readAsks_170.2.2.2.2.2.2.1
theorem dX8_readAsks_183 : decode cX8_readAsks 183 = .ok (.ireturn, 1) := sdX8_readAsks_170.2.2.2.2.2.2.2.1
theorem sdX8_readAsks_184 : dz_Seg cX8_readAsks [(184, .iconst 0, 1), (185, .istore 6, 2), (187, .iload 6, 2), (189, .iload 4, 2), (191, .if_icmp .ge 29, 3), (194, .aload_n 0, 1), (195, .getfield 13, 3), (198, .iload_n 3, 1)] := dz_sg _ 184 (by decide +kernel)
theorem dX8_readAsks_184 : decode cX8_readAsks 184 = .ok (.iconst 0, 1) := sdX8_readAsks_184.1
theorem dX8_readAsks_185 : decode cX8_readAsks 185 = .ok (.istore 6, 2) := sdX8_readAsks_184.2.1
theorem dX8_readAsks_187 : decode cX8_readAsks 187 = .ok (.iload 6, 2) := sdX8_readAsks_184.2.2.1
theorem dX8_readAsks_189 : decode cX8_readAsks 189 = .ok (.iload 4, 2) := sdX8_readAsks_184.2.2.2.1
theorem dX8_readAsks_191 : decode cX8_readAsks 191 = .ok (.if_icmp .ge 29, 3) := sdX8_readAsks_184.2.2.2.2.1
theorem dX8_readAsks_194 : decode cX8_readAsks 194 = .ok (.aload_n 0, 1) := sdX8_readAsks_184.2.2.2.2.2.1
theorem dX8_readAsks_195 : decode cX8_readAsks 195 = .ok (.getfield 13, 3) := sdX8_readAsks_184.2.2.2.2.2.2.1
theorem dX8_readAsks_198 : decode cX8_readAsks 198 = .ok (.iload_n 3, 1) := sdX8_readAsks_184.2.2.2.2.2.2.2.1
theorem sdX8_readAsks_199 : dz_Seg cX8_readAsks [(199, .iload 6, 2), (201, .iadd, 1), (202, .iaload, 1), (203, .iload 5, 2), (205, .if_icmp .ne 9, 3), (208, .aload_n 0, 1), (209, .iconst 4, 1), (210, .invokevirtual 214, 3)] := dz_sg _ 199 (by decide +kernel)
theorem dX8_readAsks_199 : decode cX8_readAsks 199 = .ok (.iload 6, 2) := sdX8_readAsks_199.1
theorem dX8_readAsks_201 : decode cX8_readAsks 201 = .ok (.iadd, 1) := sdX8_readAsks_199.2.1
theorem dX8_readAsks_202 : decode cX8_readAsks 202 = .ok (.iaload, 1) := sdX8_readAsks_199.2.2.1
theorem dX8_readAsks_203 : decode cX8_readAsks 203 = .ok (.iload 5, 2) := sdX8_readAsks_199.2.2.2.1
theorem dX8_readAsks_205 : decode cX8_readAsks 205 = .ok (.if_icmp .ne 9, 3) := sdX8_readAsks_199.2.2.2.2.1
theorem dX8_readAsks_208 : decode cX8_readAsks 208 = .ok (.aload_n 0, 1) := sdX8_readAsks_199.2.2.2.2.2.1
theorem dX8_readAsks_209 : decode cX8_readAsks 209 = .ok (.iconst 4, 1) := sdX8_readAsks_199.2.2.2.2.2.2.1
theorem dX8_readAsks_210 : decode cX8_readAsks 210 = .ok (.invokevirtual 214, 3) := sdX8_readAsks_199.2.2.2.2.2.2.2.1
theorem sdX8_readAsks_213 : dz_Seg cX8_readAsks [(213, .ireturn, 1), (214, .iinc 6 1, 3), (217, .goto (-30), 3), (220, .aload_n 0, 1), (221, .getfield 13, 3), (224, .iload_n 3, 1), (225, .iload 4, 2), (227, .iadd, 1)] := dz_sg _ 213 (by decide +kernel)
theorem dX8_readAsks_213 : decode cX8_readAsks 213 = .ok (.ireturn, 1) := sdX8_readAsks_213.1
theorem dX8_readAsks_214 : decode cX8_readAsks 214 = .ok (.iinc 6 1, 3) := sdX8_readAsks_213.2.1
theorem dX8_readAsks_217 : decode cX8_readAsks 217 = .ok (.goto (-30), 3) := sdX8_readAsks_213.2.2.1
theorem dX8_readAsks_220 : decode cX8_readAsks 220 = .ok (.aload_n 0, 1) := sdX8_readAsks_213.2.2.2.1
theorem dX8_readAsks_221 : decode cX8_readAsks 221 = .ok (.getfield 13, 3) := sdX8_readAsks_213.2.2.2.2.1
theorem dX8_readAsks_224 : decode cX8_readAsks 224 = .ok (.iload_n 3, 1) := sdX8_readAsks_213.2.2.2.2.2.1
theorem dX8_readAsks_225 : decode cX8_readAsks 225 = .ok (.iload 4, 2) := sdX8_readAsks_213.2.2.2.2.2.2.1
theorem dX8_readAsks_227 : decode cX8_readAsks 227 = .ok (.iadd, 1) := sdX8_readAsks_213.2.2.2.2.2.2.2.1
theorem sdX8_readAsks_228 : dz_Seg cX8_readAsks [(228, .iload 5, 2), (230, .iastore, 1), (231, .iinc 4 1, 3), (234, .aload_n 0, 1), (235, .invokevirtual 220, 3), (238, .pop, 1), (239, .goto (-115), 3), (242, .iconst 1, 1)] := dz_sg _ 228 (by decide +kernel)
theorem dX8_readAsks_228 : decode cX8_readAsks 228 = .ok (.iload 5, 2) := sdX8_readAsks_228.1
theorem dX8_readAsks_230 : decode cX8_readAsks 230 = .ok (.iastore, 1) := sdX8_readAsks_228.2.1
theorem dX8_readAsks_231 : decode cX8_readAsks 231 = .ok (.iinc 4 1, 3) := sdX8_readAsks_228.2.2.1
theorem dX8_readAsks_234 : decode cX8_readAsks 234 = .ok (.aload_n 0, 1) := sdX8_readAsks_228.2.2.2.1
theorem dX8_readAsks_235 : decode cX8_readAsks 235 = .ok (.invokevirtual 220, 3) := sdX8_readAsks_228.2.2.2.2.1
theorem dX8_readAsks_238 : decode cX8_readAsks 238 = .ok (.pop, 1) := sdX8_readAsks_228.2.2.2.2.2.1
theorem dX8_readAsks_239 : decode cX8_readAsks 239 = .ok (.goto (-115), 3) := sdX8_readAsks_228.2.2.2.2.2.2.1
theorem dX8_readAsks_242 : decode cX8_readAsks 242 = .ok (.iconst 1, 1) := sdX8_readAsks_228.2.2.2.2.2.2.2.1
theorem sdX8_readAsks_243 : dz_Seg cX8_readAsks [(243, .ireturn, 1)] := dz_sg _ 243 (by decide +kernel)
theorem dX8_readAsks_243 : decode cX8_readAsks 243 = .ok (.ireturn, 1) := sdX8_readAsks_243.1
theorem sdX8_readOnce_0 : dz_Seg cX8_readOnce [(0, .aload_n 0, 1), (1, .getfield 243, 3), (4, .iload_n 1, 1), (5, .invokestatic 240, 3), (8, .ifCond .eq 9, 3), (11, .aload_n 0, 1), (12, .iconst 2, 1), (13, .invokevirtual 214, 3)] := dz_sg _ 0 (by decide +kernel)
theorem dX8_readOnce_0 : decode cX8_readOnce 0 = .ok (.aload_n 0, 1) := sdX8_readOnce_0.1
theorem dX8_readOnce_1 : decode cX8_readOnce 1 = .ok (.getfield 243, 3) := sdX8_readOnce_0.2.1
theorem dX8_readOnce_4 : decode cX8_readOnce 4 = .ok (.iload_n 1, 1) := sdX8_readOnce_0.2.2.1
theorem dX8_readOnce_5 : decode cX8_readOnce 5 = .ok (.invokestatic 240, 3) := sdX8_readOnce_0.2.2.2.1
theorem dX8_readOnce_8 : decode cX8_readOnce 8 = .ok (.ifCond .eq 9, 3) := sdX8_readOnce_0.2.2.2.2.1
theorem dX8_readOnce_11 : decode cX8_readOnce 11 = .ok (.aload_n 0, 1) := sdX8_readOnce_0.2.2.2.2.2.1
theorem dX8_readOnce_12 : decode cX8_readOnce 12 = .ok (.iconst 2, 1) := sdX8_readOnce_0.2.2.2.2.2.2.1
theorem dX8_readOnce_13 : decode cX8_readOnce 13 = .ok (.invokevirtual 214, 3) := sdX8_readOnce_0.2.2.2.2.2.2.2.1
theorem sdX8_readOnce_16 : dz_Seg cX8_readOnce [(16, .ireturn, 1), (17, .aload_n 0, 1), (18, .dup, 1), (19, .getfield 243, 3), (22, .iconst 1, 1), (23, .iload_n 1, 1), (24, .ishl, 1), (25, .ior, 1)] := dz_sg _ 16 (by decide +kernel)
theorem dX8_readOnce_16 : decode cX8_readOnce 16 = .ok (.ireturn, 1) := sdX8_readOnce_16.1
theorem dX8_readOnce_17 : decode cX8_readOnce 17 = .ok (.aload_n 0, 1) := sdX8_readOnce_16.2.1
theorem dX8_readOnce_18 : decode cX8_readOnce 18 = .ok (.dup, 1) := sdX8_readOnce_16.2.2.1
theorem dX8_readOnce_19 : decode cX8_readOnce 19 = .ok (.getfield 243, 3) := sdX8_readOnce_16.2.2.2.1
theorem dX8_readOnce_22 : decode cX8_readOnce 22 = .ok (.iconst 1, 1) := sdX8_readOnce_16.2.2.2.2.1
theorem dX8_readOnce_23 : decode cX8_readOnce 23 = .ok (.iload_n 1, 1) := sdX8_readOnce_16.2.2.2.2.2.1
theorem dX8_readOnce_24 : decode cX8_readOnce 24 = .ok (.ishl, 1) := sdX8_readOnce_16.2.2.2.2.2.2.1
theorem dX8_readOnce_25 : decode cX8_readOnce 25 = .ok (.ior, 1) := sdX8_readOnce_16.2.2.2.2.2.2.2.1
theorem sdX8_readOnce_26 : dz_Seg cX8_readOnce [(26, .putfield 243, 3), (29, .aload_n 0, 1), (30, .invokevirtual 220, 3), (33, .pop, 1), (34, .iload_n 1, 1), (35, .iconst 5, 1), (36, .if_icmp .ne 46, 3), (39, .aload_n 0, 1)] := dz_sg _ 26 (by decide +kernel)
theorem dX8_readOnce_26 : decode cX8_readOnce 26 = .ok (.putfield 243, 3) := sdX8_readOnce_26.1
theorem dX8_readOnce_29 : decode cX8_readOnce 29 = .ok (.aload_n 0, 1) := sdX8_readOnce_26.2.1
theorem dX8_readOnce_30 : decode cX8_readOnce 30 = .ok (.invokevirtual 220, 3) := sdX8_readOnce_26.2.2.1
theorem dX8_readOnce_33 : decode cX8_readOnce 33 = .ok (.pop, 1) := sdX8_readOnce_26.2.2.2.1
theorem dX8_readOnce_34 : decode cX8_readOnce 34 = .ok (.iload_n 1, 1) := sdX8_readOnce_26.2.2.2.2.1
theorem dX8_readOnce_35 : decode cX8_readOnce 35 = .ok (.iconst 5, 1) := sdX8_readOnce_26.2.2.2.2.2.1
theorem dX8_readOnce_36 : decode cX8_readOnce 36 = .ok (.if_icmp .ne 46, 3) := sdX8_readOnce_26.2.2.2.2.2.2.1
theorem dX8_readOnce_39 : decode cX8_readOnce 39 = .ok (.aload_n 0, 1) := sdX8_readOnce_26.2.2.2.2.2.2.2.1
theorem sdX8_readOnce_40 : dz_Seg cX8_readOnce [(40, .getfield 160, 3), (43, .iconst 2, 1), (44, .if_icmp .ne 12, 3), (47, .aload_n 0, 1), (48, .ldc 246, 2), (50, .invokevirtual 175, 3), (53, .goto 4, 3), (56, .iconst (-1), 1)] := dz_sg _ 40 (by decide +kernel)
theorem dX8_readOnce_40 : decode cX8_readOnce 40 = .ok (.getfield 160, 3) := sdX8_readOnce_40.1
theorem dX8_readOnce_43 : decode cX8_readOnce 43 = .ok (.iconst 2, 1) := sdX8_readOnce_40.2.1
theorem dX8_readOnce_44 : decode cX8_readOnce 44 = .ok (.if_icmp .ne 12, 3) := sdX8_readOnce_40.2.2.1
theorem dX8_readOnce_47 : decode cX8_readOnce 47 = .ok (.aload_n 0, 1) := sdX8_readOnce_40.2.2.2.1
theorem dX8_readOnce_48 : decode cX8_readOnce 48 = .ok (.ldc 246, 2) := sdX8_readOnce_40.2.2.2.2.1
theorem dX8_readOnce_50 : decode cX8_readOnce 50 = .ok (.invokevirtual 175, 3) := sdX8_readOnce_40.2.2.2.2.2.1
theorem dX8_readOnce_53 : decode cX8_readOnce 53 = .ok (.goto 4, 3) := sdX8_readOnce_40.2.2.2.2.2.2.1
theorem dX8_readOnce_56 : decode cX8_readOnce 56 = .ok (.iconst (-1), 1) := sdX8_readOnce_40.2.2.2.2.2.2.2.1
theorem sdX8_readOnce_57 : dz_Seg cX8_readOnce [(57, .istore_n 2, 1), (58, .iload_n 2, 1), (59, .iconst (-1), 1), (60, .if_icmp .ne 9, 3), (63, .aload_n 0, 1), (64, .iconst 2, 1), (65, .invokevirtual 214, 3), (68, .ireturn, 1)] := dz_sg _ 57 (by decide +kernel)
theorem dX8_readOnce_57 : decode cX8_readOnce 57 = .ok (.istore_n 2, 1) := sdX8_readOnce_57.1
theorem dX8_readOnce_58 : decode cX8_readOnce 58 = .ok (.iload_n 2, 1) := sdX8_readOnce_57.2.1
theorem dX8_readOnce_59 : decode cX8_readOnce 59 = .ok (.iconst (-1), 1) := sdX8_readOnce_57.2.2.1
theorem dX8_readOnce_60 : decode cX8_readOnce 60 = .ok (.if_icmp .ne 9, 3) := sdX8_readOnce_57.2.2.2.1
theorem dX8_readOnce_63 : decode cX8_readOnce 63 = .ok (.aload_n 0, 1) := sdX8_readOnce_57.2.2.2.2.1
theorem dX8_readOnce_64 : decode cX8_readOnce 64 = .ok (.iconst 2, 1) := sdX8_readOnce_57.2.2.2.2.2.1
theorem dX8_readOnce_65 : decode cX8_readOnce 65 = .ok (.invokevirtual 214, 3) := sdX8_readOnce_57.2.2.2.2.2.2.1
theorem dX8_readOnce_68 : decode cX8_readOnce 68 = .ok (.ireturn, 1) := sdX8_readOnce_57.2.2.2.2.2.2.2.1
theorem sdX8_readOnce_69 : dz_Seg cX8_readOnce [(69, .aload_n 0, 1), (70, .getfield 13, 3), (73, .bipush 67, 2), (75, .iload_n 2, 1), (76, .iastore, 1), (77, .aload_n 0, 1), (78, .invokevirtual 220, 3), (81, .ireturn, 1)] := dz_sg _ 69 (by decide +kernel)
theorem dX8_readOnce_69 : decode cX8_readOnce 69 = .ok (.aload_n 0, 1) := sdX8_readOnce_69.1
theorem dX8_readOnce_70 : decode cX8_readOnce 70 = .ok (.getfield 13, 3) := sdX8_readOnce_69.2.1
theorem dX8_readOnce_73 : decode cX8_readOnce 73 = .ok (.bipush 67, 2) := sdX8_readOnce_69.2.2.1
theorem dX8_readOnce_75 : decode cX8_readOnce 75 = .ok (.iload_n 2, 1) := sdX8_readOnce_69.2.2.2.1
theorem dX8_readOnce_76 : decode cX8_readOnce 76 = .ok (.iastore, 1) := sdX8_readOnce_69.2.2.2.2.1
theorem dX8_readOnce_77 : decode cX8_readOnce 77 = .ok (.aload_n 0, 1) := sdX8_readOnce_69.2.2.2.2.2.1
theorem dX8_readOnce_78 : decode cX8_readOnce 78 = .ok (.invokevirtual 220, 3) := sdX8_readOnce_69.2.2.2.2.2.2.1
theorem dX8_readOnce_81 : decode cX8_readOnce 81 = .ok (.ireturn, 1) := sdX8_readOnce_69.2.2.2.2.2.2.2.1
theorem sdX8_readOnce_82 : dz_Seg cX8_readOnce [(82, .aload_n 0, 1), (83, .iconst 0, 1), (84, .bipush 100, 2), (86, .invokevirtual 236, 3), (89, .ifCond .ne 5, 3), (92, .iconst 0, 1), (93, .ireturn, 1), (94, .aload_n 0, 1)] := dz_sg _ 82 (by decide +kernel)
theorem dX8_readOnce_82 : decode cX8_readOnce 82 = .ok (.aload_n 0, 1) := sdX8_readOnce_82.1
theorem dX8_readOnce_83 : decode cX8_readOnce 83 = .ok (.iconst 0, 1) := sdX8_readOnce_82.2.1
theorem dX8_readOnce_84 : decode cX8_readOnce 84 = .ok (.bipush 100, 2) := sdX8_readOnce_82.2.2.1
theorem dX8_readOnce_86 : decode cX8_readOnce 86 = .ok (.invokevirtual 236, 3) := sdX8_readOnce_82.2.2.2.1
theorem dX8_readOnce_89 : decode cX8_readOnce 89 = .ok (.ifCond .ne 5, 3) := sdX8_readOnce_82.2.2.2.2.1
theorem dX8_readOnce_92 : decode cX8_readOnce 92 = .ok (.iconst 0, 1) := sdX8_readOnce_82.2.2.2.2.2.1
theorem dX8_readOnce_93 : decode cX8_readOnce 93 = .ok (.ireturn, 1) := sdX8_readOnce_82.2.2.2.2.2.2.1
theorem dX8_readOnce_94 : decode cX8_readOnce 94 = .ok (.aload_n 0, 1) := sdX8_readOnce_82.2.2.2.2.2.2.2.1
theorem sdX8_readOnce_95 : dz_Seg cX8_readOnce [(95, .getfield 13, 3), (98, .iload_n 1, 1), (99, .bipush 6, 2), (101, .if_icmp .ne 8, 3), (104, .bipush 68, 2), (106, .goto 5, 3), (109, .bipush 69, 2), (111, .aload_n 0, 1)] := dz_sg _ 95 (by decide +kernel)
theorem dX8_readOnce_95 : decode cX8_readOnce 95 = .ok (.getfield 13, 3) := sdX8_readOnce_95.1
theorem dX8_readOnce_98 : decode cX8_readOnce 98 = .ok (.iload_n 1, 1) := sdX8_readOnce_95.2.1
theorem dX8_readOnce_99 : decode cX8_readOnce 99 = .ok (.bipush 6, 2) := sdX8_readOnce_95.2.2.1
theorem dX8_readOnce_101 : decode cX8_readOnce 101 = .ok (.if_icmp .ne 8, 3) := sdX8_readOnce_95.2.2.2.1
theorem dX8_readOnce_104 : decode cX8_readOnce 104 = .ok (.bipush 68, 2) := sdX8_readOnce_95.2.2.2.2.1
theorem dX8_readOnce_106 : decode cX8_readOnce 106 = .ok (.goto 5, 3) := sdX8_readOnce_95.2.2.2.2.2.1
theorem dX8_readOnce_109 : decode cX8_readOnce 109 = .ok (.bipush 69, 2) := sdX8_readOnce_95.2.2.2.2.2.2.1
theorem dX8_readOnce_111 : decode cX8_readOnce 111 = .ok (.aload_n 0, 1) := sdX8_readOnce_95.2.2.2.2.2.2.2.1
theorem sdX8_readOnce_112 : dz_Seg cX8_readOnce [(112, .getfield 217, 3), (115, .iastore, 1), (116, .iconst 1, 1), (117, .ireturn, 1)] := dz_sg _ 112 (by decide +kernel)
theorem dX8_readOnce_112 : decode cX8_readOnce 112 = .ok (.getfield 217, 3) := sdX8_readOnce_112.1
theorem dX8_readOnce_115 : decode cX8_readOnce 115 = .ok (.iastore, 1) := sdX8_readOnce_112.2.1
theorem dX8_readOnce_116 : decode cX8_readOnce 116 = .ok (.iconst 1, 1) := sdX8_readOnce_112.2.2.1
theorem dX8_readOnce_117 : decode cX8_readOnce 117 = .ok (.ireturn, 1) := sdX8_readOnce_112.2.2.2.1
theorem sdX8_readLine_0 : dz_Seg cX8_readLine [(0, .aload_n 0, 1), (1, .getfield 160, 3), (4, .iconst 2, 1), (5, .if_icmp .ne 10, 3), (8, .aload_n 0, 1), (9, .getfield 157, 3), (12, .goto 4, 3), (15, .iconst (-1), 1)] := dz_sg _ 0 (by decide +kernel)
theorem dX8_readLine_0 : decode cX8_readLine 0 = .ok (.aload_n 0, 1) := sdX8_readLine_0.1
theorem dX8_readLine_1 : decode cX8_readLine 1 = .ok (.getfield 160, 3) := sdX8_readLine_0.2.1
theorem dX8_readLine_4 : decode cX8_readLine 4 = .ok (.iconst 2, 1) := sdX8_readLine_0.2.2.1
theorem dX8_readLine_5 : decode cX8_readLine 5 = .ok (.if_icmp .ne 10, 3) := sdX8_readLine_0.2.2.2.1
theorem dX8_readLine_8 : decode cX8_readLine 8 = .ok (.aload_n 0, 1) := sdX8_readLine_0.2.2.2.2.1
theorem dX8_readLine_9 : decode cX8_readLine 9 = .ok (.getfield 157, 3) := sdX8_readLine_0.2.2.2.2.2.1
theorem dX8_readLine_12 : decode cX8_readLine 12 = .ok (.goto 4, 3) := sdX8_readLine_0.2.2.2.2.2.2.1
theorem dX8_readLine_15 : decode cX8_readLine 15 = .ok (.iconst (-1), 1) := sdX8_readLine_0.2.2.2.2.2.2.2.1
theorem dX8_readLine_16 : decode cX8_readLine 16 = .ok (.tableswitch 92 0 7 #[48, 56, 92, 64, 72, 80, 80, 80], 48) := by decide +kernel
theorem sdX8_readLine_64 : dz_Seg cX8_readLine [(64, .aload_n 0, 1), (65, .invokevirtual 248, 3), (68, .istore_n 1, 1), (69, .goto 45, 3), (72, .aload_n 0, 1), (73, .invokevirtual 251, 3), (76, .istore_n 1, 1), (77, .goto 37, 3)] := dz_sg _ 64 (by decide +kernel)
theorem dX8_readLine_64 : decode cX8_readLine 64 = .ok (.aload_n 0, 1) := sdX8_readLine_64.1
theorem dX8_readLine_65 : decode cX8_readLine 65 = .ok (.invokevirtual 248, 3) := sdX8_readLine_64.2.1
theorem dX8_readLine_68 : decode cX8_readLine 68 = .ok (.istore_n 1, 1) := sdX8_readLine_64.2.2.1
theorem dX8_readLine_69 : decode cX8_readLine 69 = .ok (.goto 45, 3) := sdX8_readLine_64.2.2.2.1
theorem dX8_readLine_72 : decode cX8_readLine 72 = .ok (.aload_n 0, 1) := sdX8_readLine_64.2.2.2.2.1
theorem dX8_readLine_73 : decode cX8_readLine 73 = .ok (.invokevirtual 251, 3) := sdX8_readLine_64.2.2.2.2.2.1
theorem dX8_readLine_76 : decode cX8_readLine 76 = .ok (.istore_n 1, 1) := sdX8_readLine_64.2.2.2.2.2.2.1
theorem dX8_readLine_77 : decode cX8_readLine 77 = .ok (.goto 37, 3) := sdX8_readLine_64.2.2.2.2.2.2.2.1
theorem sdX8_readLine_80 : dz_Seg cX8_readLine [(80, .aload_n 0, 1), (81, .invokevirtual 254, 3), (84, .istore_n 1, 1), (85, .goto 29, 3), (88, .aload_n 0, 1), (89, .invokevirtual 257, 3), (92, .istore_n 1, 1), (93, .goto 21, 3)] := dz_sg _ 80 (by decide +kernel)
theorem dX8_readLine_80 : decode cX8_readLine 80 = .ok (.aload_n 0, 1) := sdX8_readLine_80.1
theorem dX8_readLine_81 : decode cX8_readLine 81 = .ok (.invokevirtual 254, 3) := sdX8_readLine_80.2.1
theorem dX8_readLine_84 : decode cX8_readLine 84 = .ok (.istore_n 1, 1) := sdX8_readLine_80.2.2.1
theorem dX8_readLine_85 : decode cX8_readLine 85 = .ok (.goto 29, 3) := sdX8_readLine_80.2.2.2.1
theorem dX8_readLine_88 : decode cX8_readLine 88 = .ok (.aload_n 0, 1) := sdX8_readLine_80.2.2.2.2.1
theorem dX8_readLine_89 : decode cX8_readLine 89 = .ok (.invokevirtual 257, 3) := sdX8_readLine_80.2.2.2.2.2.1
theorem dX8_readLine_92 : decode cX8_readLine 92 = .ok (.istore_n 1, 1) := sdX8_readLine_80.2.2.2.2.2.2.1
theorem dX8_readLine_93 : decode cX8_readLine 93 = .ok (.goto 21, 3) := sdX8_readLine_80.2.2.2.2.2.2.2.1
theorem sdX8_readLine_96 : dz_Seg cX8_readLine [(96, .aload_n 0, 1), (97, .aload_n 0, 1), (98, .getfield 157, 3), (101, .invokevirtual 260, 3), (104, .istore_n 1, 1), (105, .goto 9, 3), (108, .aload_n 0, 1), (109, .iconst 2, 1)] := dz_sg _ 96 (by decide +kernel)
theorem dX8_readLine_96 : decode cX8_readLine 96 = .ok (.aload_n 0, 1) := sdX8_readLine_96.1
theorem dX8_readLine_97 : decode cX8_readLine 97 = .ok (.aload_n 0, 1) := sdX8_readLine_96.2.1
theorem dX8_readLine_98 : decode cX8_readLine 98 = .ok (.getfield 157, 3) := sdX8_readLine_96.2.2.1
theorem dX8_readLine_101 : decode cX8_readLine 101 = .ok (.invokevirtual 260, 3) := sdX8_readLine_96.2.2.2.1
theorem dX8_readLine_104 : decode cX8_readLine 104 = .ok (.istore_n 1, 1) := sdX8_readLine_96.2.2.2.2.1
theorem dX8_readLine_105 : decode cX8_readLine 105 = .ok (.goto 9, 3) := sdX8_readLine_96.2.2.2.2.2.1
theorem dX8_readLine_108 : decode cX8_readLine 108 = .ok (.aload_n 0, 1) := sdX8_readLine_96.2.2.2.2.2.2.1
theorem dX8_readLine_109 : decode cX8_readLine 109 = .ok (.iconst 2, 1) := sdX8_readLine_96.2.2.2.2.2.2.2.1
theorem sdX8_readLine_110 : dz_Seg cX8_readLine [(110, .invokevirtual 214, 3), (113, .ireturn, 1), (114, .iload_n 1, 1), (115, .ifCond .ne 5, 3), (118, .iconst 0, 1), (119, .ireturn, 1), (120, .aload_n 0, 1), (121, .getfield 160, 3)] := dz_sg _ 110 (by decide +kernel)
theorem dX8_readLine_110 : decode cX8_readLine 110 = .ok (.invokevirtual 214, 3) := sdX8_readLine_110.1
theorem dX8_readLine_113 : decode cX8_readLine 113 = .ok (.ireturn, 1) := sdX8_readLine_110.2.1
theorem dX8_readLine_114 : decode cX8_readLine 114 = .ok (.iload_n 1, 1) := sdX8_readLine_110.2.2.1
theorem dX8_readLine_115 : decode cX8_readLine 115 = .ok (.ifCond .ne 5, 3) := sdX8_readLine_110.2.2.2.1
theorem dX8_readLine_118 : decode cX8_readLine 118 = .ok (.iconst 0, 1) := sdX8_readLine_110.2.2.2.2.1
theorem dX8_readLine_119 : decode cX8_readLine 119 = .ok (.ireturn, 1) := sdX8_readLine_110.2.2.2.2.2.1
theorem dX8_readLine_120 : decode cX8_readLine 120 = .ok (.aload_n 0, 1) := sdX8_readLine_110.2.2.2.2.2.2.1
theorem dX8_readLine_121 : decode cX8_readLine 121 = .ok (.getfield 160, 3) := sdX8_readLine_110.2.2.2.2.2.2.2.1
theorem sdX8_readLine_124 : dz_Seg cX8_readLine [(124, .iconst 4, 1), (125, .if_icmp .ne 10, 3), (128, .aload_n 0, 1), (129, .invokevirtual 220, 3), (132, .goto 8, 3), (135, .aload_n 0, 1), (136, .iconst 2, 1), (137, .invokevirtual 214, 3)] := dz_sg _ 124 (by decide +kernel)
theorem dX8_readLine_124 : decode cX8_readLine 124 = .ok (.iconst 4, 1) := sdX8_readLine_124.1
theorem dX8_readLine_125 : decode cX8_readLine 125 = .ok (.if_icmp .ne 10, 3) := sdX8_readLine_124.2.1
theorem dX8_readLine_128 : decode cX8_readLine 128 = .ok (.aload_n 0, 1) := sdX8_readLine_124.2.2.1
theorem dX8_readLine_129 : decode cX8_readLine 129 = .ok (.invokevirtual 220, 3) := sdX8_readLine_124.2.2.2.1
theorem dX8_readLine_132 : decode cX8_readLine 132 = .ok (.goto 8, 3) := sdX8_readLine_124.2.2.2.2.1
theorem dX8_readLine_135 : decode cX8_readLine 135 = .ok (.aload_n 0, 1) := sdX8_readLine_124.2.2.2.2.2.1
theorem dX8_readLine_136 : decode cX8_readLine 136 = .ok (.iconst 2, 1) := sdX8_readLine_124.2.2.2.2.2.2.1
theorem dX8_readLine_137 : decode cX8_readLine 137 = .ok (.invokevirtual 214, 3) := sdX8_readLine_124.2.2.2.2.2.2.2.1
theorem sdX8_readLine_140 : dz_Seg cX8_readLine [(140, .ireturn, 1)] := dz_sg _ 140 (by decide +kernel)
theorem dX8_readLine_140 : decode cX8_readLine 140 = .ok (.ireturn, 1) := sdX8_readLine_140.1
theorem sdX8_load_0 : dz_Seg cX8_load [(0, .iload_n 1, 1), (1, .i2l, 1), (2, .lconst 0, 1), (3, .aload_n 0, 1), (4, .getfield 137, 3), (7, .i2l, 1), (8, .invokestatic 128, 3), (11, .ifCond .ne 9, 3)] := dz_sg _ 0 (by decide +kernel)
theorem dX8_load_0 : decode cX8_load 0 = .ok (.iload_n 1, 1) := sdX8_load_0.1
theorem dX8_load_1 : decode cX8_load 1 = .ok (.i2l, 1) := sdX8_load_0.2.1
theorem dX8_load_2 : decode cX8_load 2 = .ok (.lconst 0, 1) := sdX8_load_0.2.2.1
theorem dX8_load_3 : decode cX8_load 3 = .ok (.aload_n 0, 1) := sdX8_load_0.2.2.2.1
theorem dX8_load_4 : decode cX8_load 4 = .ok (.getfield 137, 3) := sdX8_load_0.2.2.2.2.1
theorem dX8_load_7 : decode cX8_load 7 = .ok (.i2l, 1) := sdX8_load_0.2.2.2.2.2.1
theorem dX8_load_8 : decode cX8_load 8 = .ok (.invokestatic 128, 3) := sdX8_load_0.2.2.2.2.2.2.1
theorem dX8_load_11 : decode cX8_load 11 = .ok (.ifCond .ne 9, 3) := sdX8_load_0.2.2.2.2.2.2.2.1
theorem sdX8_load_14 : dz_Seg cX8_load [(14, .aload_n 0, 1), (15, .iconst 1, 1), (16, .invokevirtual 263, 3), (19, .ireturn, 1), (20, .aload_n 0, 1), (21, .iload_n 1, 1), (22, .putfield 144, 3), (25, .aload_n 0, 1)] := dz_sg _ 14 (by decide +kernel)
theorem dX8_load_14 : decode cX8_load 14 = .ok (.aload_n 0, 1) := sdX8_load_14.1
theorem dX8_load_15 : decode cX8_load 15 = .ok (.iconst 1, 1) := sdX8_load_14.2.1
theorem dX8_load_16 : decode cX8_load 16 = .ok (.invokevirtual 263, 3) := sdX8_load_14.2.2.1
theorem dX8_load_19 : decode cX8_load 19 = .ok (.ireturn, 1) := sdX8_load_14.2.2.2.1
theorem dX8_load_20 : decode cX8_load 20 = .ok (.aload_n 0, 1) := sdX8_load_14.2.2.2.2.1
theorem dX8_load_21 : decode cX8_load 21 = .ok (.iload_n 1, 1) := sdX8_load_14.2.2.2.2.2.1
theorem dX8_load_22 : decode cX8_load 22 = .ok (.putfield 144, 3) := sdX8_load_14.2.2.2.2.2.2.1
theorem dX8_load_25 : decode cX8_load 25 = .ok (.aload_n 0, 1) := sdX8_load_14.2.2.2.2.2.2.2.1
theorem sdX8_load_26 : dz_Seg cX8_load [(26, .iconst 0, 1), (27, .putfield 137, 3), (30, .aload_n 0, 1), (31, .iconst 0, 1), (32, .putfield 147, 3), (35, .aload_n 0, 1), (36, .iconst 0, 1), (37, .putfield 195, 3)] := dz_sg _ 26 (by decide +kernel)
theorem dX8_load_26 : decode cX8_load 26 = .ok (.iconst 0, 1) := sdX8_load_26.1
theorem dX8_load_27 : decode cX8_load 27 = .ok (.putfield 137, 3) := sdX8_load_26.2.1
theorem dX8_load_30 : decode cX8_load 30 = .ok (.aload_n 0, 1) := sdX8_load_26.2.2.1
theorem dX8_load_31 : decode cX8_load 31 = .ok (.iconst 0, 1) := sdX8_load_26.2.2.2.1
theorem dX8_load_32 : decode cX8_load 32 = .ok (.putfield 147, 3) := sdX8_load_26.2.2.2.2.1
theorem dX8_load_35 : decode cX8_load 35 = .ok (.aload_n 0, 1) := sdX8_load_26.2.2.2.2.2.1
theorem dX8_load_36 : decode cX8_load 36 = .ok (.iconst 0, 1) := sdX8_load_26.2.2.2.2.2.2.1
theorem dX8_load_37 : decode cX8_load 37 = .ok (.putfield 195, 3) := sdX8_load_26.2.2.2.2.2.2.2.1
theorem sdX8_load_40 : dz_Seg cX8_load [(40, .aload_n 0, 1), (41, .iconst (-1), 1), (42, .putfield 198, 3), (45, .aload_n 0, 1), (46, .iconst 0, 1), (47, .putfield 243, 3), (50, .aload_n 0, 1), (51, .iconst 0, 1)] := dz_sg _ 40 (by decide +kernel)
theorem dX8_load_40 : decode cX8_load 40 = .ok (.aload_n 0, 1) := sdX8_load_40.1
theorem dX8_load_41 : decode cX8_load 41 = .ok (.iconst (-1), 1) := sdX8_load_40.2.1
theorem dX8_load_42 : decode cX8_load 42 = .ok (.putfield 198, 3) := sdX8_load_40.2.2.1
theorem dX8_load_45 : decode cX8_load 45 = .ok (.aload_n 0, 1) := sdX8_load_40.2.2.2.1
theorem dX8_load_46 : decode cX8_load 46 = .ok (.iconst 0, 1) := sdX8_load_40.2.2.2.2.1
theorem dX8_load_47 : decode cX8_load 47 = .ok (.putfield 243, 3) := sdX8_load_40.2.2.2.2.2.1
theorem dX8_load_50 : decode cX8_load 50 = .ok (.aload_n 0, 1) := sdX8_load_40.2.2.2.2.2.2.1
theorem dX8_load_51 : decode cX8_load 51 = .ok (.iconst 0, 1) := sdX8_load_40.2.2.2.2.2.2.2.1
theorem sdX8_load_52 : dz_Seg cX8_load [(52, .putfield 201, 3), (55, .aload_n 0, 1), (56, .iconst 0, 1), (57, .putfield 208, 3), (60, .aload_n 0, 1), (61, .iconst 0, 1), (62, .putfield 211, 3), (65, .aload_n 0, 1)] := dz_sg _ 52 (by decide +kernel)
theorem dX8_load_52 : decode cX8_load 52 = .ok (.putfield 201, 3) := sdX8_load_52.1
theorem dX8_load_55 : decode cX8_load 55 = .ok (.aload_n 0, 1) := sdX8_load_52.2.1
theorem dX8_load_56 : decode cX8_load 56 = .ok (.iconst 0, 1) := sdX8_load_52.2.2.1
theorem dX8_load_57 : decode cX8_load 57 = .ok (.putfield 208, 3) := sdX8_load_52.2.2.2.1
theorem dX8_load_60 : decode cX8_load 60 = .ok (.aload_n 0, 1) := sdX8_load_52.2.2.2.2.1
theorem dX8_load_61 : decode cX8_load 61 = .ok (.iconst 0, 1) := sdX8_load_52.2.2.2.2.2.1
theorem dX8_load_62 : decode cX8_load 62 = .ok (.putfield 211, 3) := sdX8_load_52.2.2.2.2.2.2.1
theorem dX8_load_65 : decode cX8_load 65 = .ok (.aload_n 0, 1) := sdX8_load_52.2.2.2.2.2.2.2.1
theorem sdX8_load_66 : dz_Seg cX8_load [(66, .getfield 13, 3), (69, .invokestatic 115, 3), (72, .aload_n 0, 1), (73, .invokevirtual 220, 3), (76, .pop, 1), (77, .iconst 1, 1), (78, .istore_n 2, 1), (79, .iload_n 2, 1)] := dz_sg _ 66 (by decide +kernel)
theorem dX8_load_66 : decode cX8_load 66 = .ok (.getfield 13, 3) := sdX8_load_66.1
theorem dX8_load_69 : decode cX8_load 69 = .ok (.invokestatic 115, 3) := sdX8_load_66.2.1
theorem dX8_load_72 : decode cX8_load 72 = .ok (.aload_n 0, 1) := sdX8_load_66.2.2.1
theorem dX8_load_73 : decode cX8_load 73 = .ok (.invokevirtual 220, 3) := sdX8_load_66.2.2.2.1
theorem dX8_load_76 : decode cX8_load 76 = .ok (.pop, 1) := sdX8_load_66.2.2.2.2.1
theorem dX8_load_77 : decode cX8_load 77 = .ok (.iconst 1, 1) := sdX8_load_66.2.2.2.2.2.1
theorem dX8_load_78 : decode cX8_load 78 = .ok (.istore_n 2, 1) := sdX8_load_66.2.2.2.2.2.2.1
theorem dX8_load_79 : decode cX8_load 79 = .ok (.iload_n 2, 1) := sdX8_load_66.2.2.2.2.2.2.2.1
theorem sdX8_load_80 : dz_Seg cX8_load [(80, .ifCond .eq 18, 3), (83, .aload_n 0, 1), (84, .getfield 160, 3), (87, .ifCond .eq 11, 3), (90, .aload_n 0, 1), (91, .invokevirtual 266, 3), (94, .istore_n 2, 1), (95, .goto (-16), 3)] := dz_sg _ 80 (by decide +kernel)
theorem dX8_load_80 : decode cX8_load 80 = .ok (.ifCond .eq 18, 3) := sdX8_load_80.1
theorem dX8_load_83 : decode cX8_load 83 = .ok (.aload_n 0, 1) := sdX8_load_80.2.1
theorem dX8_load_84 : decode cX8_load 84 = .ok (.getfield 160, 3) := sdX8_load_80.2.2.1
theorem dX8_load_87 : decode cX8_load 87 = .ok (.ifCond .eq 11, 3) := sdX8_load_80.2.2.2.1
theorem dX8_load_90 : decode cX8_load 90 = .ok (.aload_n 0, 1) := sdX8_load_80.2.2.2.2.1
theorem dX8_load_91 : decode cX8_load 91 = .ok (.invokevirtual 266, 3) := sdX8_load_80.2.2.2.2.2.1
theorem dX8_load_94 : decode cX8_load 94 = .ok (.istore_n 2, 1) := sdX8_load_80.2.2.2.2.2.2.1
theorem dX8_load_95 : decode cX8_load 95 = .ok (.goto (-16), 3) := sdX8_load_80.2.2.2.2.2.2.2.1
theorem sdX8_load_98 : dz_Seg cX8_load [(98, .aload_n 0, 1), (99, .aload_n 0, 1), (100, .getfield 195, 3), (103, .putfield 32, 3), (106, .aload_n 0, 1), (107, .aload_n 0, 1), (108, .getfield 198, 3), (111, .putfield 36, 3)] := dz_sg _ 98 (by decide +kernel)
theorem dX8_load_98 : decode cX8_load 98 = .ok (.aload_n 0, 1) := sdX8_load_98.1
theorem dX8_load_99 : decode cX8_load 99 = .ok (.aload_n 0, 1) := sdX8_load_98.2.1
theorem dX8_load_100 : decode cX8_load 100 = .ok (.getfield 195, 3) := sdX8_load_98.2.2.1
theorem dX8_load_103 : decode cX8_load 103 = .ok (.putfield 32, 3) := sdX8_load_98.2.2.2.1
theorem dX8_load_106 : decode cX8_load 106 = .ok (.aload_n 0, 1) := sdX8_load_98.2.2.2.2.1
theorem dX8_load_107 : decode cX8_load 107 = .ok (.aload_n 0, 1) := sdX8_load_98.2.2.2.2.2.1
theorem dX8_load_108 : decode cX8_load 108 = .ok (.getfield 198, 3) := sdX8_load_98.2.2.2.2.2.2.1
theorem dX8_load_111 : decode cX8_load 111 = .ok (.putfield 36, 3) := sdX8_load_98.2.2.2.2.2.2.2.1
theorem sdX8_load_114 : dz_Seg cX8_load [(114, .iload_n 2, 1), (115, .ifCond .ne 10, 3), (118, .aload_n 0, 1), (119, .bipush 9, 2), (121, .invokevirtual 263, 3), (124, .ireturn, 1), (125, .aload_n 0, 1), (126, .getfield 13, 3)] := dz_sg _ 114 (by decide +kernel)
theorem dX8_load_114 : decode cX8_load 114 = .ok (.iload_n 2, 1) := sdX8_load_114.1
theorem dX8_load_115 : decode cX8_load 115 = .ok (.ifCond .ne 10, 3) := sdX8_load_114.2.1
theorem dX8_load_118 : decode cX8_load 118 = .ok (.aload_n 0, 1) := sdX8_load_114.2.2.1
theorem dX8_load_119 : decode cX8_load 119 = .ok (.bipush 9, 2) := sdX8_load_114.2.2.2.1
theorem dX8_load_121 : decode cX8_load 121 = .ok (.invokevirtual 263, 3) := sdX8_load_114.2.2.2.2.1
theorem dX8_load_124 : decode cX8_load 124 = .ok (.ireturn, 1) := sdX8_load_114.2.2.2.2.2.1
theorem dX8_load_125 : decode cX8_load 125 = .ok (.aload_n 0, 1) := sdX8_load_114.2.2.2.2.2.2.1
theorem dX8_load_126 : decode cX8_load 126 = .ok (.getfield 13, 3) := sdX8_load_114.2.2.2.2.2.2.2.1
theorem sdX8_load_129 : dz_Seg cX8_load [(129, .bipush 70, 2), (131, .aload_n 0, 1), (132, .getfield 211, 3), (135, .iastore, 1), (136, .iconst 0, 1), (137, .istore_n 3, 1), (138, .iload_n 3, 1), (139, .bipush 82, 2)] := dz_sg _ 129 (by decide +kernel)
theorem dX8_load_129 : decode cX8_load 129 = .ok (.bipush 70, 2) := sdX8_load_129.1
theorem dX8_load_131 : decode cX8_load 131 = .ok (.aload_n 0, 1) := sdX8_load_129.2.1
theorem dX8_load_132 : decode cX8_load 132 = .ok (.getfield 211, 3) := sdX8_load_129.2.2.1
theorem dX8_load_135 : decode cX8_load 135 = .ok (.iastore, 1) := sdX8_load_129.2.2.2.1
theorem dX8_load_136 : decode cX8_load 136 = .ok (.iconst 0, 1) := sdX8_load_129.2.2.2.2.1
theorem dX8_load_137 : decode cX8_load 137 = .ok (.istore_n 3, 1) := sdX8_load_129.2.2.2.2.2.1
theorem dX8_load_138 : decode cX8_load 138 = .ok (.iload_n 3, 1) := sdX8_load_129.2.2.2.2.2.2.1
theorem dX8_load_139 : decode cX8_load 139 = .ok (.bipush 82, 2) := sdX8_load_129.2.2.2.2.2.2.2.1
theorem sdX8_load_141 : dz_Seg cX8_load [(141, .if_icmp .ge 21, 3), (144, .aload_n 0, 1), (145, .getfield 7, 3), (148, .iload_n 3, 1), (149, .aload_n 0, 1), (150, .getfield 13, 3), (153, .iload_n 3, 1), (154, .iaload, 1)] := dz_sg _ 141 (by decide +kernel)
theorem dX8_load_141 : decode cX8_load 141 = .ok (.if_icmp .ge 21, 3) := sdX8_load_141.1
theorem dX8_load_144 : decode cX8_load 144 = .ok (.aload_n 0, 1) := sdX8_load_141.2.1
theorem dX8_load_145 : decode cX8_load 145 = .ok (.getfield 7, 3) := sdX8_load_141.2.2.1
theorem dX8_load_148 : decode cX8_load 148 = .ok (.iload_n 3, 1) := sdX8_load_141.2.2.2.1
theorem dX8_load_149 : decode cX8_load 149 = .ok (.aload_n 0, 1) := sdX8_load_141.2.2.2.2.1
theorem dX8_load_150 : decode cX8_load 150 = .ok (.getfield 13, 3) := sdX8_load_141.2.2.2.2.2.1
theorem dX8_load_153 : decode cX8_load 153 = .ok (.iload_n 3, 1) := sdX8_load_141.2.2.2.2.2.2.1
theorem dX8_load_154 : decode cX8_load 154 = .ok (.iaload, 1) := sdX8_load_141.2.2.2.2.2.2.2.1
theorem sdX8_load_155 : dz_Seg cX8_load [(155, .iastore, 1), (156, .iinc 3 1, 3), (159, .goto (-21), 3), (162, .iconst 0, 1), (163, .istore_n 3, 1), (164, .iload_n 3, 1), (165, .bipush 10, 2), (167, .if_icmp .ge 37, 3)] := dz_sg _ 155 (by decide +kernel)
theorem dX8_load_155 : decode cX8_load 155 = .ok (.iastore, 1) := sdX8_load_155.1
theorem dX8_load_156 : decode cX8_load 156 = .ok (.iinc 3 1, 3) := sdX8_load_155.2.1
theorem dX8_load_159 : decode cX8_load 159 = .ok (.goto (-21), 3) := sdX8_load_155.2.2.1
theorem dX8_load_162 : decode cX8_load 162 = .ok (.iconst 0, 1) := sdX8_load_155.2.2.2.1
theorem dX8_load_163 : decode cX8_load 163 = .ok (.istore_n 3, 1) := sdX8_load_155.2.2.2.2.1
theorem dX8_load_164 : decode cX8_load 164 = .ok (.iload_n 3, 1) := sdX8_load_155.2.2.2.2.2.1
theorem dX8_load_165 : decode cX8_load 165 = .ok (.bipush 10, 2) := sdX8_load_155.2.2.2.2.2.2.1
theorem dX8_load_167 : decode cX8_load 167 = .ok (.if_icmp .ge 37, 3) := sdX8_load_155.2.2.2.2.2.2.2.1
theorem sdX8_load_170 : dz_Seg cX8_load [(170, .aload_n 0, 1), (171, .getfield 22, 3), (174, .iload_n 3, 1), (175, .iload_n 3, 1), (176, .aload_n 0, 1), (177, .getfield 208, 3), (180, .if_icmp .ge 16, 3), (183, .aload_n 0, 1)] := dz_sg _ 170 (by decide +kernel)
theorem dX8_load_170 : decode cX8_load 170 = .ok (.aload_n 0, 1) := sdX8_load_170.1
theorem dX8_load_171 : decode cX8_load 171 = .ok (.getfield 22, 3) := sdX8_load_170.2.1
theorem dX8_load_174 : decode cX8_load 174 = .ok (.iload_n 3, 1) := sdX8_load_170.2.2.1
theorem dX8_load_175 : decode cX8_load 175 = .ok (.iload_n 3, 1) := sdX8_load_170.2.2.2.1
theorem dX8_load_176 : decode cX8_load 176 = .ok (.aload_n 0, 1) := sdX8_load_170.2.2.2.2.1
theorem dX8_load_177 : decode cX8_load 177 = .ok (.getfield 208, 3) := sdX8_load_170.2.2.2.2.2.1
theorem dX8_load_180 : decode cX8_load 180 = .ok (.if_icmp .ge 16, 3) := sdX8_load_170.2.2.2.2.2.2.1
theorem dX8_load_183 : decode cX8_load 183 = .ok (.aload_n 0, 1) := sdX8_load_170.2.2.2.2.2.2.2.1
theorem sdX8_load_184 : dz_Seg cX8_load [(184, .getfield 26, 3), (187, .iload_n 3, 1), (188, .baload, 1), (189, .ifCond .eq 7, 3), (192, .iconst 1, 1), (193, .goto 4, 3), (196, .iconst 0, 1), (197, .bastore, 1)] := dz_sg _ 184 (by decide +kernel)
theorem dX8_load_184 : decode cX8_load 184 = .ok (.getfield 26, 3) := sdX8_load_184.1
theorem dX8_load_187 : decode cX8_load 187 = .ok (.iload_n 3, 1) := sdX8_load_184.2.1
theorem dX8_load_188 : decode cX8_load 188 = .ok (.baload, 1) := sdX8_load_184.2.2.1
theorem dX8_load_189 : decode cX8_load 189 = .ok (.ifCond .eq 7, 3) := sdX8_load_184.2.2.2.1
theorem dX8_load_192 : decode cX8_load 192 = .ok (.iconst 1, 1) := sdX8_load_184.2.2.2.2.1
theorem dX8_load_193 : decode cX8_load 193 = .ok (.goto 4, 3) := sdX8_load_184.2.2.2.2.2.1
theorem dX8_load_196 : decode cX8_load 196 = .ok (.iconst 0, 1) := sdX8_load_184.2.2.2.2.2.2.1
theorem dX8_load_197 : decode cX8_load 197 = .ok (.bastore, 1) := sdX8_load_184.2.2.2.2.2.2.2.1
theorem sdX8_load_198 : dz_Seg cX8_load [(198, .iinc 3 1, 3), (201, .goto (-37), 3), (204, .aload_n 0, 1), (205, .aload_n 0, 1), (206, .getfield 201, 3), (209, .putfield 125, 3), (212, .aload_n 0, 1), (213, .aload_n 0, 1)] := dz_sg _ 198 (by decide +kernel)
theorem dX8_load_198 : decode cX8_load 198 = .ok (.iinc 3 1, 3) := sdX8_load_198.1
theorem dX8_load_201 : decode cX8_load 201 = .ok (.goto (-37), 3) := sdX8_load_198.2.1
theorem dX8_load_204 : decode cX8_load 204 = .ok (.aload_n 0, 1) := sdX8_load_198.2.2.1
theorem dX8_load_205 : decode cX8_load 205 = .ok (.aload_n 0, 1) := sdX8_load_198.2.2.2.1
theorem dX8_load_206 : decode cX8_load 206 = .ok (.getfield 201, 3) := sdX8_load_198.2.2.2.2.1
theorem dX8_load_209 : decode cX8_load 209 = .ok (.putfield 125, 3) := sdX8_load_198.2.2.2.2.2.1
theorem dX8_load_212 : decode cX8_load 212 = .ok (.aload_n 0, 1) := sdX8_load_198.2.2.2.2.2.2.1
theorem dX8_load_213 : decode cX8_load 213 = .ok (.aload_n 0, 1) := sdX8_load_198.2.2.2.2.2.2.2.1
theorem sdX8_load_214 : dz_Seg cX8_load [(214, .getfield 208, 3), (217, .putfield 132, 3), (220, .aload_n 0, 1), (221, .iconst 0, 1), (222, .putfield 269, 3), (225, .aload_n 0, 1), (226, .aload_n 0, 1), (227, .getfield 132, 3)] := dz_sg _ 214 (by decide +kernel)
theorem dX8_load_214 : decode cX8_load 214 = .ok (.getfield 208, 3) := sdX8_load_214.1
theorem dX8_load_217 : decode cX8_load 217 = .ok (.putfield 132, 3) := sdX8_load_214.2.1
theorem dX8_load_220 : decode cX8_load 220 = .ok (.aload_n 0, 1) := sdX8_load_214.2.2.1
theorem dX8_load_221 : decode cX8_load 221 = .ok (.iconst 0, 1) := sdX8_load_214.2.2.2.1
theorem dX8_load_222 : decode cX8_load 222 = .ok (.putfield 269, 3) := sdX8_load_214.2.2.2.2.1
theorem dX8_load_225 : decode cX8_load 225 = .ok (.aload_n 0, 1) := sdX8_load_214.2.2.2.2.2.1
theorem dX8_load_226 : decode cX8_load 226 = .ok (.aload_n 0, 1) := sdX8_load_214.2.2.2.2.2.2.1
theorem dX8_load_227 : decode cX8_load 227 = .ok (.getfield 132, 3) := sdX8_load_214.2.2.2.2.2.2.2.1
theorem sdX8_load_230 : dz_Seg cX8_load [(230, .invokevirtual 272, 3), (233, .ireturn, 1)] := dz_sg _ 230 (by decide +kernel)
theorem dX8_load_230 : decode cX8_load 230 = .ok (.invokevirtual 272, 3) := sdX8_load_230.1
theorem dX8_load_233 : decode cX8_load 233 = .ok (.ireturn, 1) := sdX8_load_230.2.1
theorem sdX8_fault_0 : dz_Seg cX8_fault [(0, .aload_n 0, 1), (1, .iconst 0, 1), (2, .putfield 119, 3), (5, .iload_n 1, 1), (6, .ifCond .ne 10, 3), (9, .aload_n 0, 1), (10, .getfield 32, 3), (13, .goto 16, 3)] := dz_sg _ 0 (by decide +kernel)
theorem dX8_fault_0 : decode cX8_fault 0 = .ok (.aload_n 0, 1) := sdX8_fault_0.1
theorem dX8_fault_1 : decode cX8_fault 1 = .ok (.iconst 0, 1) := sdX8_fault_0.2.1
theorem dX8_fault_2 : decode cX8_fault 2 = .ok (.putfield 119, 3) := sdX8_fault_0.2.2.1
theorem dX8_fault_5 : decode cX8_fault 5 = .ok (.iload_n 1, 1) := sdX8_fault_0.2.2.2.1
theorem dX8_fault_6 : decode cX8_fault 6 = .ok (.ifCond .ne 10, 3) := sdX8_fault_0.2.2.2.2.1
theorem dX8_fault_9 : decode cX8_fault 9 = .ok (.aload_n 0, 1) := sdX8_fault_0.2.2.2.2.2.1
theorem dX8_fault_10 : decode cX8_fault 10 = .ok (.getfield 32, 3) := sdX8_fault_0.2.2.2.2.2.2.1
theorem dX8_fault_13 : decode cX8_fault 13 = .ok (.goto 16, 3) := sdX8_fault_0.2.2.2.2.2.2.2.1
theorem sdX8_fault_16 : dz_Seg cX8_fault [(16, .iload_n 1, 1), (17, .iconst 1, 1), (18, .if_icmp .ne 10, 3), (21, .aload_n 0, 1), (22, .getfield 36, 3), (25, .goto 4, 3), (28, .iconst (-1), 1), (29, .ireturn, 1)] := dz_sg _ 16 (by decide +kernel)
theorem dX8_fault_16 : decode cX8_fault 16 = .ok (.iload_n 1, 1) := sdX8_fault_16.1
theorem dX8_fault_17 : decode cX8_fault 17 = .ok (.iconst 1, 1) := sdX8_fault_16.2.1
theorem dX8_fault_18 : decode cX8_fault 18 = .ok (.if_icmp .ne 10, 3) := sdX8_fault_16.2.2.1
theorem dX8_fault_21 : decode cX8_fault 21 = .ok (.aload_n 0, 1) := sdX8_fault_16.2.2.2.1
theorem dX8_fault_22 : decode cX8_fault 22 = .ok (.getfield 36, 3) := sdX8_fault_16.2.2.2.2.1
theorem dX8_fault_25 : decode cX8_fault 25 = .ok (.goto 4, 3) := sdX8_fault_16.2.2.2.2.2.1
theorem dX8_fault_28 : decode cX8_fault 28 = .ok (.iconst (-1), 1) := sdX8_fault_16.2.2.2.2.2.2.1
theorem dX8_fault_29 : decode cX8_fault 29 = .ok (.ireturn, 1) := sdX8_fault_16.2.2.2.2.2.2.2.1
theorem sdX8_laysApplicants_0 : dz_Seg cX8_laysApplicants [(0, .aload_n 0, 1), (1, .iconst 0, 1), (2, .putfield 275, 3), (5, .iconst 0, 1), (6, .istore_n 1, 1), (7, .iload_n 1, 1), (8, .aload_n 0, 1), (9, .getfield 132, 3)] := dz_sg _ 0 (by decide +kernel)
theorem dX8_laysApplicants_0 : decode cX8_laysApplicants 0 = .ok (.aload_n 0, 1) := sdX8_laysApplicants_0.1
theorem dX8_laysApplicants_1 : decode cX8_laysApplicants 1 = .ok (.iconst 0, 1) := sdX8_laysApplicants_0.2.1
theorem dX8_laysApplicants_2 : decode cX8_laysApplicants 2 = .ok (.putfield 275, 3) := sdX8_laysApplicants_0.2.2.1
theorem dX8_laysApplicants_5 : decode cX8_laysApplicants 5 = .ok (.iconst 0, 1) := sdX8_laysApplicants_0.2.2.2.1
theorem dX8_laysApplicants_6 : decode cX8_laysApplicants 6 = .ok (.istore_n 1, 1) := sdX8_laysApplicants_0.2.2.2.2.1
theorem dX8_laysApplicants_7 : decode cX8_laysApplicants 7 = .ok (.iload_n 1, 1) := sdX8_laysApplicants_0.2.2.2.2.2.1
theorem dX8_laysApplicants_8 : decode cX8_laysApplicants 8 = .ok (.aload_n 0, 1) := sdX8_laysApplicants_0.2.2.2.2.2.2.1
theorem dX8_laysApplicants_9 : decode cX8_laysApplicants 9 = .ok (.getfield 132, 3) := sdX8_laysApplicants_0.2.2.2.2.2.2.2.1
theorem sdX8_laysApplicants_12 : dz_Seg cX8_laysApplicants [(12, .if_icmp .ge 72, 3), (15, .aload_n 0, 1), (16, .getfield 7, 3), (19, .bipush 10, 2), (21, .iload_n 1, 1), (22, .iadd, 1), (23, .iaload, 1), (24, .iconst (-1), 1)] := dz_sg _ 12 (by decide +kernel)
theorem dX8_laysApplicants_12 : decode cX8_laysApplicants 12 = .ok (.if_icmp .ge 72, 3) := sdX8_laysApplicants_12.1
theorem dX8_laysApplicants_15 : decode cX8_laysApplicants 15 = .ok (.aload_n 0, 1) := sdX8_laysApplicants_12.2.1
theorem dX8_laysApplicants_16 : decode cX8_laysApplicants 16 = .ok (.getfield 7, 3) := sdX8_laysApplicants_12.2.2.1
theorem dX8_laysApplicants_19 : decode cX8_laysApplicants 19 = .ok (.bipush 10, 2) := sdX8_laysApplicants_12.2.2.2.1
theorem dX8_laysApplicants_21 : decode cX8_laysApplicants 21 = .ok (.iload_n 1, 1) := sdX8_laysApplicants_12.2.2.2.2.1
theorem dX8_laysApplicants_22 : decode cX8_laysApplicants 22 = .ok (.iadd, 1) := sdX8_laysApplicants_12.2.2.2.2.2.1
theorem dX8_laysApplicants_23 : decode cX8_laysApplicants 23 = .ok (.iaload, 1) := sdX8_laysApplicants_12.2.2.2.2.2.2.1
theorem dX8_laysApplicants_24 : decode cX8_laysApplicants 24 = .ok (.iconst (-1), 1) := sdX8_laysApplicants_12.2.2.2.2.2.2.2.1
theorem sdX8_laysApplicants_25 : dz_Seg cX8_laysApplicants [(25, .if_icmp .eq 6, 3), (28, .goto 50, 3), (31, .aload_n 0, 1), (32, .getfield 49, 3), (35, .aload_n 0, 1), (36, .getfield 275, 3), (39, .iconst 1, 1), (40, .iload_n 1, 1)] := dz_sg _ 25 (by decide +kernel)
theorem dX8_laysApplicants_25 : decode cX8_laysApplicants 25 = .ok (.if_icmp .eq 6, 3) := sdX8_laysApplicants_25.1
theorem dX8_laysApplicants_28 : decode cX8_laysApplicants 28 = .ok (.goto 50, 3) := sdX8_laysApplicants_25.2.1
theorem dX8_laysApplicants_31 : decode cX8_laysApplicants 31 = .ok (.aload_n 0, 1) := sdX8_laysApplicants_25.2.2.1
theorem dX8_laysApplicants_32 : decode cX8_laysApplicants 32 = .ok (.getfield 49, 3) := sdX8_laysApplicants_25.2.2.2.1
theorem dX8_laysApplicants_35 : decode cX8_laysApplicants 35 = .ok (.aload_n 0, 1) := sdX8_laysApplicants_25.2.2.2.2.1
theorem dX8_laysApplicants_36 : decode cX8_laysApplicants 36 = .ok (.getfield 275, 3) := sdX8_laysApplicants_25.2.2.2.2.2.1
theorem dX8_laysApplicants_39 : decode cX8_laysApplicants 39 = .ok (.iconst 1, 1) := sdX8_laysApplicants_25.2.2.2.2.2.2.1
theorem dX8_laysApplicants_40 : decode cX8_laysApplicants 40 = .ok (.iload_n 1, 1) := sdX8_laysApplicants_25.2.2.2.2.2.2.2.1
theorem sdX8_laysApplicants_41 : dz_Seg cX8_laysApplicants [(41, .ishl, 1), (42, .iastore, 1), (43, .aload_n 0, 1), (44, .getfield 52, 3), (47, .aload_n 0, 1), (48, .getfield 275, 3), (51, .iconst (-1), 1), (52, .iastore, 1)] := dz_sg _ 41 (by decide +kernel)
theorem dX8_laysApplicants_41 : decode cX8_laysApplicants 41 = .ok (.ishl, 1) := sdX8_laysApplicants_41.1
theorem dX8_laysApplicants_42 : decode cX8_laysApplicants 42 = .ok (.iastore, 1) := sdX8_laysApplicants_41.2.1
theorem dX8_laysApplicants_43 : decode cX8_laysApplicants 43 = .ok (.aload_n 0, 1) := sdX8_laysApplicants_41.2.2.1
theorem dX8_laysApplicants_44 : decode cX8_laysApplicants 44 = .ok (.getfield 52, 3) := sdX8_laysApplicants_41.2.2.2.1
theorem dX8_laysApplicants_47 : decode cX8_laysApplicants 47 = .ok (.aload_n 0, 1) := sdX8_laysApplicants_41.2.2.2.2.1
theorem dX8_laysApplicants_48 : decode cX8_laysApplicants 48 = .ok (.getfield 275, 3) := sdX8_laysApplicants_41.2.2.2.2.2.1
theorem dX8_laysApplicants_51 : decode cX8_laysApplicants 51 = .ok (.iconst (-1), 1) := sdX8_laysApplicants_41.2.2.2.2.2.2.1
theorem dX8_laysApplicants_52 : decode cX8_laysApplicants 52 = .ok (.iastore, 1) := sdX8_laysApplicants_41.2.2.2.2.2.2.2.1
theorem sdX8_laysApplicants_53 : dz_Seg cX8_laysApplicants [(53, .aload_n 0, 1), (54, .getfield 55, 3), (57, .aload_n 0, 1), (58, .getfield 275, 3), (61, .bipush 20, 2), (63, .iconst 3, 1), (64, .iload_n 1, 1), (65, .imul, 1)] := dz_sg _ 53 (by decide +kernel)
theorem dX8_laysApplicants_53 : decode cX8_laysApplicants 53 = .ok (.aload_n 0, 1) := sdX8_laysApplicants_53.1
theorem dX8_laysApplicants_54 : decode cX8_laysApplicants 54 = .ok (.getfield 55, 3) := sdX8_laysApplicants_53.2.1
theorem dX8_laysApplicants_57 : decode cX8_laysApplicants 57 = .ok (.aload_n 0, 1) := sdX8_laysApplicants_53.2.2.1
theorem dX8_laysApplicants_58 : decode cX8_laysApplicants 58 = .ok (.getfield 275, 3) := sdX8_laysApplicants_53.2.2.2.1
theorem dX8_laysApplicants_61 : decode cX8_laysApplicants 61 = .ok (.bipush 20, 2) := sdX8_laysApplicants_53.2.2.2.2.1
theorem dX8_laysApplicants_63 : decode cX8_laysApplicants 63 = .ok (.iconst 3, 1) := sdX8_laysApplicants_53.2.2.2.2.2.1
theorem dX8_laysApplicants_64 : decode cX8_laysApplicants 64 = .ok (.iload_n 1, 1) := sdX8_laysApplicants_53.2.2.2.2.2.2.1
theorem dX8_laysApplicants_65 : decode cX8_laysApplicants 65 = .ok (.imul, 1) := sdX8_laysApplicants_53.2.2.2.2.2.2.2.1
theorem sdX8_laysApplicants_66 : dz_Seg cX8_laysApplicants [(66, .iadd, 1), (67, .iastore, 1), (68, .aload_n 0, 1), (69, .dup, 1), (70, .getfield 275, 3), (73, .iconst 1, 1), (74, .iadd, 1), (75, .putfield 275, 3)] := dz_sg _ 66 (by decide +kernel)
theorem dX8_laysApplicants_66 : decode cX8_laysApplicants 66 = .ok (.iadd, 1) := sdX8_laysApplicants_66.1
theorem dX8_laysApplicants_67 : decode cX8_laysApplicants 67 = .ok (.iastore, 1) := sdX8_laysApplicants_66.2.1
theorem dX8_laysApplicants_68 : decode cX8_laysApplicants 68 = .ok (.aload_n 0, 1) := sdX8_laysApplicants_66.2.2.1
theorem dX8_laysApplicants_69 : decode cX8_laysApplicants 69 = .ok (.dup, 1) := sdX8_laysApplicants_66.2.2.2.1
theorem dX8_laysApplicants_70 : decode cX8_laysApplicants 70 = .ok (.getfield 275, 3) := sdX8_laysApplicants_66.2.2.2.2.1
theorem dX8_laysApplicants_73 : decode cX8_laysApplicants 73 = .ok (.iconst 1, 1) := sdX8_laysApplicants_66.2.2.2.2.2.1
theorem dX8_laysApplicants_74 : decode cX8_laysApplicants 74 = .ok (.iadd, 1) := sdX8_laysApplicants_66.2.2.2.2.2.2.1
theorem dX8_laysApplicants_75 : decode cX8_laysApplicants 75 = .ok (.putfield 275, 3) := sdX8_laysApplicants_66.2.2.2.2.2.2.2.1
theorem sdX8_laysApplicants_78 : dz_Seg cX8_laysApplicants [(78, .iinc 1 1, 3), (81, .goto (-74), 3), (84, .iconst 0, 1), (85, .istore_n 1, 1), (86, .iload_n 1, 1), (87, .aload_n 0, 1), (88, .getfield 7, 3), (91, .bipush 70, 2)] := dz_sg _ 78 (by decide +kernel)
theorem dX8_laysApplicants_78 : decode cX8_laysApplicants 78 = .ok (.iinc 1 1, 3) := sdX8_laysApplicants_78.1
theorem dX8_laysApplicants_81 : decode cX8_laysApplicants 81 = .ok (.goto (-74), 3) := sdX8_laysApplicants_78.2.1
theorem dX8_laysApplicants_84 : decode cX8_laysApplicants 84 = .ok (.iconst 0, 1) := sdX8_laysApplicants_78.2.2.1
theorem dX8_laysApplicants_85 : decode cX8_laysApplicants 85 = .ok (.istore_n 1, 1) := sdX8_laysApplicants_78.2.2.2.1
theorem dX8_laysApplicants_86 : decode cX8_laysApplicants 86 = .ok (.iload_n 1, 1) := sdX8_laysApplicants_78.2.2.2.2.1
theorem dX8_laysApplicants_87 : decode cX8_laysApplicants 87 = .ok (.aload_n 0, 1) := sdX8_laysApplicants_78.2.2.2.2.2.1
theorem dX8_laysApplicants_88 : decode cX8_laysApplicants 88 = .ok (.getfield 7, 3) := sdX8_laysApplicants_78.2.2.2.2.2.2.1
theorem dX8_laysApplicants_91 : decode cX8_laysApplicants 91 = .ok (.bipush 70, 2) := sdX8_laysApplicants_78.2.2.2.2.2.2.2.1
theorem sdX8_laysApplicants_93 : dz_Seg cX8_laysApplicants [(93, .iaload, 1), (94, .if_icmp .ge 102, 3), (97, .aload_n 0, 1), (98, .getfield 49, 3), (101, .aload_n 0, 1), (102, .getfield 275, 3), (105, .iconst 0, 1), (106, .iastore, 1)] := dz_sg _ 93 (by decide +kernel)
theorem dX8_laysApplicants_93 : decode cX8_laysApplicants 93 = .ok (.iaload, 1) := sdX8_laysApplicants_93.1
theorem dX8_laysApplicants_94 : decode cX8_laysApplicants 94 = .ok (.if_icmp .ge 102, 3) := sdX8_laysApplicants_93.2.1
theorem dX8_laysApplicants_97 : decode cX8_laysApplicants 97 = .ok (.aload_n 0, 1) := sdX8_laysApplicants_93.2.2.1
theorem dX8_laysApplicants_98 : decode cX8_laysApplicants 98 = .ok (.getfield 49, 3) := sdX8_laysApplicants_93.2.2.2.1
theorem dX8_laysApplicants_101 : decode cX8_laysApplicants 101 = .ok (.aload_n 0, 1) := sdX8_laysApplicants_93.2.2.2.2.1
theorem dX8_laysApplicants_102 : decode cX8_laysApplicants 102 = .ok (.getfield 275, 3) := sdX8_laysApplicants_93.2.2.2.2.2.1
theorem dX8_laysApplicants_105 : decode cX8_laysApplicants 105 = .ok (.iconst 0, 1) := sdX8_laysApplicants_93.2.2.2.2.2.2.1
theorem dX8_laysApplicants_106 : decode cX8_laysApplicants 106 = .ok (.iastore, 1) := sdX8_laysApplicants_93.2.2.2.2.2.2.2.1
theorem sdX8_laysApplicants_107 : dz_Seg cX8_laysApplicants [(107, .iconst 0, 1), (108, .istore_n 2, 1), (109, .iload_n 2, 1), (110, .aload_n 0, 1), (111, .getfield 132, 3), (114, .if_icmp .ge 41, 3), (117, .aload_n 0, 1), (118, .getfield 49, 3)] := dz_sg _ 107 (by decide +kernel)
theorem dX8_laysApplicants_107 : decode cX8_laysApplicants 107 = .ok (.iconst 0, 1) := sdX8_laysApplicants_107.1
theorem dX8_laysApplicants_108 : decode cX8_laysApplicants 108 = .ok (.istore_n 2, 1) := sdX8_laysApplicants_107.2.1
theorem dX8_laysApplicants_109 : decode cX8_laysApplicants 109 = .ok (.iload_n 2, 1) := sdX8_laysApplicants_107.2.2.1
theorem dX8_laysApplicants_110 : decode cX8_laysApplicants 110 = .ok (.aload_n 0, 1) := sdX8_laysApplicants_107.2.2.2.1
theorem dX8_laysApplicants_111 : decode cX8_laysApplicants 111 = .ok (.getfield 132, 3) := sdX8_laysApplicants_107.2.2.2.2.1
theorem dX8_laysApplicants_114 : decode cX8_laysApplicants 114 = .ok (.if_icmp .ge 41, 3) := sdX8_laysApplicants_107.2.2.2.2.2.1
theorem dX8_laysApplicants_117 : decode cX8_laysApplicants 117 = .ok (.aload_n 0, 1) := sdX8_laysApplicants_107.2.2.2.2.2.2.1
theorem dX8_laysApplicants_118 : decode cX8_laysApplicants 118 = .ok (.getfield 49, 3) := sdX8_laysApplicants_107.2.2.2.2.2.2.2.1
theorem sdX8_laysApplicants_121 : dz_Seg cX8_laysApplicants [(121, .aload_n 0, 1), (122, .getfield 275, 3), (125, .dup2, 1), (126, .iaload, 1), (127, .aload_n 0, 1), (128, .getfield 7, 3), (131, .bipush 10, 2), (133, .iload_n 2, 1)] := dz_sg _ 121 (by decide +kernel)
theorem dX8_laysApplicants_121 : decode cX8_laysApplicants 121 = .ok (.aload_n 0, 1) := sdX8_laysApplicants_121.1
theorem dX8_laysApplicants_122 : decode cX8_laysApplicants 122 = .ok (.getfield 275, 3) := sdX8_laysApplicants_121.2.1
theorem dX8_laysApplicants_125 : decode cX8_laysApplicants 125 = .ok (.dup2, 1) := sdX8_laysApplicants_121.2.2.1
theorem dX8_laysApplicants_126 : decode cX8_laysApplicants 126 = .ok (.iaload, 1) := sdX8_laysApplicants_121.2.2.2.1
theorem dX8_laysApplicants_127 : decode cX8_laysApplicants 127 = .ok (.aload_n 0, 1) := sdX8_laysApplicants_121.2.2.2.2.1
theorem dX8_laysApplicants_128 : decode cX8_laysApplicants 128 = .ok (.getfield 7, 3) := sdX8_laysApplicants_121.2.2.2.2.2.1
theorem dX8_laysApplicants_131 : decode cX8_laysApplicants 131 = .ok (.bipush 10, 2) := sdX8_laysApplicants_121.2.2.2.2.2.2.1
theorem dX8_laysApplicants_133 : decode cX8_laysApplicants 133 = .ok (.iload_n 2, 1) := sdX8_laysApplicants_121.2.2.2.2.2.2.2.1
theorem sdX8_laysApplicants_134 : dz_Seg cX8_laysApplicants [(134, .iadd, 1), (135, .iaload, 1), (136, .iload_n 1, 1), (137, .if_icmp .ne 9, 3), (140, .iconst 1, 1), (141, .iload_n 2, 1), (142, .ishl, 1), (143, .goto 4, 3)] := dz_sg _ 134 (by decide +kernel)
theorem dX8_laysApplicants_134 : decode cX8_laysApplicants 134 = .ok (.iadd, 1) := sdX8_laysApplicants_134.1
theorem dX8_laysApplicants_135 : decode cX8_laysApplicants 135 = .ok (.iaload, 1) := sdX8_laysApplicants_134.2.1
theorem dX8_laysApplicants_136 : decode cX8_laysApplicants 136 = .ok (.iload_n 1, 1) := sdX8_laysApplicants_134.2.2.1
theorem dX8_laysApplicants_137 : decode cX8_laysApplicants 137 = .ok (.if_icmp .ne 9, 3) := sdX8_laysApplicants_134.2.2.2.1
theorem dX8_laysApplicants_140 : decode cX8_laysApplicants 140 = .ok (.iconst 1, 1) := sdX8_laysApplicants_134.2.2.2.2.1
theorem dX8_laysApplicants_141 : decode cX8_laysApplicants 141 = .ok (.iload_n 2, 1) := sdX8_laysApplicants_134.2.2.2.2.2.1
theorem dX8_laysApplicants_142 : decode cX8_laysApplicants 142 = .ok (.ishl, 1) := sdX8_laysApplicants_134.2.2.2.2.2.2.1
theorem dX8_laysApplicants_143 : decode cX8_laysApplicants 143 = .ok (.goto 4, 3) := sdX8_laysApplicants_134.2.2.2.2.2.2.2.1
theorem sdX8_laysApplicants_146 : dz_Seg cX8_laysApplicants [(146, .iconst 0, 1), (147, .ior, 1), (148, .iastore, 1), (149, .iinc 2 1, 3), (152, .goto (-43), 3), (155, .aload_n 0, 1), (156, .getfield 52, 3), (159, .aload_n 0, 1)] := dz_sg _ 146 (by decide +kernel)
theorem dX8_laysApplicants_146 : decode cX8_laysApplicants 146 = .ok (.iconst 0, 1) := sdX8_laysApplicants_146.1
theorem dX8_laysApplicants_147 : decode cX8_laysApplicants 147 = .ok (.ior, 1) := sdX8_laysApplicants_146.2.1
theorem dX8_laysApplicants_148 : decode cX8_laysApplicants 148 = .ok (.iastore, 1) := sdX8_laysApplicants_146.2.2.1
theorem dX8_laysApplicants_149 : decode cX8_laysApplicants 149 = .ok (.iinc 2 1, 3) := sdX8_laysApplicants_146.2.2.2.1
theorem dX8_laysApplicants_152 : decode cX8_laysApplicants 152 = .ok (.goto (-43), 3) := sdX8_laysApplicants_146.2.2.2.2.1
theorem dX8_laysApplicants_155 : decode cX8_laysApplicants 155 = .ok (.aload_n 0, 1) := sdX8_laysApplicants_146.2.2.2.2.2.1
theorem dX8_laysApplicants_156 : decode cX8_laysApplicants 156 = .ok (.getfield 52, 3) := sdX8_laysApplicants_146.2.2.2.2.2.2.1
theorem dX8_laysApplicants_159 : decode cX8_laysApplicants 159 = .ok (.aload_n 0, 1) := sdX8_laysApplicants_146.2.2.2.2.2.2.2.1
theorem sdX8_laysApplicants_160 : dz_Seg cX8_laysApplicants [(160, .getfield 275, 3), (163, .iload_n 1, 1), (164, .iastore, 1), (165, .aload_n 0, 1), (166, .getfield 55, 3), (169, .aload_n 0, 1), (170, .getfield 275, 3), (173, .bipush 50, 2)] := dz_sg _ 160 (by decide +kernel)
theorem dX8_laysApplicants_160 : decode cX8_laysApplicants 160 = .ok (.getfield 275, 3) := sdX8_laysApplicants_160.1
theorem dX8_laysApplicants_163 : decode cX8_laysApplicants 163 = .ok (.iload_n 1, 1) := sdX8_laysApplicants_160.2.1
theorem dX8_laysApplicants_164 : decode cX8_laysApplicants 164 = .ok (.iastore, 1) := sdX8_laysApplicants_160.2.2.1
theorem dX8_laysApplicants_165 : decode cX8_laysApplicants 165 = .ok (.aload_n 0, 1) := sdX8_laysApplicants_160.2.2.2.1
theorem dX8_laysApplicants_166 : decode cX8_laysApplicants 166 = .ok (.getfield 55, 3) := sdX8_laysApplicants_160.2.2.2.2.1
theorem dX8_laysApplicants_169 : decode cX8_laysApplicants 169 = .ok (.aload_n 0, 1) := sdX8_laysApplicants_160.2.2.2.2.2.1
theorem dX8_laysApplicants_170 : decode cX8_laysApplicants 170 = .ok (.getfield 275, 3) := sdX8_laysApplicants_160.2.2.2.2.2.2.1
theorem dX8_laysApplicants_173 : decode cX8_laysApplicants 173 = .ok (.bipush 50, 2) := sdX8_laysApplicants_160.2.2.2.2.2.2.2.1
theorem sdX8_laysApplicants_175 : dz_Seg cX8_laysApplicants [(175, .iconst 3, 1), (176, .iload_n 1, 1), (177, .imul, 1), (178, .iadd, 1), (179, .iastore, 1), (180, .aload_n 0, 1), (181, .dup, 1), (182, .getfield 275, 3)] := dz_sg _ 175 (by decide +kernel)
theorem dX8_laysApplicants_175 : decode cX8_laysApplicants 175 = .ok (.iconst 3, 1) := sdX8_laysApplicants_175.1
theorem dX8_laysApplicants_176 : decode cX8_laysApplicants 176 = .ok (.iload_n 1, 1) := sdX8_laysApplicants_175.2.1
theorem dX8_laysApplicants_177 : decode cX8_laysApplicants 177 = .ok (.imul, 1) := sdX8_laysApplicants_175.2.2.1
theorem dX8_laysApplicants_178 : decode cX8_laysApplicants 178 = .ok (.iadd, 1) := sdX8_laysApplicants_175.2.2.2.1
theorem dX8_laysApplicants_179 : decode cX8_laysApplicants 179 = .ok (.iastore, 1) := sdX8_laysApplicants_175.2.2.2.2.1
theorem dX8_laysApplicants_180 : decode cX8_laysApplicants 180 = .ok (.aload_n 0, 1) := sdX8_laysApplicants_175.2.2.2.2.2.1
theorem dX8_laysApplicants_181 : decode cX8_laysApplicants 181 = .ok (.dup, 1) := sdX8_laysApplicants_175.2.2.2.2.2.2.1
theorem dX8_laysApplicants_182 : decode cX8_laysApplicants 182 = .ok (.getfield 275, 3) := sdX8_laysApplicants_175.2.2.2.2.2.2.2.1
theorem sdX8_laysApplicants_185 : dz_Seg cX8_laysApplicants [(185, .iconst 1, 1), (186, .iadd, 1), (187, .putfield 275, 3), (190, .iinc 1 1, 3), (193, .goto (-107), 3), (196, .iconst 0, 1), (197, .istore_n 1, 1), (198, .iload_n 1, 1)] := dz_sg _ 185 (by decide +kernel)
theorem dX8_laysApplicants_185 : decode cX8_laysApplicants 185 = .ok (.iconst 1, 1) := sdX8_laysApplicants_185.1
theorem dX8_laysApplicants_186 : decode cX8_laysApplicants 186 = .ok (.iadd, 1) := sdX8_laysApplicants_185.2.1
theorem dX8_laysApplicants_187 : decode cX8_laysApplicants 187 = .ok (.putfield 275, 3) := sdX8_laysApplicants_185.2.2.1
theorem dX8_laysApplicants_190 : decode cX8_laysApplicants 190 = .ok (.iinc 1 1, 3) := sdX8_laysApplicants_185.2.2.2.1
theorem dX8_laysApplicants_193 : decode cX8_laysApplicants 193 = .ok (.goto (-107), 3) := sdX8_laysApplicants_185.2.2.2.2.1
theorem dX8_laysApplicants_196 : decode cX8_laysApplicants 196 = .ok (.iconst 0, 1) := sdX8_laysApplicants_185.2.2.2.2.2.1
theorem dX8_laysApplicants_197 : decode cX8_laysApplicants 197 = .ok (.istore_n 1, 1) := sdX8_laysApplicants_185.2.2.2.2.2.2.1
theorem dX8_laysApplicants_198 : decode cX8_laysApplicants 198 = .ok (.iload_n 1, 1) := sdX8_laysApplicants_185.2.2.2.2.2.2.2.1
theorem sdX8_laysApplicants_199 : dz_Seg cX8_laysApplicants [(199, .aload_n 0, 1), (200, .getfield 275, 3), (203, .if_icmp .ge 14, 3), (206, .aload_n 0, 1), (207, .iload_n 1, 1), (208, .invokevirtual 278, 3), (211, .iinc 1 1, 3), (214, .goto (-16), 3)] := dz_sg _ 199 (by decide +kernel)
theorem dX8_laysApplicants_199 : decode cX8_laysApplicants 199 = .ok (.aload_n 0, 1) := sdX8_laysApplicants_199.1
theorem dX8_laysApplicants_200 : decode cX8_laysApplicants 200 = .ok (.getfield 275, 3) := sdX8_laysApplicants_199.2.1
theorem dX8_laysApplicants_203 : decode cX8_laysApplicants 203 = .ok (.if_icmp .ge 14, 3) := sdX8_laysApplicants_199.2.2.1
theorem dX8_laysApplicants_206 : decode cX8_laysApplicants 206 = .ok (.aload_n 0, 1) := sdX8_laysApplicants_199.2.2.2.1
theorem dX8_laysApplicants_207 : decode cX8_laysApplicants 207 = .ok (.iload_n 1, 1) := sdX8_laysApplicants_199.2.2.2.2.1
theorem dX8_laysApplicants_208 : decode cX8_laysApplicants 208 = .ok (.invokevirtual 278, 3) := sdX8_laysApplicants_199.2.2.2.2.2.1
theorem dX8_laysApplicants_211 : decode cX8_laysApplicants 211 = .ok (.iinc 1 1, 3) := sdX8_laysApplicants_199.2.2.2.2.2.2.1
theorem dX8_laysApplicants_214 : decode cX8_laysApplicants 214 = .ok (.goto (-16), 3) := sdX8_laysApplicants_199.2.2.2.2.2.2.2.1
theorem sdX8_laysApplicants_217 : dz_Seg cX8_laysApplicants [(217, .return_, 1)] := dz_sg _ 217 (by decide +kernel)
theorem dX8_laysApplicants_217 : decode cX8_laysApplicants 217 = .ok (.return_, 1) := sdX8_laysApplicants_217.1
theorem sdX8_laysOne_0 : dz_Seg cX8_laysOne [(0, .aload_n 0, 1), (1, .getfield 58, 3), (4, .iload_n 1, 1), (5, .iconst 0, 1), (6, .iastore, 1), (7, .aload_n 0, 1), (8, .getfield 61, 3), (11, .iload_n 1, 1)] := dz_sg _ 0 (by decide +kernel)
theorem dX8_laysOne_0 : decode cX8_laysOne 0 = .ok (.aload_n 0, 1) := sdX8_laysOne_0.1
theorem dX8_laysOne_1 : decode cX8_laysOne 1 = .ok (.getfield 58, 3) := sdX8_laysOne_0.2.1
theorem dX8_laysOne_4 : decode cX8_laysOne 4 = .ok (.iload_n 1, 1) := sdX8_laysOne_0.2.2.1
theorem dX8_laysOne_5 : decode cX8_laysOne 5 = .ok (.iconst 0, 1) := sdX8_laysOne_0.2.2.2.1
theorem dX8_laysOne_6 : decode cX8_laysOne 6 = .ok (.iastore, 1) := sdX8_laysOne_0.2.2.2.2.1
theorem dX8_laysOne_7 : decode cX8_laysOne 7 = .ok (.aload_n 0, 1) := sdX8_laysOne_0.2.2.2.2.2.1
theorem dX8_laysOne_8 : decode cX8_laysOne 8 = .ok (.getfield 61, 3) := sdX8_laysOne_0.2.2.2.2.2.2.1
theorem dX8_laysOne_11 : decode cX8_laysOne 11 = .ok (.iload_n 1, 1) := sdX8_laysOne_0.2.2.2.2.2.2.2.1
theorem sdX8_laysOne_12 : dz_Seg cX8_laysOne [(12, .iconst 0, 1), (13, .iastore, 1), (14, .iconst 0, 1), (15, .istore_n 2, 1), (16, .iconst 0, 1), (17, .istore_n 3, 1), (18, .iload_n 3, 1), (19, .aload_n 0, 1)] := dz_sg _ 12 (by decide +kernel)
theorem dX8_laysOne_12 : decode cX8_laysOne 12 = .ok (.iconst 0, 1) := sdX8_laysOne_12.1
theorem dX8_laysOne_13 : decode cX8_laysOne 13 = .ok (.iastore, 1) := sdX8_laysOne_12.2.1
theorem dX8_laysOne_14 : decode cX8_laysOne 14 = .ok (.iconst 0, 1) := sdX8_laysOne_12.2.2.1
theorem dX8_laysOne_15 : decode cX8_laysOne 15 = .ok (.istore_n 2, 1) := sdX8_laysOne_12.2.2.2.1
theorem dX8_laysOne_16 : decode cX8_laysOne 16 = .ok (.iconst 0, 1) := sdX8_laysOne_12.2.2.2.2.1
theorem dX8_laysOne_17 : decode cX8_laysOne 17 = .ok (.istore_n 3, 1) := sdX8_laysOne_12.2.2.2.2.2.1
theorem dX8_laysOne_18 : decode cX8_laysOne 18 = .ok (.iload_n 3, 1) := sdX8_laysOne_12.2.2.2.2.2.2.1
theorem dX8_laysOne_19 : decode cX8_laysOne 19 = .ok (.aload_n 0, 1) := sdX8_laysOne_12.2.2.2.2.2.2.2.1
theorem sdX8_laysOne_20 : dz_Seg cX8_laysOne [(20, .getfield 132, 3), (23, .if_icmp .ge 69, 3), (26, .aload_n 0, 1), (27, .getfield 49, 3), (30, .iload_n 1, 1), (31, .iaload, 1), (32, .iload_n 3, 1), (33, .invokestatic 240, 3)] := dz_sg _ 20 (by decide +kernel)
theorem dX8_laysOne_20 : decode cX8_laysOne 20 = .ok (.getfield 132, 3) := sdX8_laysOne_20.1
theorem dX8_laysOne_23 : decode cX8_laysOne 23 = .ok (.if_icmp .ge 69, 3) := sdX8_laysOne_20.2.1
theorem dX8_laysOne_26 : decode cX8_laysOne 26 = .ok (.aload_n 0, 1) := sdX8_laysOne_20.2.2.1
theorem dX8_laysOne_27 : decode cX8_laysOne 27 = .ok (.getfield 49, 3) := sdX8_laysOne_20.2.2.2.1
theorem dX8_laysOne_30 : decode cX8_laysOne 30 = .ok (.iload_n 1, 1) := sdX8_laysOne_20.2.2.2.2.1
theorem dX8_laysOne_31 : decode cX8_laysOne 31 = .ok (.iaload, 1) := sdX8_laysOne_20.2.2.2.2.2.1
theorem dX8_laysOne_32 : decode cX8_laysOne 32 = .ok (.iload_n 3, 1) := sdX8_laysOne_20.2.2.2.2.2.2.1
theorem dX8_laysOne_33 : decode cX8_laysOne 33 = .ok (.invokestatic 240, 3) := sdX8_laysOne_20.2.2.2.2.2.2.2.1
theorem sdX8_laysOne_36 : dz_Seg cX8_laysOne [(36, .ifCond .ne 6, 3), (39, .goto 47, 3), (42, .aload_n 0, 1), (43, .getfield 58, 3), (46, .iload_n 1, 1), (47, .dup2, 1), (48, .iaload, 1), (49, .iconst 1, 1)] := dz_sg _ 36 (by decide +kernel)
theorem dX8_laysOne_36 : decode cX8_laysOne 36 = .ok (.ifCond .ne 6, 3) := sdX8_laysOne_36.1
theorem dX8_laysOne_39 : decode cX8_laysOne 39 = .ok (.goto 47, 3) := sdX8_laysOne_36.2.1
theorem dX8_laysOne_42 : decode cX8_laysOne 42 = .ok (.aload_n 0, 1) := sdX8_laysOne_36.2.2.1
theorem dX8_laysOne_43 : decode cX8_laysOne 43 = .ok (.getfield 58, 3) := sdX8_laysOne_36.2.2.2.1
theorem dX8_laysOne_46 : decode cX8_laysOne 46 = .ok (.iload_n 1, 1) := sdX8_laysOne_36.2.2.2.2.1
theorem dX8_laysOne_47 : decode cX8_laysOne 47 = .ok (.dup2, 1) := sdX8_laysOne_36.2.2.2.2.2.1
theorem dX8_laysOne_48 : decode cX8_laysOne 48 = .ok (.iaload, 1) := sdX8_laysOne_36.2.2.2.2.2.2.1
theorem dX8_laysOne_49 : decode cX8_laysOne 49 = .ok (.iconst 1, 1) := sdX8_laysOne_36.2.2.2.2.2.2.2.1
theorem sdX8_laysOne_50 : dz_Seg cX8_laysOne [(50, .iadd, 1), (51, .iastore, 1), (52, .aload_n 0, 1), (53, .getfield 61, 3), (56, .iload_n 1, 1), (57, .dup2, 1), (58, .iaload, 1), (59, .aload_n 0, 1)] := dz_sg _ 50 (by decide +kernel)
theorem dX8_laysOne_50 : decode cX8_laysOne 50 = .ok (.iadd, 1) := sdX8_laysOne_50.1
theorem dX8_laysOne_51 : decode cX8_laysOne 51 = .ok (.iastore, 1) := sdX8_laysOne_50.2.1
theorem dX8_laysOne_52 : decode cX8_laysOne 52 = .ok (.aload_n 0, 1) := sdX8_laysOne_50.2.2.1
theorem dX8_laysOne_53 : decode cX8_laysOne 53 = .ok (.getfield 61, 3) := sdX8_laysOne_50.2.2.2.1
theorem dX8_laysOne_56 : decode cX8_laysOne 56 = .ok (.iload_n 1, 1) := sdX8_laysOne_50.2.2.2.2.1
theorem dX8_laysOne_57 : decode cX8_laysOne 57 = .ok (.dup2, 1) := sdX8_laysOne_50.2.2.2.2.2.1
theorem dX8_laysOne_58 : decode cX8_laysOne 58 = .ok (.iaload, 1) := sdX8_laysOne_50.2.2.2.2.2.2.1
theorem dX8_laysOne_59 : decode cX8_laysOne 59 = .ok (.aload_n 0, 1) := sdX8_laysOne_50.2.2.2.2.2.2.2.1
theorem sdX8_laysOne_60 : dz_Seg cX8_laysOne [(60, .getfield 22, 3), (63, .iload_n 3, 1), (64, .baload, 1), (65, .ifCond .eq 7, 3), (68, .iconst 1, 1), (69, .goto 4, 3), (72, .iconst 0, 1), (73, .iadd, 1)] := dz_sg _ 60 (by decide +kernel)
theorem dX8_laysOne_60 : decode cX8_laysOne 60 = .ok (.getfield 22, 3) := sdX8_laysOne_60.1
theorem dX8_laysOne_63 : decode cX8_laysOne 63 = .ok (.iload_n 3, 1) := sdX8_laysOne_60.2.1
theorem dX8_laysOne_64 : decode cX8_laysOne 64 = .ok (.baload, 1) := sdX8_laysOne_60.2.2.1
theorem dX8_laysOne_65 : decode cX8_laysOne 65 = .ok (.ifCond .eq 7, 3) := sdX8_laysOne_60.2.2.2.1
theorem dX8_laysOne_68 : decode cX8_laysOne 68 = .ok (.iconst 1, 1) := sdX8_laysOne_60.2.2.2.2.1
theorem dX8_laysOne_69 : decode cX8_laysOne 69 = .ok (.goto 4, 3) := sdX8_laysOne_60.2.2.2.2.2.1
theorem dX8_laysOne_72 : decode cX8_laysOne 72 = .ok (.iconst 0, 1) := sdX8_laysOne_60.2.2.2.2.2.2.1
theorem dX8_laysOne_73 : decode cX8_laysOne 73 = .ok (.iadd, 1) := sdX8_laysOne_60.2.2.2.2.2.2.2.1
theorem sdX8_laysOne_74 : dz_Seg cX8_laysOne [(74, .iastore, 1), (75, .iload_n 2, 1), (76, .aload_n 0, 1), (77, .getfield 7, 3), (80, .iconst 0, 1), (81, .iload_n 3, 1), (82, .iadd, 1), (83, .iaload, 1)] := dz_sg _ 74 (by decide +kernel)
theorem dX8_laysOne_74 : decode cX8_laysOne 74 = .ok (.iastore, 1) := sdX8_laysOne_74.1
theorem dX8_laysOne_75 : decode cX8_laysOne 75 = .ok (.iload_n 2, 1) := sdX8_laysOne_74.2.1
theorem dX8_laysOne_76 : decode cX8_laysOne 76 = .ok (.aload_n 0, 1) := sdX8_laysOne_74.2.2.1
theorem dX8_laysOne_77 : decode cX8_laysOne 77 = .ok (.getfield 7, 3) := sdX8_laysOne_74.2.2.2.1
theorem dX8_laysOne_80 : decode cX8_laysOne 80 = .ok (.iconst 0, 1) := sdX8_laysOne_74.2.2.2.2.1
theorem dX8_laysOne_81 : decode cX8_laysOne 81 = .ok (.iload_n 3, 1) := sdX8_laysOne_74.2.2.2.2.2.1
theorem dX8_laysOne_82 : decode cX8_laysOne 82 = .ok (.iadd, 1) := sdX8_laysOne_74.2.2.2.2.2.2.1
theorem dX8_laysOne_83 : decode cX8_laysOne 83 = .ok (.iaload, 1) := sdX8_laysOne_74.2.2.2.2.2.2.2.1
theorem sdX8_laysOne_84 : dz_Seg cX8_laysOne [(84, .iadd, 1), (85, .istore_n 2, 1), (86, .iinc 3 1, 3), (89, .goto (-71), 3), (92, .aload_n 0, 1), (93, .getfield 64, 3), (96, .iload_n 1, 1), (97, .iload_n 2, 1)] := dz_sg _ 84 (by decide +kernel)
theorem dX8_laysOne_84 : decode cX8_laysOne 84 = .ok (.iadd, 1) := sdX8_laysOne_84.1
theorem dX8_laysOne_85 : decode cX8_laysOne 85 = .ok (.istore_n 2, 1) := sdX8_laysOne_84.2.1
theorem dX8_laysOne_86 : decode cX8_laysOne 86 = .ok (.iinc 3 1, 3) := sdX8_laysOne_84.2.2.1
theorem dX8_laysOne_89 : decode cX8_laysOne 89 = .ok (.goto (-71), 3) := sdX8_laysOne_84.2.2.2.1
theorem dX8_laysOne_92 : decode cX8_laysOne 92 = .ok (.aload_n 0, 1) := sdX8_laysOne_84.2.2.2.2.1
theorem dX8_laysOne_93 : decode cX8_laysOne 93 = .ok (.getfield 64, 3) := sdX8_laysOne_84.2.2.2.2.2.1
theorem dX8_laysOne_96 : decode cX8_laysOne 96 = .ok (.iload_n 1, 1) := sdX8_laysOne_84.2.2.2.2.2.2.1
theorem dX8_laysOne_97 : decode cX8_laysOne 97 = .ok (.iload_n 2, 1) := sdX8_laysOne_84.2.2.2.2.2.2.2.1
theorem sdX8_laysOne_98 : dz_Seg cX8_laysOne [(98, .aload_n 0, 1), (99, .getfield 58, 3), (102, .iload_n 1, 1), (103, .iaload, 1), (104, .idiv, 1), (105, .iastore, 1), (106, .aload_n 0, 1), (107, .getfield 67, 3)] := dz_sg _ 98 (by decide +kernel)
theorem dX8_laysOne_98 : decode cX8_laysOne 98 = .ok (.aload_n 0, 1) := sdX8_laysOne_98.1
theorem dX8_laysOne_99 : decode cX8_laysOne 99 = .ok (.getfield 58, 3) := sdX8_laysOne_98.2.1
theorem dX8_laysOne_102 : decode cX8_laysOne 102 = .ok (.iload_n 1, 1) := sdX8_laysOne_98.2.2.1
theorem dX8_laysOne_103 : decode cX8_laysOne 103 = .ok (.iaload, 1) := sdX8_laysOne_98.2.2.2.1
theorem dX8_laysOne_104 : decode cX8_laysOne 104 = .ok (.idiv, 1) := sdX8_laysOne_98.2.2.2.2.1
theorem dX8_laysOne_105 : decode cX8_laysOne 105 = .ok (.iastore, 1) := sdX8_laysOne_98.2.2.2.2.2.1
theorem dX8_laysOne_106 : decode cX8_laysOne 106 = .ok (.aload_n 0, 1) := sdX8_laysOne_98.2.2.2.2.2.2.1
theorem dX8_laysOne_107 : decode cX8_laysOne 107 = .ok (.getfield 67, 3) := sdX8_laysOne_98.2.2.2.2.2.2.2.1
theorem sdX8_laysOne_110 : dz_Seg cX8_laysOne [(110, .iload_n 1, 1), (111, .aload_n 0, 1), (112, .getfield 7, 3), (115, .bipush 67, 2), (117, .iaload, 1), (118, .ifCond .ne 7, 3), (121, .iconst 1, 1), (122, .goto 40, 3)] := dz_sg _ 110 (by decide +kernel)
theorem dX8_laysOne_110 : decode cX8_laysOne 110 = .ok (.iload_n 1, 1) := sdX8_laysOne_110.1
theorem dX8_laysOne_111 : decode cX8_laysOne 111 = .ok (.aload_n 0, 1) := sdX8_laysOne_110.2.1
theorem dX8_laysOne_112 : decode cX8_laysOne 112 = .ok (.getfield 7, 3) := sdX8_laysOne_110.2.2.1
theorem dX8_laysOne_115 : decode cX8_laysOne 115 = .ok (.bipush 67, 2) := sdX8_laysOne_110.2.2.2.1
theorem dX8_laysOne_117 : decode cX8_laysOne 117 = .ok (.iaload, 1) := sdX8_laysOne_110.2.2.2.2.1
theorem dX8_laysOne_118 : decode cX8_laysOne 118 = .ok (.ifCond .ne 7, 3) := sdX8_laysOne_110.2.2.2.2.2.1
theorem dX8_laysOne_121 : decode cX8_laysOne 121 = .ok (.iconst 1, 1) := sdX8_laysOne_110.2.2.2.2.2.2.1
theorem dX8_laysOne_122 : decode cX8_laysOne 122 = .ok (.goto 40, 3) := sdX8_laysOne_110.2.2.2.2.2.2.2.1
theorem sdX8_laysOne_125 : dz_Seg cX8_laysOne [(125, .aload_n 0, 1), (126, .getfield 7, 3), (129, .bipush 67, 2), (131, .iaload, 1), (132, .iconst 1, 1), (133, .if_icmp .ne 14, 3), (136, .iconst 1, 1), (137, .aload_n 0, 1)] := dz_sg _ 125 (by decide +kernel)
theorem dX8_laysOne_125 : decode cX8_laysOne 125 = .ok (.aload_n 0, 1) := sdX8_laysOne_125.1
theorem dX8_laysOne_126 : decode cX8_laysOne 126 = .ok (.getfield 7, 3) := sdX8_laysOne_125.2.1
theorem dX8_laysOne_129 : decode cX8_laysOne 129 = .ok (.bipush 67, 2) := sdX8_laysOne_125.2.2.1
theorem dX8_laysOne_131 : decode cX8_laysOne 131 = .ok (.iaload, 1) := sdX8_laysOne_125.2.2.2.1
theorem dX8_laysOne_132 : decode cX8_laysOne 132 = .ok (.iconst 1, 1) := sdX8_laysOne_125.2.2.2.2.1
theorem dX8_laysOne_133 : decode cX8_laysOne 133 = .ok (.if_icmp .ne 14, 3) := sdX8_laysOne_125.2.2.2.2.2.1
theorem dX8_laysOne_136 : decode cX8_laysOne 136 = .ok (.iconst 1, 1) := sdX8_laysOne_125.2.2.2.2.2.2.1
theorem dX8_laysOne_137 : decode cX8_laysOne 137 = .ok (.aload_n 0, 1) := sdX8_laysOne_125.2.2.2.2.2.2.2.1
theorem sdX8_laysOne_138 : dz_Seg cX8_laysOne [(138, .getfield 64, 3), (141, .iload_n 1, 1), (142, .iaload, 1), (143, .iadd, 1), (144, .goto 18, 3), (147, .iconst 1, 1), (148, .aload_n 0, 1), (149, .getfield 64, 3)] := dz_sg _ 138 (by decide +kernel)
theorem dX8_laysOne_138 : decode cX8_laysOne 138 = .ok (.getfield 64, 3) := sdX8_laysOne_138.1
theorem dX8_laysOne_141 : decode cX8_laysOne 141 = .ok (.iload_n 1, 1) := sdX8_laysOne_138.2.1
theorem dX8_laysOne_142 : decode cX8_laysOne 142 = .ok (.iaload, 1) := sdX8_laysOne_138.2.2.1
theorem dX8_laysOne_143 : decode cX8_laysOne 143 = .ok (.iadd, 1) := sdX8_laysOne_138.2.2.2.1
theorem dX8_laysOne_144 : decode cX8_laysOne 144 = .ok (.goto 18, 3) := sdX8_laysOne_138.2.2.2.2.1
theorem dX8_laysOne_147 : decode cX8_laysOne 147 = .ok (.iconst 1, 1) := sdX8_laysOne_138.2.2.2.2.2.1
theorem dX8_laysOne_148 : decode cX8_laysOne 148 = .ok (.aload_n 0, 1) := sdX8_laysOne_138.2.2.2.2.2.2.1
theorem dX8_laysOne_149 : decode cX8_laysOne 149 = .ok (.getfield 64, 3) := sdX8_laysOne_138.2.2.2.2.2.2.2.1
theorem sdX8_laysOne_152 : dz_Seg cX8_laysOne [(152, .iload_n 1, 1), (153, .iaload, 1), (154, .aload_n 0, 1), (155, .getfield 64, 3), (158, .iload_n 1, 1), (159, .iaload, 1), (160, .imul, 1), (161, .iadd, 1)] := dz_sg _ 152 (by decide +kernel)
theorem dX8_laysOne_152 : decode cX8_laysOne 152 = .ok (.iload_n 1, 1) := sdX8_laysOne_152.1
theorem dX8_laysOne_153 : decode cX8_laysOne 153 = .ok (.iaload, 1) := sdX8_laysOne_152.2.1
theorem dX8_laysOne_154 : decode cX8_laysOne 154 = .ok (.aload_n 0, 1) := sdX8_laysOne_152.2.2.1
theorem dX8_laysOne_155 : decode cX8_laysOne 155 = .ok (.getfield 64, 3) := sdX8_laysOne_152.2.2.2.1
theorem dX8_laysOne_158 : decode cX8_laysOne 158 = .ok (.iload_n 1, 1) := sdX8_laysOne_152.2.2.2.2.1
theorem dX8_laysOne_159 : decode cX8_laysOne 159 = .ok (.iaload, 1) := sdX8_laysOne_152.2.2.2.2.2.1
theorem dX8_laysOne_160 : decode cX8_laysOne 160 = .ok (.imul, 1) := sdX8_laysOne_152.2.2.2.2.2.2.1
theorem dX8_laysOne_161 : decode cX8_laysOne 161 = .ok (.iadd, 1) := sdX8_laysOne_152.2.2.2.2.2.2.2.1
theorem sdX8_laysOne_162 : dz_Seg cX8_laysOne [(162, .iastore, 1), (163, .return_, 1)] := dz_sg _ 162 (by decide +kernel)
theorem dX8_laysOne_162 : decode cX8_laysOne 162 = .ok (.iastore, 1) := sdX8_laysOne_162.1
theorem dX8_laysOne_163 : decode cX8_laysOne 163 = .ok (.return_, 1) := sdX8_laysOne_162.2.1
theorem sdX8_isApplicant_0 : dz_Seg cX8_isApplicant [(0, .aload_n 0, 1), (1, .invokevirtual 281, 3), (4, .iload_n 1, 1), (5, .i2l, 1), (6, .lconst 0, 1), (7, .aload_n 0, 1), (8, .getfield 275, 3), (11, .iconst 1, 1)] := dz_sg _ 0 (by decide +kernel)
theorem dX8_isApplicant_0 : decode cX8_isApplicant 0 = .ok (.aload_n 0, 1) := sdX8_isApplicant_0.1
theorem dX8_isApplicant_1 : decode cX8_isApplicant 1 = .ok (.invokevirtual 281, 3) := sdX8_isApplicant_0.2.1
theorem dX8_isApplicant_4 : decode cX8_isApplicant 4 = .ok (.iload_n 1, 1) := sdX8_isApplicant_0.2.2.1
theorem dX8_isApplicant_5 : decode cX8_isApplicant 5 = .ok (.i2l, 1) := sdX8_isApplicant_0.2.2.2.1
theorem dX8_isApplicant_6 : decode cX8_isApplicant 6 = .ok (.lconst 0, 1) := sdX8_isApplicant_0.2.2.2.2.1
theorem dX8_isApplicant_7 : decode cX8_isApplicant 7 = .ok (.aload_n 0, 1) := sdX8_isApplicant_0.2.2.2.2.2.1
theorem dX8_isApplicant_8 : decode cX8_isApplicant 8 = .ok (.getfield 275, 3) := sdX8_isApplicant_0.2.2.2.2.2.2.1
theorem dX8_isApplicant_11 : decode cX8_isApplicant 11 = .ok (.iconst 1, 1) := sdX8_isApplicant_0.2.2.2.2.2.2.2.1
theorem sdX8_isApplicant_12 : dz_Seg cX8_isApplicant [(12, .isub, 1), (13, .i2l, 1), (14, .invokestatic 128, 3), (17, .ireturn, 1)] := dz_sg _ 12 (by decide +kernel)
theorem dX8_isApplicant_12 : decode cX8_isApplicant 12 = .ok (.isub, 1) := sdX8_isApplicant_12.1
theorem dX8_isApplicant_13 : decode cX8_isApplicant 13 = .ok (.i2l, 1) := sdX8_isApplicant_12.2.1
theorem dX8_isApplicant_14 : decode cX8_isApplicant 14 = .ok (.invokestatic 128, 3) := sdX8_isApplicant_12.2.2.1
theorem dX8_isApplicant_17 : decode cX8_isApplicant 17 = .ok (.ireturn, 1) := sdX8_isApplicant_12.2.2.2.1
theorem sdX8_choiceOf_0 : dz_Seg cX8_choiceOf [(0, .iload_n 2, 1), (1, .iconst 3, 1), (2, .if_icmp .ge 19, 3), (5, .aload_n 0, 1), (6, .getfield 7, 3), (9, .aload_n 0, 1), (10, .getfield 55, 3), (13, .iload_n 1, 1)] := dz_sg _ 0 (by decide +kernel)
theorem dX8_choiceOf_0 : decode cX8_choiceOf 0 = .ok (.iload_n 2, 1) := sdX8_choiceOf_0.1
theorem dX8_choiceOf_1 : decode cX8_choiceOf 1 = .ok (.iconst 3, 1) := sdX8_choiceOf_0.2.1
theorem dX8_choiceOf_2 : decode cX8_choiceOf 2 = .ok (.if_icmp .ge 19, 3) := sdX8_choiceOf_0.2.2.1
theorem dX8_choiceOf_5 : decode cX8_choiceOf 5 = .ok (.aload_n 0, 1) := sdX8_choiceOf_0.2.2.2.1
theorem dX8_choiceOf_6 : decode cX8_choiceOf 6 = .ok (.getfield 7, 3) := sdX8_choiceOf_0.2.2.2.2.1
theorem dX8_choiceOf_9 : decode cX8_choiceOf 9 = .ok (.aload_n 0, 1) := sdX8_choiceOf_0.2.2.2.2.2.1
theorem dX8_choiceOf_10 : decode cX8_choiceOf 10 = .ok (.getfield 55, 3) := sdX8_choiceOf_0.2.2.2.2.2.2.1
theorem dX8_choiceOf_13 : decode cX8_choiceOf 13 = .ok (.iload_n 1, 1) := sdX8_choiceOf_0.2.2.2.2.2.2.2.1
theorem sdX8_choiceOf_14 : dz_Seg cX8_choiceOf [(14, .iaload, 1), (15, .iload_n 2, 1), (16, .iadd, 1), (17, .iaload, 1), (18, .goto 4, 3), (21, .iconst (-1), 1), (22, .ireturn, 1)] := dz_sg _ 14 (by decide +kernel)
theorem dX8_choiceOf_14 : decode cX8_choiceOf 14 = .ok (.iaload, 1) := sdX8_choiceOf_14.1
theorem dX8_choiceOf_15 : decode cX8_choiceOf 15 = .ok (.iload_n 2, 1) := sdX8_choiceOf_14.2.1
theorem dX8_choiceOf_16 : decode cX8_choiceOf 16 = .ok (.iadd, 1) := sdX8_choiceOf_14.2.2.1
theorem dX8_choiceOf_17 : decode cX8_choiceOf 17 = .ok (.iaload, 1) := sdX8_choiceOf_14.2.2.2.1
theorem dX8_choiceOf_18 : decode cX8_choiceOf 18 = .ok (.goto 4, 3) := sdX8_choiceOf_14.2.2.2.2.1
theorem dX8_choiceOf_21 : decode cX8_choiceOf 21 = .ok (.iconst (-1), 1) := sdX8_choiceOf_14.2.2.2.2.2.1
theorem dX8_choiceOf_22 : decode cX8_choiceOf 22 = .ok (.ireturn, 1) := sdX8_choiceOf_14.2.2.2.2.2.2.1
theorem sdX8_choiceMany_0 : dz_Seg cX8_choiceMany [(0, .iconst 0, 1), (1, .istore_n 2, 1), (2, .aload_n 0, 1), (3, .iload_n 1, 1), (4, .iload_n 2, 1), (5, .invokevirtual 284, 3), (8, .iconst (-1), 1), (9, .if_icmp .eq 9, 3)] := dz_sg _ 0 (by decide +kernel)
theorem dX8_choiceMany_0 : decode cX8_choiceMany 0 = .ok (.iconst 0, 1) := sdX8_choiceMany_0.1
theorem dX8_choiceMany_1 : decode cX8_choiceMany 1 = .ok (.istore_n 2, 1) := sdX8_choiceMany_0.2.1
theorem dX8_choiceMany_2 : decode cX8_choiceMany 2 = .ok (.aload_n 0, 1) := sdX8_choiceMany_0.2.2.1
theorem dX8_choiceMany_3 : decode cX8_choiceMany 3 = .ok (.iload_n 1, 1) := sdX8_choiceMany_0.2.2.2.1
theorem dX8_choiceMany_4 : decode cX8_choiceMany 4 = .ok (.iload_n 2, 1) := sdX8_choiceMany_0.2.2.2.2.1
theorem dX8_choiceMany_5 : decode cX8_choiceMany 5 = .ok (.invokevirtual 284, 3) := sdX8_choiceMany_0.2.2.2.2.2.1
theorem dX8_choiceMany_8 : decode cX8_choiceMany 8 = .ok (.iconst (-1), 1) := sdX8_choiceMany_0.2.2.2.2.2.2.1
theorem dX8_choiceMany_9 : decode cX8_choiceMany 9 = .ok (.if_icmp .eq 9, 3) := sdX8_choiceMany_0.2.2.2.2.2.2.2.1
theorem sdX8_choiceMany_12 : dz_Seg cX8_choiceMany [(12, .iinc 2 1, 3), (15, .goto (-13), 3), (18, .iload_n 2, 1), (19, .ireturn, 1)] := dz_sg _ 12 (by decide +kernel)
theorem dX8_choiceMany_12 : decode cX8_choiceMany 12 = .ok (.iinc 2 1, 3) := sdX8_choiceMany_12.1
theorem dX8_choiceMany_15 : decode cX8_choiceMany 15 = .ok (.goto (-13), 3) := sdX8_choiceMany_12.2.1
theorem dX8_choiceMany_18 : decode cX8_choiceMany 18 = .ok (.iload_n 2, 1) := sdX8_choiceMany_12.2.2.1
theorem dX8_choiceMany_19 : decode cX8_choiceMany 19 = .ok (.ireturn, 1) := sdX8_choiceMany_12.2.2.2.1
theorem sdX8_placeOf_0 : dz_Seg cX8_placeOf [(0, .iconst 0, 1), (1, .istore_n 3, 1), (2, .iload_n 3, 1), (3, .aload_n 0, 1), (4, .iload_n 1, 1), (5, .invokevirtual 288, 3), (8, .if_icmp .ge 21, 3), (11, .aload_n 0, 1)] := dz_sg _ 0 (by decide +kernel)
theorem dX8_placeOf_0 : decode cX8_placeOf 0 = .ok (.iconst 0, 1) := sdX8_placeOf_0.1
theorem dX8_placeOf_1 : decode cX8_placeOf 1 = .ok (.istore_n 3, 1) := sdX8_placeOf_0.2.1
theorem dX8_placeOf_2 : decode cX8_placeOf 2 = .ok (.iload_n 3, 1) := sdX8_placeOf_0.2.2.1
theorem dX8_placeOf_3 : decode cX8_placeOf 3 = .ok (.aload_n 0, 1) := sdX8_placeOf_0.2.2.2.1
theorem dX8_placeOf_4 : decode cX8_placeOf 4 = .ok (.iload_n 1, 1) := sdX8_placeOf_0.2.2.2.2.1
theorem dX8_placeOf_5 : decode cX8_placeOf 5 = .ok (.invokevirtual 288, 3) := sdX8_placeOf_0.2.2.2.2.2.1
theorem dX8_placeOf_8 : decode cX8_placeOf 8 = .ok (.if_icmp .ge 21, 3) := sdX8_placeOf_0.2.2.2.2.2.2.1
theorem dX8_placeOf_11 : decode cX8_placeOf 11 = .ok (.aload_n 0, 1) := sdX8_placeOf_0.2.2.2.2.2.2.2.1
theorem sdX8_placeOf_12 : dz_Seg cX8_placeOf [(12, .iload_n 1, 1), (13, .iload_n 3, 1), (14, .invokevirtual 284, 3), (17, .iload_n 2, 1), (18, .if_icmp .ne 5, 3), (21, .iload_n 3, 1), (22, .ireturn, 1), (23, .iinc 3 1, 3)] := dz_sg _ 12 (by decide +kernel)
theorem dX8_placeOf_12 : decode cX8_placeOf 12 = .ok (.iload_n 1, 1) := sdX8_placeOf_12.1
theorem dX8_placeOf_13 : decode cX8_placeOf 13 = .ok (.iload_n 3, 1) := sdX8_placeOf_12.2.1
theorem dX8_placeOf_14 : decode cX8_placeOf 14 = .ok (.invokevirtual 284, 3) := sdX8_placeOf_12.2.2.1
theorem dX8_placeOf_17 : decode cX8_placeOf 17 = .ok (.iload_n 2, 1) := sdX8_placeOf_12.2.2.2.1
theorem dX8_placeOf_18 : decode cX8_placeOf 18 = .ok (.if_icmp .ne 5, 3) := sdX8_placeOf_12.2.2.2.2.1
theorem dX8_placeOf_21 : decode cX8_placeOf 21 = .ok (.iload_n 3, 1) := sdX8_placeOf_12.2.2.2.2.2.1
theorem dX8_placeOf_22 : decode cX8_placeOf 22 = .ok (.ireturn, 1) := sdX8_placeOf_12.2.2.2.2.2.2.1
theorem dX8_placeOf_23 : decode cX8_placeOf 23 = .ok (.iinc 3 1, 3) := sdX8_placeOf_12.2.2.2.2.2.2.2.1
theorem sdX8_placeOf_26 : dz_Seg cX8_placeOf [(26, .goto (-24), 3), (29, .iconst (-1), 1), (30, .ireturn, 1)] := dz_sg _ 26 (by decide +kernel)
theorem dX8_placeOf_26 : decode cX8_placeOf 26 = .ok (.goto (-24), 3) := sdX8_placeOf_26.1
theorem dX8_placeOf_29 : decode cX8_placeOf 29 = .ok (.iconst (-1), 1) := sdX8_placeOf_26.2.1
theorem dX8_placeOf_30 : decode cX8_placeOf 30 = .ok (.ireturn, 1) := sdX8_placeOf_26.2.2.1
theorem sdX8_applicantOf_0 : dz_Seg cX8_applicantOf [(0, .aload_n 0, 1), (1, .invokevirtual 281, 3), (4, .iconst 0, 1), (5, .istore_n 2, 1), (6, .aload_n 0, 1), (7, .getfield 49, 3), (10, .iload_n 2, 1), (11, .iaload, 1)] := dz_sg _ 0 (by decide +kernel)
theorem dX8_applicantOf_0 : decode cX8_applicantOf 0 = .ok (.aload_n 0, 1) := sdX8_applicantOf_0.1
theorem dX8_applicantOf_1 : decode cX8_applicantOf 1 = .ok (.invokevirtual 281, 3) := sdX8_applicantOf_0.2.1
theorem dX8_applicantOf_4 : decode cX8_applicantOf 4 = .ok (.iconst 0, 1) := sdX8_applicantOf_0.2.2.1
theorem dX8_applicantOf_5 : decode cX8_applicantOf 5 = .ok (.istore_n 2, 1) := sdX8_applicantOf_0.2.2.2.1
theorem dX8_applicantOf_6 : decode cX8_applicantOf 6 = .ok (.aload_n 0, 1) := sdX8_applicantOf_0.2.2.2.2.1
theorem dX8_applicantOf_7 : decode cX8_applicantOf 7 = .ok (.getfield 49, 3) := sdX8_applicantOf_0.2.2.2.2.2.1
theorem dX8_applicantOf_10 : decode cX8_applicantOf 10 = .ok (.iload_n 2, 1) := sdX8_applicantOf_0.2.2.2.2.2.2.1
theorem dX8_applicantOf_11 : decode cX8_applicantOf 11 = .ok (.iaload, 1) := sdX8_applicantOf_0.2.2.2.2.2.2.2.1
theorem sdX8_applicantOf_12 : dz_Seg cX8_applicantOf [(12, .iload_n 1, 1), (13, .invokestatic 240, 3), (16, .ifCond .ne 9, 3), (19, .iinc 2 1, 3), (22, .goto (-16), 3), (25, .iload_n 2, 1), (26, .ireturn, 1)] := dz_sg _ 12 (by decide +kernel)
theorem dX8_applicantOf_12 : decode cX8_applicantOf 12 = .ok (.iload_n 1, 1) := sdX8_applicantOf_12.1
theorem dX8_applicantOf_13 : decode cX8_applicantOf 13 = .ok (.invokestatic 240, 3) := sdX8_applicantOf_12.2.1
theorem dX8_applicantOf_16 : decode cX8_applicantOf 16 = .ok (.ifCond .ne 9, 3) := sdX8_applicantOf_12.2.2.1
theorem dX8_applicantOf_19 : decode cX8_applicantOf 19 = .ok (.iinc 2 1, 3) := sdX8_applicantOf_12.2.2.2.1
theorem dX8_applicantOf_22 : decode cX8_applicantOf 22 = .ok (.goto (-16), 3) := sdX8_applicantOf_12.2.2.2.2.1
theorem dX8_applicantOf_25 : decode cX8_applicantOf 25 = .ok (.iload_n 2, 1) := sdX8_applicantOf_12.2.2.2.2.2.1
theorem dX8_applicantOf_26 : decode cX8_applicantOf 26 = .ok (.ireturn, 1) := sdX8_applicantOf_12.2.2.2.2.2.2.1
theorem sdX8_many_0 : dz_Seg cX8_many [(0, .aload_n 0, 1), (1, .invokevirtual 281, 3), (4, .iconst 0, 1), (5, .istore_n 2, 1), (6, .iload_n 1, 1)] := dz_sg _ 0 (by decide +kernel)
theorem dX8_many_0 : decode cX8_many 0 = .ok (.aload_n 0, 1) := sdX8_many_0.1
theorem dX8_many_1 : decode cX8_many 1 = .ok (.invokevirtual 281, 3) := sdX8_many_0.2.1
theorem dX8_many_4 : decode cX8_many 4 = .ok (.iconst 0, 1) := sdX8_many_0.2.2.1
theorem dX8_many_5 : decode cX8_many 5 = .ok (.istore_n 2, 1) := sdX8_many_0.2.2.2.1
theorem dX8_many_6 : decode cX8_many 6 = .ok (.iload_n 1, 1) := sdX8_many_0.2.2.2.2.1
theorem dX8_many_7 : decode cX8_many 7 = .ok (.tableswitch 226 0 10 #[57, 66, 75, 87, 96, 108, 120, 132, 144, 153, 187], 57) := by decide +kernel
theorem sdX8_many_64 : dz_Seg cX8_many [(64, .aload_n 0, 1), (65, .aload_n 0, 1), (66, .getfield 125, 3), (69, .invokevirtual 272, 3), (72, .ireturn, 1), (73, .aload_n 0, 1), (74, .aload_n 0, 1), (75, .getfield 132, 3)] := dz_sg _ 64 (by decide +kernel)
theorem dX8_many_64 : decode cX8_many 64 = .ok (.aload_n 0, 1) := sdX8_many_64.1
theorem dX8_many_65 : decode cX8_many 65 = .ok (.aload_n 0, 1) := sdX8_many_64.2.1
theorem dX8_many_66 : decode cX8_many 66 = .ok (.getfield 125, 3) := sdX8_many_64.2.2.1
theorem dX8_many_69 : decode cX8_many 69 = .ok (.invokevirtual 272, 3) := sdX8_many_64.2.2.2.1
theorem dX8_many_72 : decode cX8_many 72 = .ok (.ireturn, 1) := sdX8_many_64.2.2.2.2.1
theorem dX8_many_73 : decode cX8_many 73 = .ok (.aload_n 0, 1) := sdX8_many_64.2.2.2.2.2.1
theorem dX8_many_74 : decode cX8_many 74 = .ok (.aload_n 0, 1) := sdX8_many_64.2.2.2.2.2.2.1
theorem dX8_many_75 : decode cX8_many 75 = .ok (.getfield 132, 3) := sdX8_many_64.2.2.2.2.2.2.2.1
theorem sdX8_many_78 : dz_Seg cX8_many [(78, .invokevirtual 272, 3), (81, .ireturn, 1), (82, .aload_n 0, 1), (83, .aload_n 0, 1), (84, .getfield 7, 3), (87, .bipush 70, 2), (89, .iaload, 1), (90, .invokevirtual 272, 3)] := dz_sg _ 78 (by decide +kernel)
theorem dX8_many_78 : decode cX8_many 78 = .ok (.invokevirtual 272, 3) := sdX8_many_78.1
theorem dX8_many_81 : decode cX8_many 81 = .ok (.ireturn, 1) := sdX8_many_78.2.1
theorem dX8_many_82 : decode cX8_many 82 = .ok (.aload_n 0, 1) := sdX8_many_78.2.2.1
theorem dX8_many_83 : decode cX8_many 83 = .ok (.aload_n 0, 1) := sdX8_many_78.2.2.2.1
theorem dX8_many_84 : decode cX8_many 84 = .ok (.getfield 7, 3) := sdX8_many_78.2.2.2.2.1
theorem dX8_many_87 : decode cX8_many 87 = .ok (.bipush 70, 2) := sdX8_many_78.2.2.2.2.2.1
theorem dX8_many_89 : decode cX8_many 89 = .ok (.iaload, 1) := sdX8_many_78.2.2.2.2.2.2.1
theorem dX8_many_90 : decode cX8_many 90 = .ok (.invokevirtual 272, 3) := sdX8_many_78.2.2.2.2.2.2.2.1
theorem sdX8_many_93 : dz_Seg cX8_many [(93, .ireturn, 1), (94, .aload_n 0, 1), (95, .aload_n 0, 1), (96, .getfield 275, 3), (99, .invokevirtual 272, 3), (102, .ireturn, 1), (103, .aload_n 0, 1), (104, .aload_n 0, 1)] := dz_sg _ 93 (by decide +kernel)
theorem dX8_many_93 : decode cX8_many 93 = .ok (.ireturn, 1) := sdX8_many_93.1
theorem dX8_many_94 : decode cX8_many 94 = .ok (.aload_n 0, 1) := sdX8_many_93.2.1
theorem dX8_many_95 : decode cX8_many 95 = .ok (.aload_n 0, 1) := sdX8_many_93.2.2.1
theorem dX8_many_96 : decode cX8_many 96 = .ok (.getfield 275, 3) := sdX8_many_93.2.2.2.1
theorem dX8_many_99 : decode cX8_many 99 = .ok (.invokevirtual 272, 3) := sdX8_many_93.2.2.2.2.1
theorem dX8_many_102 : decode cX8_many 102 = .ok (.ireturn, 1) := sdX8_many_93.2.2.2.2.2.1
theorem dX8_many_103 : decode cX8_many 103 = .ok (.aload_n 0, 1) := sdX8_many_93.2.2.2.2.2.2.1
theorem dX8_many_104 : decode cX8_many 104 = .ok (.aload_n 0, 1) := sdX8_many_93.2.2.2.2.2.2.2.1
theorem sdX8_many_105 : dz_Seg cX8_many [(105, .getfield 7, 3), (108, .bipush 67, 2), (110, .iaload, 1), (111, .invokevirtual 272, 3), (114, .ireturn, 1), (115, .aload_n 0, 1), (116, .aload_n 0, 1), (117, .getfield 7, 3)] := dz_sg _ 105 (by decide +kernel)
theorem dX8_many_105 : decode cX8_many 105 = .ok (.getfield 7, 3) := sdX8_many_105.1
theorem dX8_many_108 : decode cX8_many 108 = .ok (.bipush 67, 2) := sdX8_many_105.2.1
theorem dX8_many_110 : decode cX8_many 110 = .ok (.iaload, 1) := sdX8_many_105.2.2.1
theorem dX8_many_111 : decode cX8_many 111 = .ok (.invokevirtual 272, 3) := sdX8_many_105.2.2.2.1
theorem dX8_many_114 : decode cX8_many 114 = .ok (.ireturn, 1) := sdX8_many_105.2.2.2.2.1
theorem dX8_many_115 : decode cX8_many 115 = .ok (.aload_n 0, 1) := sdX8_many_105.2.2.2.2.2.1
theorem dX8_many_116 : decode cX8_many 116 = .ok (.aload_n 0, 1) := sdX8_many_105.2.2.2.2.2.2.1
theorem dX8_many_117 : decode cX8_many 117 = .ok (.getfield 7, 3) := sdX8_many_105.2.2.2.2.2.2.2.1
theorem sdX8_many_120 : dz_Seg cX8_many [(120, .bipush 68, 2), (122, .iaload, 1), (123, .invokevirtual 272, 3), (126, .ireturn, 1), (127, .aload_n 0, 1), (128, .aload_n 0, 1), (129, .getfield 7, 3), (132, .bipush 69, 2)] := dz_sg _ 120 (by decide +kernel)
theorem dX8_many_120 : decode cX8_many 120 = .ok (.bipush 68, 2) := sdX8_many_120.1
theorem dX8_many_122 : decode cX8_many 122 = .ok (.iaload, 1) := sdX8_many_120.2.1
theorem dX8_many_123 : decode cX8_many 123 = .ok (.invokevirtual 272, 3) := sdX8_many_120.2.2.1
theorem dX8_many_126 : decode cX8_many 126 = .ok (.ireturn, 1) := sdX8_many_120.2.2.2.1
theorem dX8_many_127 : decode cX8_many 127 = .ok (.aload_n 0, 1) := sdX8_many_120.2.2.2.2.1
theorem dX8_many_128 : decode cX8_many 128 = .ok (.aload_n 0, 1) := sdX8_many_120.2.2.2.2.2.1
theorem dX8_many_129 : decode cX8_many 129 = .ok (.getfield 7, 3) := sdX8_many_120.2.2.2.2.2.2.1
theorem dX8_many_132 : decode cX8_many 132 = .ok (.bipush 69, 2) := sdX8_many_120.2.2.2.2.2.2.2.1
theorem sdX8_many_134 : dz_Seg cX8_many [(134, .iaload, 1), (135, .invokevirtual 272, 3), (138, .ireturn, 1), (139, .aload_n 0, 1), (140, .aload_n 0, 1), (141, .getfield 7, 3), (144, .bipush 71, 2), (146, .iaload, 1)] := dz_sg _ 134 (by decide +kernel)
theorem dX8_many_134 : decode cX8_many 134 = .ok (.iaload, 1) := sdX8_many_134.1
theorem dX8_many_135 : decode cX8_many 135 = .ok (.invokevirtual 272, 3) := sdX8_many_134.2.1
theorem dX8_many_138 : decode cX8_many 138 = .ok (.ireturn, 1) := sdX8_many_134.2.2.1
theorem dX8_many_139 : decode cX8_many 139 = .ok (.aload_n 0, 1) := sdX8_many_134.2.2.2.1
theorem dX8_many_140 : decode cX8_many 140 = .ok (.aload_n 0, 1) := sdX8_many_134.2.2.2.2.1
theorem dX8_many_141 : decode cX8_many 141 = .ok (.getfield 7, 3) := sdX8_many_134.2.2.2.2.2.1
theorem dX8_many_144 : decode cX8_many 144 = .ok (.bipush 71, 2) := sdX8_many_134.2.2.2.2.2.2.1
theorem dX8_many_146 : decode cX8_many 146 = .ok (.iaload, 1) := sdX8_many_134.2.2.2.2.2.2.2.1
theorem sdX8_many_147 : dz_Seg cX8_many [(147, .invokevirtual 272, 3), (150, .ireturn, 1), (151, .aload_n 0, 1), (152, .aload_n 0, 1), (153, .getfield 269, 3), (156, .invokevirtual 272, 3), (159, .ireturn, 1), (160, .iconst 0, 1)] := dz_sg _ 147 (by decide +kernel)
theorem dX8_many_147 : decode cX8_many 147 = .ok (.invokevirtual 272, 3) := sdX8_many_147.1
theorem dX8_many_150 : decode cX8_many 150 = .ok (.ireturn, 1) := sdX8_many_147.2.1
theorem dX8_many_151 : decode cX8_many 151 = .ok (.aload_n 0, 1) := sdX8_many_147.2.2.1
theorem dX8_many_152 : decode cX8_many 152 = .ok (.aload_n 0, 1) := sdX8_many_147.2.2.2.1
theorem dX8_many_153 : decode cX8_many 153 = .ok (.getfield 269, 3) := sdX8_many_147.2.2.2.2.1
theorem dX8_many_156 : decode cX8_many 156 = .ok (.invokevirtual 272, 3) := sdX8_many_147.2.2.2.2.2.1
theorem dX8_many_159 : decode cX8_many 159 = .ok (.ireturn, 1) := sdX8_many_147.2.2.2.2.2.2.1
theorem dX8_many_160 : decode cX8_many 160 = .ok (.iconst 0, 1) := sdX8_many_147.2.2.2.2.2.2.2.1
theorem sdX8_many_161 : dz_Seg cX8_many [(161, .istore_n 3, 1), (162, .iload_n 3, 1), (163, .aload_n 0, 1), (164, .getfield 125, 3), (167, .if_icmp .ge 21, 3), (170, .iload_n 2, 1), (171, .aload_n 0, 1), (172, .getfield 7, 3)] := dz_sg _ 161 (by decide +kernel)
theorem dX8_many_161 : decode cX8_many 161 = .ok (.istore_n 3, 1) := sdX8_many_161.1
theorem dX8_many_162 : decode cX8_many 162 = .ok (.iload_n 3, 1) := sdX8_many_161.2.1
theorem dX8_many_163 : decode cX8_many 163 = .ok (.aload_n 0, 1) := sdX8_many_161.2.2.1
theorem dX8_many_164 : decode cX8_many 164 = .ok (.getfield 125, 3) := sdX8_many_161.2.2.2.1
theorem dX8_many_167 : decode cX8_many 167 = .ok (.if_icmp .ge 21, 3) := sdX8_many_161.2.2.2.2.1
theorem dX8_many_170 : decode cX8_many 170 = .ok (.iload_n 2, 1) := sdX8_many_161.2.2.2.2.2.1
theorem dX8_many_171 : decode cX8_many 171 = .ok (.aload_n 0, 1) := sdX8_many_161.2.2.2.2.2.2.1
theorem dX8_many_172 : decode cX8_many 172 = .ok (.getfield 7, 3) := sdX8_many_161.2.2.2.2.2.2.2.1
theorem sdX8_many_175 : dz_Seg cX8_many [(175, .bipush 62, 2), (177, .iload_n 3, 1), (178, .iadd, 1), (179, .iaload, 1), (180, .iadd, 1), (181, .istore_n 2, 1), (182, .iinc 3 1, 3), (185, .goto (-23), 3)] := dz_sg _ 175 (by decide +kernel)
theorem dX8_many_175 : decode cX8_many 175 = .ok (.bipush 62, 2) := sdX8_many_175.1
theorem dX8_many_177 : decode cX8_many 177 = .ok (.iload_n 3, 1) := sdX8_many_175.2.1
theorem dX8_many_178 : decode cX8_many 178 = .ok (.iadd, 1) := sdX8_many_175.2.2.1
theorem dX8_many_179 : decode cX8_many 179 = .ok (.iaload, 1) := sdX8_many_175.2.2.2.1
theorem dX8_many_180 : decode cX8_many 180 = .ok (.iadd, 1) := sdX8_many_175.2.2.2.2.1
theorem dX8_many_181 : decode cX8_many 181 = .ok (.istore_n 2, 1) := sdX8_many_175.2.2.2.2.2.1
theorem dX8_many_182 : decode cX8_many 182 = .ok (.iinc 3 1, 3) := sdX8_many_175.2.2.2.2.2.2.1
theorem dX8_many_185 : decode cX8_many 185 = .ok (.goto (-23), 3) := sdX8_many_175.2.2.2.2.2.2.2.1
theorem sdX8_many_188 : dz_Seg cX8_many [(188, .aload_n 0, 1), (189, .iload_n 2, 1), (190, .invokevirtual 272, 3), (193, .ireturn, 1), (194, .iconst 0, 1), (195, .istore_n 3, 1), (196, .iload_n 3, 1), (197, .aload_n 0, 1)] := dz_sg _ 188 (by decide +kernel)
theorem dX8_many_188 : decode cX8_many 188 = .ok (.aload_n 0, 1) := sdX8_many_188.1
theorem dX8_many_189 : decode cX8_many 189 = .ok (.iload_n 2, 1) := sdX8_many_188.2.1
theorem dX8_many_190 : decode cX8_many 190 = .ok (.invokevirtual 272, 3) := sdX8_many_188.2.2.1
theorem dX8_many_193 : decode cX8_many 193 = .ok (.ireturn, 1) := sdX8_many_188.2.2.2.1
theorem dX8_many_194 : decode cX8_many 194 = .ok (.iconst 0, 1) := sdX8_many_188.2.2.2.2.1
theorem dX8_many_195 : decode cX8_many 195 = .ok (.istore_n 3, 1) := sdX8_many_188.2.2.2.2.2.1
theorem dX8_many_196 : decode cX8_many 196 = .ok (.iload_n 3, 1) := sdX8_many_188.2.2.2.2.2.2.1
theorem dX8_many_197 : decode cX8_many 197 = .ok (.aload_n 0, 1) := sdX8_many_188.2.2.2.2.2.2.2.1
theorem sdX8_many_198 : dz_Seg cX8_many [(198, .getfield 132, 3), (201, .if_icmp .ge 26, 3), (204, .iload_n 2, 1), (205, .aload_n 0, 1), (206, .getfield 22, 3), (209, .iload_n 3, 1), (210, .baload, 1), (211, .ifCond .eq 7, 3)] := dz_sg _ 198 (by decide +kernel)
theorem dX8_many_198 : decode cX8_many 198 = .ok (.getfield 132, 3) := sdX8_many_198.1
theorem dX8_many_201 : decode cX8_many 201 = .ok (.if_icmp .ge 26, 3) := sdX8_many_198.2.1
theorem dX8_many_204 : decode cX8_many 204 = .ok (.iload_n 2, 1) := sdX8_many_198.2.2.1
theorem dX8_many_205 : decode cX8_many 205 = .ok (.aload_n 0, 1) := sdX8_many_198.2.2.2.1
theorem dX8_many_206 : decode cX8_many 206 = .ok (.getfield 22, 3) := sdX8_many_198.2.2.2.2.1
theorem dX8_many_209 : decode cX8_many 209 = .ok (.iload_n 3, 1) := sdX8_many_198.2.2.2.2.2.1
theorem dX8_many_210 : decode cX8_many 210 = .ok (.baload, 1) := sdX8_many_198.2.2.2.2.2.2.1
theorem dX8_many_211 : decode cX8_many 211 = .ok (.ifCond .eq 7, 3) := sdX8_many_198.2.2.2.2.2.2.2.1
theorem sdX8_many_214 : dz_Seg cX8_many [(214, .iconst 1, 1), (215, .goto 4, 3), (218, .iconst 0, 1), (219, .iadd, 1), (220, .istore_n 2, 1), (221, .iinc 3 1, 3), (224, .goto (-28), 3), (227, .aload_n 0, 1)] := dz_sg _ 214 (by decide +kernel)
theorem dX8_many_214 : decode cX8_many 214 = .ok (.iconst 1, 1) := sdX8_many_214.1
theorem dX8_many_215 : decode cX8_many 215 = .ok (.goto 4, 3) := sdX8_many_214.2.1
theorem dX8_many_218 : decode cX8_many 218 = .ok (.iconst 0, 1) := sdX8_many_214.2.2.1
theorem dX8_many_219 : decode cX8_many 219 = .ok (.iadd, 1) := sdX8_many_214.2.2.2.1
theorem dX8_many_220 : decode cX8_many 220 = .ok (.istore_n 2, 1) := sdX8_many_214.2.2.2.2.1
theorem dX8_many_221 : decode cX8_many 221 = .ok (.iinc 3 1, 3) := sdX8_many_214.2.2.2.2.2.1
theorem dX8_many_224 : decode cX8_many 224 = .ok (.goto (-28), 3) := sdX8_many_214.2.2.2.2.2.2.1
theorem dX8_many_227 : decode cX8_many 227 = .ok (.aload_n 0, 1) := sdX8_many_214.2.2.2.2.2.2.2.1
theorem sdX8_many_228 : dz_Seg cX8_many [(228, .iload_n 2, 1), (229, .invokevirtual 272, 3), (232, .ireturn, 1), (233, .aload_n 0, 1), (234, .iconst 1, 1), (235, .invokevirtual 263, 3), (238, .ireturn, 1)] := dz_sg _ 228 (by decide +kernel)
theorem dX8_many_228 : decode cX8_many 228 = .ok (.iload_n 2, 1) := sdX8_many_228.1
theorem dX8_many_229 : decode cX8_many 229 = .ok (.invokevirtual 272, 3) := sdX8_many_228.2.1
theorem dX8_many_232 : decode cX8_many 232 = .ok (.ireturn, 1) := sdX8_many_228.2.2.1
theorem dX8_many_233 : decode cX8_many 233 = .ok (.aload_n 0, 1) := sdX8_many_228.2.2.2.1
theorem dX8_many_234 : decode cX8_many 234 = .ok (.iconst 1, 1) := sdX8_many_228.2.2.2.2.1
theorem dX8_many_235 : decode cX8_many 235 = .ok (.invokevirtual 263, 3) := sdX8_many_228.2.2.2.2.2.1
theorem dX8_many_238 : decode cX8_many 238 = .ok (.ireturn, 1) := sdX8_many_228.2.2.2.2.2.2.1
theorem sdX8_hunter_0 : dz_Seg cX8_hunter [(0, .iload_n 2, 1), (1, .i2l, 1), (2, .lconst 0, 1), (3, .ldc2_w 291, 3), (6, .invokestatic 128, 3), (9, .ifCond .ne 9, 3), (12, .aload_n 0, 1), (13, .iconst 1, 1)] := dz_sg _ 0 (by decide +kernel)
theorem dX8_hunter_0 : decode cX8_hunter 0 = .ok (.iload_n 2, 1) := sdX8_hunter_0.1
theorem dX8_hunter_1 : decode cX8_hunter 1 = .ok (.i2l, 1) := sdX8_hunter_0.2.1
theorem dX8_hunter_2 : decode cX8_hunter 2 = .ok (.lconst 0, 1) := sdX8_hunter_0.2.2.1
theorem dX8_hunter_3 : decode cX8_hunter 3 = .ok (.ldc2_w 291, 3) := sdX8_hunter_0.2.2.2.1
theorem dX8_hunter_6 : decode cX8_hunter 6 = .ok (.invokestatic 128, 3) := sdX8_hunter_0.2.2.2.2.1
theorem dX8_hunter_9 : decode cX8_hunter 9 = .ok (.ifCond .ne 9, 3) := sdX8_hunter_0.2.2.2.2.2.1
theorem dX8_hunter_12 : decode cX8_hunter 12 = .ok (.aload_n 0, 1) := sdX8_hunter_0.2.2.2.2.2.2.1
theorem dX8_hunter_13 : decode cX8_hunter 13 = .ok (.iconst 1, 1) := sdX8_hunter_0.2.2.2.2.2.2.2.1
theorem sdX8_hunter_14 : dz_Seg cX8_hunter [(14, .invokevirtual 263, 3), (17, .ireturn, 1), (18, .aload_n 0, 1), (19, .iload_n 1, 1), (20, .invokevirtual 293, 3), (23, .ifCond .ne 9, 3), (26, .aload_n 0, 1), (27, .iconst 2, 1)] := dz_sg _ 14 (by decide +kernel)
theorem dX8_hunter_14 : decode cX8_hunter 14 = .ok (.invokevirtual 263, 3) := sdX8_hunter_14.1
theorem dX8_hunter_17 : decode cX8_hunter 17 = .ok (.ireturn, 1) := sdX8_hunter_14.2.1
theorem dX8_hunter_18 : decode cX8_hunter 18 = .ok (.aload_n 0, 1) := sdX8_hunter_14.2.2.1
theorem dX8_hunter_19 : decode cX8_hunter 19 = .ok (.iload_n 1, 1) := sdX8_hunter_14.2.2.2.1
theorem dX8_hunter_20 : decode cX8_hunter 20 = .ok (.invokevirtual 293, 3) := sdX8_hunter_14.2.2.2.2.1
theorem dX8_hunter_23 : decode cX8_hunter 23 = .ok (.ifCond .ne 9, 3) := sdX8_hunter_14.2.2.2.2.2.1
theorem dX8_hunter_26 : decode cX8_hunter 26 = .ok (.aload_n 0, 1) := sdX8_hunter_14.2.2.2.2.2.2.1
theorem dX8_hunter_27 : decode cX8_hunter 27 = .ok (.iconst 2, 1) := sdX8_hunter_14.2.2.2.2.2.2.2.1
theorem sdX8_hunter_28 : dz_Seg cX8_hunter [(28, .invokevirtual 263, 3), (31, .ireturn, 1), (32, .iload_n 2, 1)] := dz_sg _ 28 (by decide +kernel)
theorem dX8_hunter_28 : decode cX8_hunter 28 = .ok (.invokevirtual 263, 3) := sdX8_hunter_28.1
theorem dX8_hunter_31 : decode cX8_hunter 31 = .ok (.ireturn, 1) := sdX8_hunter_28.2.1
theorem dX8_hunter_32 : decode cX8_hunter 32 = .ok (.iload_n 2, 1) := sdX8_hunter_28.2.2.1
theorem dX8_hunter_33 : decode cX8_hunter 33 = .ok (.tableswitch 87 0 3 #[31, 44, 63, 77], 31) := by decide +kernel
theorem sdX8_hunter_64 : dz_Seg cX8_hunter [(64, .aload_n 0, 1), (65, .aload_n 0, 1), (66, .getfield 7, 3), (69, .iconst 0, 1), (70, .iload_n 1, 1), (71, .iadd, 1), (72, .iaload, 1), (73, .invokevirtual 272, 3)] := dz_sg _ 64 (by decide +kernel)
theorem dX8_hunter_64 : decode cX8_hunter 64 = .ok (.aload_n 0, 1) := sdX8_hunter_64.1
theorem dX8_hunter_65 : decode cX8_hunter 65 = .ok (.aload_n 0, 1) := sdX8_hunter_64.2.1
theorem dX8_hunter_66 : decode cX8_hunter 66 = .ok (.getfield 7, 3) := sdX8_hunter_64.2.2.1
theorem dX8_hunter_69 : decode cX8_hunter 69 = .ok (.iconst 0, 1) := sdX8_hunter_64.2.2.2.1
theorem dX8_hunter_70 : decode cX8_hunter 70 = .ok (.iload_n 1, 1) := sdX8_hunter_64.2.2.2.2.1
theorem dX8_hunter_71 : decode cX8_hunter 71 = .ok (.iadd, 1) := sdX8_hunter_64.2.2.2.2.2.1
theorem dX8_hunter_72 : decode cX8_hunter 72 = .ok (.iaload, 1) := sdX8_hunter_64.2.2.2.2.2.2.1
theorem dX8_hunter_73 : decode cX8_hunter 73 = .ok (.invokevirtual 272, 3) := sdX8_hunter_64.2.2.2.2.2.2.2.1
theorem sdX8_hunter_76 : dz_Seg cX8_hunter [(76, .ireturn, 1), (77, .aload_n 0, 1), (78, .aload_n 0, 1), (79, .getfield 22, 3), (82, .iload_n 1, 1), (83, .baload, 1), (84, .ifCond .eq 7, 3), (87, .iconst 1, 1)] := dz_sg _ 76 (by decide +kernel)
theorem dX8_hunter_76 : decode cX8_hunter 76 = .ok (.ireturn, 1) := sdX8_hunter_76.1
theorem dX8_hunter_77 : decode cX8_hunter 77 = .ok (.aload_n 0, 1) := sdX8_hunter_76.2.1
theorem dX8_hunter_78 : decode cX8_hunter 78 = .ok (.aload_n 0, 1) := sdX8_hunter_76.2.2.1
theorem dX8_hunter_79 : decode cX8_hunter 79 = .ok (.getfield 22, 3) := sdX8_hunter_76.2.2.2.1
theorem dX8_hunter_82 : decode cX8_hunter 82 = .ok (.iload_n 1, 1) := sdX8_hunter_76.2.2.2.2.1
theorem dX8_hunter_83 : decode cX8_hunter 83 = .ok (.baload, 1) := sdX8_hunter_76.2.2.2.2.2.1
theorem dX8_hunter_84 : decode cX8_hunter 84 = .ok (.ifCond .eq 7, 3) := sdX8_hunter_76.2.2.2.2.2.2.1
theorem dX8_hunter_87 : decode cX8_hunter 87 = .ok (.iconst 1, 1) := sdX8_hunter_76.2.2.2.2.2.2.2.1
theorem sdX8_hunter_88 : dz_Seg cX8_hunter [(88, .goto 4, 3), (91, .iconst 0, 1), (92, .invokevirtual 272, 3), (95, .ireturn, 1), (96, .aload_n 0, 1), (97, .aload_n 0, 1), (98, .getfield 7, 3), (101, .bipush 10, 2)] := dz_sg _ 88 (by decide +kernel)
theorem dX8_hunter_88 : decode cX8_hunter 88 = .ok (.goto 4, 3) := sdX8_hunter_88.1
theorem dX8_hunter_91 : decode cX8_hunter 91 = .ok (.iconst 0, 1) := sdX8_hunter_88.2.1
theorem dX8_hunter_92 : decode cX8_hunter 92 = .ok (.invokevirtual 272, 3) := sdX8_hunter_88.2.2.1
theorem dX8_hunter_95 : decode cX8_hunter 95 = .ok (.ireturn, 1) := sdX8_hunter_88.2.2.2.1
theorem dX8_hunter_96 : decode cX8_hunter 96 = .ok (.aload_n 0, 1) := sdX8_hunter_88.2.2.2.2.1
theorem dX8_hunter_97 : decode cX8_hunter 97 = .ok (.aload_n 0, 1) := sdX8_hunter_88.2.2.2.2.2.1
theorem dX8_hunter_98 : decode cX8_hunter 98 = .ok (.getfield 7, 3) := sdX8_hunter_88.2.2.2.2.2.2.1
theorem dX8_hunter_101 : decode cX8_hunter 101 = .ok (.bipush 10, 2) := sdX8_hunter_88.2.2.2.2.2.2.2.1
theorem sdX8_hunter_103 : dz_Seg cX8_hunter [(103, .iload_n 1, 1), (104, .iadd, 1), (105, .iaload, 1), (106, .invokevirtual 272, 3), (109, .ireturn, 1), (110, .aload_n 0, 1), (111, .aload_n 0, 1), (112, .iload_n 1, 1)] := dz_sg _ 103 (by decide +kernel)
theorem dX8_hunter_103 : decode cX8_hunter 103 = .ok (.iload_n 1, 1) := sdX8_hunter_103.1
theorem dX8_hunter_104 : decode cX8_hunter 104 = .ok (.iadd, 1) := sdX8_hunter_103.2.1
theorem dX8_hunter_105 : decode cX8_hunter 105 = .ok (.iaload, 1) := sdX8_hunter_103.2.2.1
theorem dX8_hunter_106 : decode cX8_hunter 106 = .ok (.invokevirtual 272, 3) := sdX8_hunter_103.2.2.2.1
theorem dX8_hunter_109 : decode cX8_hunter 109 = .ok (.ireturn, 1) := sdX8_hunter_103.2.2.2.2.1
theorem dX8_hunter_110 : decode cX8_hunter 110 = .ok (.aload_n 0, 1) := sdX8_hunter_103.2.2.2.2.2.1
theorem dX8_hunter_111 : decode cX8_hunter 111 = .ok (.aload_n 0, 1) := sdX8_hunter_103.2.2.2.2.2.2.1
theorem dX8_hunter_112 : decode cX8_hunter 112 = .ok (.iload_n 1, 1) := sdX8_hunter_103.2.2.2.2.2.2.2.1
theorem sdX8_hunter_113 : dz_Seg cX8_hunter [(113, .invokevirtual 296, 3), (116, .invokevirtual 272, 3), (119, .ireturn, 1), (120, .aload_n 0, 1), (121, .aload_n 0, 1), (122, .getfield 7, 3), (125, .bipush 72, 2), (127, .iload_n 1, 1)] := dz_sg _ 113 (by decide +kernel)
theorem dX8_hunter_113 : decode cX8_hunter 113 = .ok (.invokevirtual 296, 3) := sdX8_hunter_113.1
theorem dX8_hunter_116 : decode cX8_hunter 116 = .ok (.invokevirtual 272, 3) := sdX8_hunter_113.2.1
theorem dX8_hunter_119 : decode cX8_hunter 119 = .ok (.ireturn, 1) := sdX8_hunter_113.2.2.1
theorem dX8_hunter_120 : decode cX8_hunter 120 = .ok (.aload_n 0, 1) := sdX8_hunter_113.2.2.2.1
theorem dX8_hunter_121 : decode cX8_hunter 121 = .ok (.aload_n 0, 1) := sdX8_hunter_113.2.2.2.2.1
theorem dX8_hunter_122 : decode cX8_hunter 122 = .ok (.getfield 7, 3) := sdX8_hunter_113.2.2.2.2.2.1
theorem dX8_hunter_125 : decode cX8_hunter 125 = .ok (.bipush 72, 2) := sdX8_hunter_113.2.2.2.2.2.2.1
theorem dX8_hunter_127 : decode cX8_hunter 127 = .ok (.iload_n 1, 1) := sdX8_hunter_113.2.2.2.2.2.2.2.1
theorem sdX8_hunter_128 : dz_Seg cX8_hunter [(128, .iadd, 1), (129, .iaload, 1), (130, .invokevirtual 272, 3), (133, .ireturn, 1)] := dz_sg _ 128 (by decide +kernel)
theorem dX8_hunter_128 : decode cX8_hunter 128 = .ok (.iadd, 1) := sdX8_hunter_128.1
theorem dX8_hunter_129 : decode cX8_hunter 129 = .ok (.iaload, 1) := sdX8_hunter_128.2.1
theorem dX8_hunter_130 : decode cX8_hunter 130 = .ok (.invokevirtual 272, 3) := sdX8_hunter_128.2.2.1
theorem dX8_hunter_133 : decode cX8_hunter 133 = .ok (.ireturn, 1) := sdX8_hunter_128.2.2.2.1
theorem sdX8_preferred_0 : dz_Seg cX8_preferred [(0, .aload_n 0, 1), (1, .getfield 7, 3), (4, .bipush 62, 2), (6, .iload_n 1, 1), (7, .iadd, 1), (8, .iaload, 1), (9, .aload_n 0, 1), (10, .getfield 7, 3)] := dz_sg _ 0 (by decide +kernel)
theorem dX8_preferred_0 : decode cX8_preferred 0 = .ok (.aload_n 0, 1) := sdX8_preferred_0.1
theorem dX8_preferred_1 : decode cX8_preferred 1 = .ok (.getfield 7, 3) := sdX8_preferred_0.2.1
theorem dX8_preferred_4 : decode cX8_preferred 4 = .ok (.bipush 62, 2) := sdX8_preferred_0.2.2.1
theorem dX8_preferred_6 : decode cX8_preferred 6 = .ok (.iload_n 1, 1) := sdX8_preferred_0.2.2.2.1
theorem dX8_preferred_7 : decode cX8_preferred 7 = .ok (.iadd, 1) := sdX8_preferred_0.2.2.2.2.1
theorem dX8_preferred_8 : decode cX8_preferred 8 = .ok (.iaload, 1) := sdX8_preferred_0.2.2.2.2.2.1
theorem dX8_preferred_9 : decode cX8_preferred 9 = .ok (.aload_n 0, 1) := sdX8_preferred_0.2.2.2.2.2.2.1
theorem dX8_preferred_10 : decode cX8_preferred 10 = .ok (.getfield 7, 3) := sdX8_preferred_0.2.2.2.2.2.2.2.1
theorem sdX8_preferred_13 : dz_Seg cX8_preferred [(13, .bipush 68, 2), (15, .iaload, 1), (16, .imul, 1), (17, .bipush 100, 2), (19, .idiv, 1), (20, .ireturn, 1)] := dz_sg _ 13 (by decide +kernel)
theorem dX8_preferred_13 : decode cX8_preferred 13 = .ok (.bipush 68, 2) := sdX8_preferred_13.1
theorem dX8_preferred_15 : decode cX8_preferred 15 = .ok (.iaload, 1) := sdX8_preferred_13.2.1
theorem dX8_preferred_16 : decode cX8_preferred 16 = .ok (.imul, 1) := sdX8_preferred_13.2.2.1
theorem dX8_preferred_17 : decode cX8_preferred 17 = .ok (.bipush 100, 2) := sdX8_preferred_13.2.2.2.1
theorem dX8_preferred_19 : decode cX8_preferred 19 = .ok (.idiv, 1) := sdX8_preferred_13.2.2.2.2.1
theorem dX8_preferred_20 : decode cX8_preferred 20 = .ok (.ireturn, 1) := sdX8_preferred_13.2.2.2.2.2.1
theorem sdX8_forGuests_0 : dz_Seg cX8_forGuests [(0, .aload_n 0, 1), (1, .getfield 7, 3), (4, .bipush 62, 2), (6, .iload_n 1, 1), (7, .iadd, 1), (8, .iaload, 1), (9, .aload_n 0, 1), (10, .getfield 7, 3)] := dz_sg _ 0 (by decide +kernel)
theorem dX8_forGuests_0 : decode cX8_forGuests 0 = .ok (.aload_n 0, 1) := sdX8_forGuests_0.1
theorem dX8_forGuests_1 : decode cX8_forGuests 1 = .ok (.getfield 7, 3) := sdX8_forGuests_0.2.1
theorem dX8_forGuests_4 : decode cX8_forGuests 4 = .ok (.bipush 62, 2) := sdX8_forGuests_0.2.2.1
theorem dX8_forGuests_6 : decode cX8_forGuests 6 = .ok (.iload_n 1, 1) := sdX8_forGuests_0.2.2.2.1
theorem dX8_forGuests_7 : decode cX8_forGuests 7 = .ok (.iadd, 1) := sdX8_forGuests_0.2.2.2.2.1
theorem dX8_forGuests_8 : decode cX8_forGuests 8 = .ok (.iaload, 1) := sdX8_forGuests_0.2.2.2.2.2.1
theorem dX8_forGuests_9 : decode cX8_forGuests 9 = .ok (.aload_n 0, 1) := sdX8_forGuests_0.2.2.2.2.2.2.1
theorem dX8_forGuests_10 : decode cX8_forGuests 10 = .ok (.getfield 7, 3) := sdX8_forGuests_0.2.2.2.2.2.2.2.1
theorem sdX8_forGuests_13 : dz_Seg cX8_forGuests [(13, .bipush 69, 2), (15, .iaload, 1), (16, .imul, 1), (17, .bipush 100, 2), (19, .idiv, 1), (20, .ireturn, 1)] := dz_sg _ 13 (by decide +kernel)
theorem dX8_forGuests_13 : decode cX8_forGuests 13 = .ok (.bipush 69, 2) := sdX8_forGuests_13.1
theorem dX8_forGuests_15 : decode cX8_forGuests 15 = .ok (.iaload, 1) := sdX8_forGuests_13.2.1
theorem dX8_forGuests_16 : decode cX8_forGuests 16 = .ok (.imul, 1) := sdX8_forGuests_13.2.2.1
theorem dX8_forGuests_17 : decode cX8_forGuests 17 = .ok (.bipush 100, 2) := sdX8_forGuests_13.2.2.2.1
theorem dX8_forGuests_19 : decode cX8_forGuests 19 = .ok (.idiv, 1) := sdX8_forGuests_13.2.2.2.2.1
theorem dX8_forGuests_20 : decode cX8_forGuests 20 = .ok (.ireturn, 1) := sdX8_forGuests_13.2.2.2.2.2.1
theorem sdX8_unit_0 : dz_Seg cX8_unit [(0, .iload_n 2, 1), (1, .i2l, 1), (2, .lconst 0, 1), (3, .ldc2_w 299, 3), (6, .invokestatic 128, 3), (9, .ifCond .ne 9, 3), (12, .aload_n 0, 1), (13, .iconst 1, 1)] := dz_sg _ 0 (by decide +kernel)
theorem dX8_unit_0 : decode cX8_unit 0 = .ok (.iload_n 2, 1) := sdX8_unit_0.1
theorem dX8_unit_1 : decode cX8_unit 1 = .ok (.i2l, 1) := sdX8_unit_0.2.1
theorem dX8_unit_2 : decode cX8_unit 2 = .ok (.lconst 0, 1) := sdX8_unit_0.2.2.1
theorem dX8_unit_3 : decode cX8_unit 3 = .ok (.ldc2_w 299, 3) := sdX8_unit_0.2.2.2.1
theorem dX8_unit_6 : decode cX8_unit 6 = .ok (.invokestatic 128, 3) := sdX8_unit_0.2.2.2.2.1
theorem dX8_unit_9 : decode cX8_unit 9 = .ok (.ifCond .ne 9, 3) := sdX8_unit_0.2.2.2.2.2.1
theorem dX8_unit_12 : decode cX8_unit 12 = .ok (.aload_n 0, 1) := sdX8_unit_0.2.2.2.2.2.2.1
theorem dX8_unit_13 : decode cX8_unit 13 = .ok (.iconst 1, 1) := sdX8_unit_0.2.2.2.2.2.2.2.1
theorem sdX8_unit_14 : dz_Seg cX8_unit [(14, .invokevirtual 263, 3), (17, .ireturn, 1), (18, .aload_n 0, 1), (19, .iload_n 1, 1), (20, .invokevirtual 301, 3), (23, .ifCond .ne 9, 3), (26, .aload_n 0, 1), (27, .iconst 2, 1)] := dz_sg _ 14 (by decide +kernel)
theorem dX8_unit_14 : decode cX8_unit 14 = .ok (.invokevirtual 263, 3) := sdX8_unit_14.1
theorem dX8_unit_17 : decode cX8_unit 17 = .ok (.ireturn, 1) := sdX8_unit_14.2.1
theorem dX8_unit_18 : decode cX8_unit 18 = .ok (.aload_n 0, 1) := sdX8_unit_14.2.2.1
theorem dX8_unit_19 : decode cX8_unit 19 = .ok (.iload_n 1, 1) := sdX8_unit_14.2.2.2.1
theorem dX8_unit_20 : decode cX8_unit 20 = .ok (.invokevirtual 301, 3) := sdX8_unit_14.2.2.2.2.1
theorem dX8_unit_23 : decode cX8_unit 23 = .ok (.ifCond .ne 9, 3) := sdX8_unit_14.2.2.2.2.2.1
theorem dX8_unit_26 : decode cX8_unit 26 = .ok (.aload_n 0, 1) := sdX8_unit_14.2.2.2.2.2.2.1
theorem dX8_unit_27 : decode cX8_unit 27 = .ok (.iconst 2, 1) := sdX8_unit_14.2.2.2.2.2.2.2.1
theorem sdX8_unit_28 : dz_Seg cX8_unit [(28, .invokevirtual 263, 3), (31, .ireturn, 1), (32, .iload_n 2, 1), (33, .iconst 3, 1), (34, .if_icmp .ge 42, 3), (37, .aload_n 0, 1), (38, .iload_n 2, 1), (39, .ifCond .ne 15, 3)] := dz_sg _ 28 (by decide +kernel)
theorem dX8_unit_28 : decode cX8_unit 28 = .ok (.invokevirtual 263, 3) := sdX8_unit_28.1
theorem dX8_unit_31 : decode cX8_unit 31 = .ok (.ireturn, 1) := sdX8_unit_28.2.1
theorem dX8_unit_32 : decode cX8_unit 32 = .ok (.iload_n 2, 1) := sdX8_unit_28.2.2.1
theorem dX8_unit_33 : decode cX8_unit 33 = .ok (.iconst 3, 1) := sdX8_unit_28.2.2.2.1
theorem dX8_unit_34 : decode cX8_unit 34 = .ok (.if_icmp .ge 42, 3) := sdX8_unit_28.2.2.2.2.1
theorem dX8_unit_37 : decode cX8_unit 37 = .ok (.aload_n 0, 1) := sdX8_unit_28.2.2.2.2.2.1
theorem dX8_unit_38 : decode cX8_unit 38 = .ok (.iload_n 2, 1) := sdX8_unit_28.2.2.2.2.2.2.1
theorem dX8_unit_39 : decode cX8_unit 39 = .ok (.ifCond .ne 15, 3) := sdX8_unit_28.2.2.2.2.2.2.2.1
theorem sdX8_unit_42 : dz_Seg cX8_unit [(42, .aload_n 0, 1), (43, .getfield 7, 3), (46, .bipush 62, 2), (48, .iload_n 1, 1), (49, .iadd, 1), (50, .iaload, 1), (51, .goto 21, 3), (54, .iload_n 2, 1)] := dz_sg _ 42 (by decide +kernel)
theorem dX8_unit_42 : decode cX8_unit 42 = .ok (.aload_n 0, 1) := sdX8_unit_42.1
theorem dX8_unit_43 : decode cX8_unit 43 = .ok (.getfield 7, 3) := sdX8_unit_42.2.1
theorem dX8_unit_46 : decode cX8_unit 46 = .ok (.bipush 62, 2) := sdX8_unit_42.2.2.1
theorem dX8_unit_48 : decode cX8_unit 48 = .ok (.iload_n 1, 1) := sdX8_unit_42.2.2.2.1
theorem dX8_unit_49 : decode cX8_unit 49 = .ok (.iadd, 1) := sdX8_unit_42.2.2.2.2.1
theorem dX8_unit_50 : decode cX8_unit 50 = .ok (.iaload, 1) := sdX8_unit_42.2.2.2.2.2.1
theorem dX8_unit_51 : decode cX8_unit 51 = .ok (.goto 21, 3) := sdX8_unit_42.2.2.2.2.2.2.1
theorem dX8_unit_54 : decode cX8_unit 54 = .ok (.iload_n 2, 1) := sdX8_unit_42.2.2.2.2.2.2.2.1
theorem sdX8_unit_55 : dz_Seg cX8_unit [(55, .iconst 1, 1), (56, .if_icmp .ne 11, 3), (59, .aload_n 0, 1), (60, .iload_n 1, 1), (61, .invokevirtual 304, 3), (64, .goto 8, 3), (67, .aload_n 0, 1), (68, .iload_n 1, 1)] := dz_sg _ 55 (by decide +kernel)
theorem dX8_unit_55 : decode cX8_unit 55 = .ok (.iconst 1, 1) := sdX8_unit_55.1
theorem dX8_unit_56 : decode cX8_unit 56 = .ok (.if_icmp .ne 11, 3) := sdX8_unit_55.2.1
theorem dX8_unit_59 : decode cX8_unit 59 = .ok (.aload_n 0, 1) := sdX8_unit_55.2.2.1
theorem dX8_unit_60 : decode cX8_unit 60 = .ok (.iload_n 1, 1) := sdX8_unit_55.2.2.2.1
theorem dX8_unit_61 : decode cX8_unit 61 = .ok (.invokevirtual 304, 3) := sdX8_unit_55.2.2.2.2.1
theorem dX8_unit_64 : decode cX8_unit 64 = .ok (.goto 8, 3) := sdX8_unit_55.2.2.2.2.2.1
theorem dX8_unit_67 : decode cX8_unit 67 = .ok (.aload_n 0, 1) := sdX8_unit_55.2.2.2.2.2.2.1
theorem dX8_unit_68 : decode cX8_unit 68 = .ok (.iload_n 1, 1) := sdX8_unit_55.2.2.2.2.2.2.2.1
theorem sdX8_unit_69 : dz_Seg cX8_unit [(69, .invokevirtual 307, 3), (72, .invokevirtual 272, 3), (75, .ireturn, 1), (76, .aload_n 0, 1), (77, .invokevirtual 281, 3), (80, .iconst 0, 1), (81, .istore_n 3, 1), (82, .iconst 0, 1)] := dz_sg _ 69 (by decide +kernel)
theorem dX8_unit_69 : decode cX8_unit 69 = .ok (.invokevirtual 307, 3) := sdX8_unit_69.1
theorem dX8_unit_72 : decode cX8_unit 72 = .ok (.invokevirtual 272, 3) := sdX8_unit_69.2.1
theorem dX8_unit_75 : decode cX8_unit 75 = .ok (.ireturn, 1) := sdX8_unit_69.2.2.1
theorem dX8_unit_76 : decode cX8_unit 76 = .ok (.aload_n 0, 1) := sdX8_unit_69.2.2.2.1
theorem dX8_unit_77 : decode cX8_unit 77 = .ok (.invokevirtual 281, 3) := sdX8_unit_69.2.2.2.2.1
theorem dX8_unit_80 : decode cX8_unit 80 = .ok (.iconst 0, 1) := sdX8_unit_69.2.2.2.2.2.1
theorem dX8_unit_81 : decode cX8_unit 81 = .ok (.istore_n 3, 1) := sdX8_unit_69.2.2.2.2.2.2.1
theorem dX8_unit_82 : decode cX8_unit 82 = .ok (.iconst 0, 1) := sdX8_unit_69.2.2.2.2.2.2.2.1
theorem sdX8_unit_83 : dz_Seg cX8_unit [(83, .istore 4, 2), (85, .iload 4, 2), (87, .aload_n 0, 1), (88, .getfield 275, 3), (91, .if_icmp .ge 79, 3), (94, .iload_n 2, 1), (95, .iconst 5, 1), (96, .if_icmp .ne 22, 3)] := dz_sg _ 83 (by decide +kernel)
theorem dX8_unit_83 : decode cX8_unit 83 = .ok (.istore 4, 2) := sdX8_unit_83.1
theorem dX8_unit_85 : decode cX8_unit 85 = .ok (.iload 4, 2) := sdX8_unit_83.2.1
theorem dX8_unit_87 : decode cX8_unit 87 = .ok (.aload_n 0, 1) := sdX8_unit_83.2.2.1
theorem dX8_unit_88 : decode cX8_unit 88 = .ok (.getfield 275, 3) := sdX8_unit_83.2.2.2.1
theorem dX8_unit_91 : decode cX8_unit 91 = .ok (.if_icmp .ge 79, 3) := sdX8_unit_83.2.2.2.2.1
theorem dX8_unit_94 : decode cX8_unit 94 = .ok (.iload_n 2, 1) := sdX8_unit_83.2.2.2.2.2.1
theorem dX8_unit_95 : decode cX8_unit 95 = .ok (.iconst 5, 1) := sdX8_unit_83.2.2.2.2.2.2.1
theorem dX8_unit_96 : decode cX8_unit 96 = .ok (.if_icmp .ne 22, 3) := sdX8_unit_83.2.2.2.2.2.2.2.1
theorem sdX8_unit_99 : dz_Seg cX8_unit [(99, .aload_n 0, 1), (100, .iload 4, 2), (102, .iload_n 1, 1), (103, .invokevirtual 310, 3), (106, .iconst (-1), 1), (107, .if_icmp .eq 7, 3), (110, .iconst 1, 1), (111, .goto 23, 3)] := dz_sg _ 99 (by decide +kernel)
theorem dX8_unit_99 : decode cX8_unit 99 = .ok (.aload_n 0, 1) := sdX8_unit_99.1
theorem dX8_unit_100 : decode cX8_unit 100 = .ok (.iload 4, 2) := sdX8_unit_99.2.1
theorem dX8_unit_102 : decode cX8_unit 102 = .ok (.iload_n 1, 1) := sdX8_unit_99.2.2.1
theorem dX8_unit_103 : decode cX8_unit 103 = .ok (.invokevirtual 310, 3) := sdX8_unit_99.2.2.2.1
theorem dX8_unit_106 : decode cX8_unit 106 = .ok (.iconst (-1), 1) := sdX8_unit_99.2.2.2.2.1
theorem dX8_unit_107 : decode cX8_unit 107 = .ok (.if_icmp .eq 7, 3) := sdX8_unit_99.2.2.2.2.2.1
theorem dX8_unit_110 : decode cX8_unit 110 = .ok (.iconst 1, 1) := sdX8_unit_99.2.2.2.2.2.2.1
theorem dX8_unit_111 : decode cX8_unit 111 = .ok (.goto 23, 3) := sdX8_unit_99.2.2.2.2.2.2.2.1
theorem sdX8_unit_114 : dz_Seg cX8_unit [(114, .iconst 0, 1), (115, .goto 19, 3), (118, .aload_n 0, 1), (119, .iload 4, 2), (121, .iconst 0, 1), (122, .invokevirtual 284, 3), (125, .iload_n 1, 1), (126, .if_icmp .ne 7, 3)] := dz_sg _ 114 (by decide +kernel)
theorem dX8_unit_114 : decode cX8_unit 114 = .ok (.iconst 0, 1) := sdX8_unit_114.1
theorem dX8_unit_115 : decode cX8_unit 115 = .ok (.goto 19, 3) := sdX8_unit_114.2.1
theorem dX8_unit_118 : decode cX8_unit 118 = .ok (.aload_n 0, 1) := sdX8_unit_114.2.2.1
theorem dX8_unit_119 : decode cX8_unit 119 = .ok (.iload 4, 2) := sdX8_unit_114.2.2.2.1
theorem dX8_unit_121 : decode cX8_unit 121 = .ok (.iconst 0, 1) := sdX8_unit_114.2.2.2.2.1
theorem dX8_unit_122 : decode cX8_unit 122 = .ok (.invokevirtual 284, 3) := sdX8_unit_114.2.2.2.2.2.1
theorem dX8_unit_125 : decode cX8_unit 125 = .ok (.iload_n 1, 1) := sdX8_unit_114.2.2.2.2.2.2.1
theorem dX8_unit_126 : decode cX8_unit 126 = .ok (.if_icmp .ne 7, 3) := sdX8_unit_114.2.2.2.2.2.2.2.1
theorem sdX8_unit_129 : dz_Seg cX8_unit [(129, .iconst 1, 1), (130, .goto 4, 3), (133, .iconst 0, 1), (134, .istore 5, 2), (136, .iload_n 3, 1), (137, .iload 5, 2), (139, .ifCond .eq 22, 3), (142, .iload_n 2, 1)] := dz_sg _ 129 (by decide +kernel)
theorem dX8_unit_129 : decode cX8_unit 129 = .ok (.iconst 1, 1) := sdX8_unit_129.1
theorem dX8_unit_130 : decode cX8_unit 130 = .ok (.goto 4, 3) := sdX8_unit_129.2.1
theorem dX8_unit_133 : decode cX8_unit 133 = .ok (.iconst 0, 1) := sdX8_unit_129.2.2.1
theorem dX8_unit_134 : decode cX8_unit 134 = .ok (.istore 5, 2) := sdX8_unit_129.2.2.2.1
theorem dX8_unit_136 : decode cX8_unit 136 = .ok (.iload_n 3, 1) := sdX8_unit_129.2.2.2.2.1
theorem dX8_unit_137 : decode cX8_unit 137 = .ok (.iload 5, 2) := sdX8_unit_129.2.2.2.2.2.1
theorem dX8_unit_139 : decode cX8_unit 139 = .ok (.ifCond .eq 22, 3) := sdX8_unit_129.2.2.2.2.2.2.1
theorem dX8_unit_142 : decode cX8_unit 142 = .ok (.iload_n 2, 1) := sdX8_unit_129.2.2.2.2.2.2.2.1
theorem sdX8_unit_143 : dz_Seg cX8_unit [(143, .iconst 4, 1), (144, .if_icmp .ne 13, 3), (147, .aload_n 0, 1), (148, .getfield 58, 3), (151, .iload 4, 2), (153, .iaload, 1), (154, .goto 8, 3), (157, .iconst 1, 1)] := dz_sg _ 143 (by decide +kernel)
theorem dX8_unit_143 : decode cX8_unit 143 = .ok (.iconst 4, 1) := sdX8_unit_143.1
theorem dX8_unit_144 : decode cX8_unit 144 = .ok (.if_icmp .ne 13, 3) := sdX8_unit_143.2.1
theorem dX8_unit_147 : decode cX8_unit 147 = .ok (.aload_n 0, 1) := sdX8_unit_143.2.2.1
theorem dX8_unit_148 : decode cX8_unit 148 = .ok (.getfield 58, 3) := sdX8_unit_143.2.2.2.1
theorem dX8_unit_151 : decode cX8_unit 151 = .ok (.iload 4, 2) := sdX8_unit_143.2.2.2.2.1
theorem dX8_unit_153 : decode cX8_unit 153 = .ok (.iaload, 1) := sdX8_unit_143.2.2.2.2.2.1
theorem dX8_unit_154 : decode cX8_unit 154 = .ok (.goto 8, 3) := sdX8_unit_143.2.2.2.2.2.2.1
theorem dX8_unit_157 : decode cX8_unit 157 = .ok (.iconst 1, 1) := sdX8_unit_143.2.2.2.2.2.2.2.1
theorem sdX8_unit_158 : dz_Seg cX8_unit [(158, .goto 4, 3), (161, .iconst 0, 1), (162, .iadd, 1), (163, .istore_n 3, 1), (164, .iinc 4 1, 3), (167, .goto (-82), 3), (170, .aload_n 0, 1), (171, .iload_n 3, 1)] := dz_sg _ 158 (by decide +kernel)
theorem dX8_unit_158 : decode cX8_unit 158 = .ok (.goto 4, 3) := sdX8_unit_158.1
theorem dX8_unit_161 : decode cX8_unit 161 = .ok (.iconst 0, 1) := sdX8_unit_158.2.1
theorem dX8_unit_162 : decode cX8_unit 162 = .ok (.iadd, 1) := sdX8_unit_158.2.2.1
theorem dX8_unit_163 : decode cX8_unit 163 = .ok (.istore_n 3, 1) := sdX8_unit_158.2.2.2.1
theorem dX8_unit_164 : decode cX8_unit 164 = .ok (.iinc 4 1, 3) := sdX8_unit_158.2.2.2.2.1
theorem dX8_unit_167 : decode cX8_unit 167 = .ok (.goto (-82), 3) := sdX8_unit_158.2.2.2.2.2.1
theorem dX8_unit_170 : decode cX8_unit 170 = .ok (.aload_n 0, 1) := sdX8_unit_158.2.2.2.2.2.2.1
theorem dX8_unit_171 : decode cX8_unit 171 = .ok (.iload_n 3, 1) := sdX8_unit_158.2.2.2.2.2.2.2.1
theorem sdX8_unit_172 : dz_Seg cX8_unit [(172, .invokevirtual 272, 3), (175, .ireturn, 1)] := dz_sg _ 172 (by decide +kernel)
theorem dX8_unit_172 : decode cX8_unit 172 = .ok (.invokevirtual 272, 3) := sdX8_unit_172.1
theorem dX8_unit_175 : decode cX8_unit 175 = .ok (.ireturn, 1) := sdX8_unit_172.2.1
theorem sdX8_applicant_0 : dz_Seg cX8_applicant [(0, .iload_n 2, 1), (1, .i2l, 1), (2, .lconst 0, 1), (3, .ldc2_w 313, 3), (6, .invokestatic 128, 3), (9, .ifCond .ne 9, 3), (12, .aload_n 0, 1), (13, .iconst 1, 1)] := dz_sg _ 0 (by decide +kernel)
theorem dX8_applicant_0 : decode cX8_applicant 0 = .ok (.iload_n 2, 1) := sdX8_applicant_0.1
theorem dX8_applicant_1 : decode cX8_applicant 1 = .ok (.i2l, 1) := sdX8_applicant_0.2.1
theorem dX8_applicant_2 : decode cX8_applicant 2 = .ok (.lconst 0, 1) := sdX8_applicant_0.2.2.1
theorem dX8_applicant_3 : decode cX8_applicant 3 = .ok (.ldc2_w 313, 3) := sdX8_applicant_0.2.2.2.1
theorem dX8_applicant_6 : decode cX8_applicant 6 = .ok (.invokestatic 128, 3) := sdX8_applicant_0.2.2.2.2.1
theorem dX8_applicant_9 : decode cX8_applicant 9 = .ok (.ifCond .ne 9, 3) := sdX8_applicant_0.2.2.2.2.2.1
theorem dX8_applicant_12 : decode cX8_applicant 12 = .ok (.aload_n 0, 1) := sdX8_applicant_0.2.2.2.2.2.2.1
theorem dX8_applicant_13 : decode cX8_applicant 13 = .ok (.iconst 1, 1) := sdX8_applicant_0.2.2.2.2.2.2.2.1
theorem sdX8_applicant_14 : dz_Seg cX8_applicant [(14, .invokevirtual 263, 3), (17, .ireturn, 1), (18, .aload_n 0, 1), (19, .iload_n 1, 1), (20, .invokevirtual 315, 3), (23, .ifCond .ne 9, 3), (26, .aload_n 0, 1), (27, .iconst 2, 1)] := dz_sg _ 14 (by decide +kernel)
theorem dX8_applicant_14 : decode cX8_applicant 14 = .ok (.invokevirtual 263, 3) := sdX8_applicant_14.1
theorem dX8_applicant_17 : decode cX8_applicant 17 = .ok (.ireturn, 1) := sdX8_applicant_14.2.1
theorem dX8_applicant_18 : decode cX8_applicant 18 = .ok (.aload_n 0, 1) := sdX8_applicant_14.2.2.1
theorem dX8_applicant_19 : decode cX8_applicant 19 = .ok (.iload_n 1, 1) := sdX8_applicant_14.2.2.2.1
theorem dX8_applicant_20 : decode cX8_applicant 20 = .ok (.invokevirtual 315, 3) := sdX8_applicant_14.2.2.2.2.1
theorem dX8_applicant_23 : decode cX8_applicant 23 = .ok (.ifCond .ne 9, 3) := sdX8_applicant_14.2.2.2.2.2.1
theorem dX8_applicant_26 : decode cX8_applicant 26 = .ok (.aload_n 0, 1) := sdX8_applicant_14.2.2.2.2.2.2.1
theorem dX8_applicant_27 : decode cX8_applicant 27 = .ok (.iconst 2, 1) := sdX8_applicant_14.2.2.2.2.2.2.2.1
theorem sdX8_applicant_28 : dz_Seg cX8_applicant [(28, .invokevirtual 263, 3), (31, .ireturn, 1), (32, .iload_n 2, 1)] := dz_sg _ 28 (by decide +kernel)
theorem dX8_applicant_28 : decode cX8_applicant 28 = .ok (.invokevirtual 263, 3) := sdX8_applicant_28.1
theorem dX8_applicant_31 : decode cX8_applicant 31 = .ok (.ireturn, 1) := sdX8_applicant_28.2.1
theorem dX8_applicant_32 : decode cX8_applicant 32 = .ok (.iload_n 2, 1) := sdX8_applicant_28.2.2.1
theorem dX8_applicant_33 : decode cX8_applicant 33 = .ok (.tableswitch 104 0 5 #[39, 50, 61, 72, 83, 93], 39) := by decide +kernel
theorem sdX8_applicant_72 : dz_Seg cX8_applicant [(72, .aload_n 0, 1), (73, .aload_n 0, 1), (74, .getfield 58, 3), (77, .iload_n 1, 1), (78, .iaload, 1), (79, .invokevirtual 272, 3), (82, .ireturn, 1), (83, .aload_n 0, 1)] := dz_sg _ 72 (by decide +kernel)
theorem dX8_applicant_72 : decode cX8_applicant 72 = .ok (.aload_n 0, 1) := sdX8_applicant_72.1
theorem dX8_applicant_73 : decode cX8_applicant 73 = .ok (.aload_n 0, 1) := sdX8_applicant_72.2.1
theorem dX8_applicant_74 : decode cX8_applicant 74 = .ok (.getfield 58, 3) := sdX8_applicant_72.2.2.1
theorem dX8_applicant_77 : decode cX8_applicant 77 = .ok (.iload_n 1, 1) := sdX8_applicant_72.2.2.2.1
theorem dX8_applicant_78 : decode cX8_applicant 78 = .ok (.iaload, 1) := sdX8_applicant_72.2.2.2.2.1
theorem dX8_applicant_79 : decode cX8_applicant 79 = .ok (.invokevirtual 272, 3) := sdX8_applicant_72.2.2.2.2.2.1
theorem dX8_applicant_82 : decode cX8_applicant 82 = .ok (.ireturn, 1) := sdX8_applicant_72.2.2.2.2.2.2.1
theorem dX8_applicant_83 : decode cX8_applicant 83 = .ok (.aload_n 0, 1) := sdX8_applicant_72.2.2.2.2.2.2.2.1
theorem sdX8_applicant_84 : dz_Seg cX8_applicant [(84, .aload_n 0, 1), (85, .getfield 61, 3), (88, .iload_n 1, 1), (89, .iaload, 1), (90, .invokevirtual 272, 3), (93, .ireturn, 1), (94, .aload_n 0, 1), (95, .aload_n 0, 1)] := dz_sg _ 84 (by decide +kernel)
theorem dX8_applicant_84 : decode cX8_applicant 84 = .ok (.aload_n 0, 1) := sdX8_applicant_84.1
theorem dX8_applicant_85 : decode cX8_applicant 85 = .ok (.getfield 61, 3) := sdX8_applicant_84.2.1
theorem dX8_applicant_88 : decode cX8_applicant 88 = .ok (.iload_n 1, 1) := sdX8_applicant_84.2.2.1
theorem dX8_applicant_89 : decode cX8_applicant 89 = .ok (.iaload, 1) := sdX8_applicant_84.2.2.2.1
theorem dX8_applicant_90 : decode cX8_applicant 90 = .ok (.invokevirtual 272, 3) := sdX8_applicant_84.2.2.2.2.1
theorem dX8_applicant_93 : decode cX8_applicant 93 = .ok (.ireturn, 1) := sdX8_applicant_84.2.2.2.2.2.1
theorem dX8_applicant_94 : decode cX8_applicant 94 = .ok (.aload_n 0, 1) := sdX8_applicant_84.2.2.2.2.2.2.1
theorem dX8_applicant_95 : decode cX8_applicant 95 = .ok (.aload_n 0, 1) := sdX8_applicant_84.2.2.2.2.2.2.2.1
theorem sdX8_applicant_96 : dz_Seg cX8_applicant [(96, .getfield 64, 3), (99, .iload_n 1, 1), (100, .iaload, 1), (101, .invokevirtual 272, 3), (104, .ireturn, 1), (105, .aload_n 0, 1), (106, .aload_n 0, 1), (107, .getfield 67, 3)] := dz_sg _ 96 (by decide +kernel)
theorem dX8_applicant_96 : decode cX8_applicant 96 = .ok (.getfield 64, 3) := sdX8_applicant_96.1
theorem dX8_applicant_99 : decode cX8_applicant 99 = .ok (.iload_n 1, 1) := sdX8_applicant_96.2.1
theorem dX8_applicant_100 : decode cX8_applicant 100 = .ok (.iaload, 1) := sdX8_applicant_96.2.2.1
theorem dX8_applicant_101 : decode cX8_applicant 101 = .ok (.invokevirtual 272, 3) := sdX8_applicant_96.2.2.2.1
theorem dX8_applicant_104 : decode cX8_applicant 104 = .ok (.ireturn, 1) := sdX8_applicant_96.2.2.2.2.1
theorem dX8_applicant_105 : decode cX8_applicant 105 = .ok (.aload_n 0, 1) := sdX8_applicant_96.2.2.2.2.2.1
theorem dX8_applicant_106 : decode cX8_applicant 106 = .ok (.aload_n 0, 1) := sdX8_applicant_96.2.2.2.2.2.2.1
theorem dX8_applicant_107 : decode cX8_applicant 107 = .ok (.getfield 67, 3) := sdX8_applicant_96.2.2.2.2.2.2.2.1
theorem sdX8_applicant_110 : dz_Seg cX8_applicant [(110, .iload_n 1, 1), (111, .iaload, 1), (112, .invokevirtual 272, 3), (115, .ireturn, 1), (116, .aload_n 0, 1), (117, .aload_n 0, 1), (118, .iload_n 1, 1), (119, .invokevirtual 288, 3)] := dz_sg _ 110 (by decide +kernel)
theorem dX8_applicant_110 : decode cX8_applicant 110 = .ok (.iload_n 1, 1) := sdX8_applicant_110.1
theorem dX8_applicant_111 : decode cX8_applicant 111 = .ok (.iaload, 1) := sdX8_applicant_110.2.1
theorem dX8_applicant_112 : decode cX8_applicant 112 = .ok (.invokevirtual 272, 3) := sdX8_applicant_110.2.2.1
theorem dX8_applicant_115 : decode cX8_applicant 115 = .ok (.ireturn, 1) := sdX8_applicant_110.2.2.2.1
theorem dX8_applicant_116 : decode cX8_applicant 116 = .ok (.aload_n 0, 1) := sdX8_applicant_110.2.2.2.2.1
theorem dX8_applicant_117 : decode cX8_applicant 117 = .ok (.aload_n 0, 1) := sdX8_applicant_110.2.2.2.2.2.1
theorem dX8_applicant_118 : decode cX8_applicant 118 = .ok (.iload_n 1, 1) := sdX8_applicant_110.2.2.2.2.2.2.1
theorem dX8_applicant_119 : decode cX8_applicant 119 = .ok (.invokevirtual 288, 3) := sdX8_applicant_110.2.2.2.2.2.2.2.1
theorem sdX8_applicant_122 : dz_Seg cX8_applicant [(122, .invokevirtual 272, 3), (125, .ireturn, 1), (126, .aload_n 0, 1), (127, .aload_n 0, 1), (128, .getfield 49, 3), (131, .iload_n 1, 1), (132, .iaload, 1), (133, .invokevirtual 272, 3)] := dz_sg _ 122 (by decide +kernel)
theorem dX8_applicant_122 : decode cX8_applicant 122 = .ok (.invokevirtual 272, 3) := sdX8_applicant_122.1
theorem dX8_applicant_125 : decode cX8_applicant 125 = .ok (.ireturn, 1) := sdX8_applicant_122.2.1
theorem dX8_applicant_126 : decode cX8_applicant 126 = .ok (.aload_n 0, 1) := sdX8_applicant_122.2.2.1
theorem dX8_applicant_127 : decode cX8_applicant 127 = .ok (.aload_n 0, 1) := sdX8_applicant_122.2.2.2.1
theorem dX8_applicant_128 : decode cX8_applicant 128 = .ok (.getfield 49, 3) := sdX8_applicant_122.2.2.2.2.1
theorem dX8_applicant_131 : decode cX8_applicant 131 = .ok (.iload_n 1, 1) := sdX8_applicant_122.2.2.2.2.2.1
theorem dX8_applicant_132 : decode cX8_applicant 132 = .ok (.iaload, 1) := sdX8_applicant_122.2.2.2.2.2.2.1
theorem dX8_applicant_133 : decode cX8_applicant 133 = .ok (.invokevirtual 272, 3) := sdX8_applicant_122.2.2.2.2.2.2.2.1
theorem sdX8_applicant_136 : dz_Seg cX8_applicant [(136, .ireturn, 1), (137, .aload_n 0, 1), (138, .aload_n 0, 1), (139, .getfield 52, 3), (142, .iload_n 1, 1), (143, .iaload, 1), (144, .invokevirtual 272, 3), (147, .ireturn, 1)] := dz_sg _ 136 (by decide +kernel)
theorem dX8_applicant_136 : decode cX8_applicant 136 = .ok (.ireturn, 1) := sdX8_applicant_136.1
theorem dX8_applicant_137 : decode cX8_applicant 137 = .ok (.aload_n 0, 1) := sdX8_applicant_136.2.1
theorem dX8_applicant_138 : decode cX8_applicant 138 = .ok (.aload_n 0, 1) := sdX8_applicant_136.2.2.1
theorem dX8_applicant_139 : decode cX8_applicant 139 = .ok (.getfield 52, 3) := sdX8_applicant_136.2.2.2.1
theorem dX8_applicant_142 : decode cX8_applicant 142 = .ok (.iload_n 1, 1) := sdX8_applicant_136.2.2.2.2.1
theorem dX8_applicant_143 : decode cX8_applicant 143 = .ok (.iaload, 1) := sdX8_applicant_136.2.2.2.2.2.1
theorem dX8_applicant_144 : decode cX8_applicant 144 = .ok (.invokevirtual 272, 3) := sdX8_applicant_136.2.2.2.2.2.2.1
theorem dX8_applicant_147 : decode cX8_applicant 147 = .ok (.ireturn, 1) := sdX8_applicant_136.2.2.2.2.2.2.2.1
theorem sdX8_choice_0 : dz_Seg cX8_choice [(0, .iload_n 2, 1), (1, .ifCond .ge 9, 3), (4, .aload_n 0, 1), (5, .iconst 1, 1), (6, .invokevirtual 263, 3), (9, .ireturn, 1), (10, .aload_n 0, 1), (11, .iload_n 1, 1)] := dz_sg _ 0 (by decide +kernel)
theorem dX8_choice_0 : decode cX8_choice 0 = .ok (.iload_n 2, 1) := sdX8_choice_0.1
theorem dX8_choice_1 : decode cX8_choice 1 = .ok (.ifCond .ge 9, 3) := sdX8_choice_0.2.1
theorem dX8_choice_4 : decode cX8_choice 4 = .ok (.aload_n 0, 1) := sdX8_choice_0.2.2.1
theorem dX8_choice_5 : decode cX8_choice 5 = .ok (.iconst 1, 1) := sdX8_choice_0.2.2.2.1
theorem dX8_choice_6 : decode cX8_choice 6 = .ok (.invokevirtual 263, 3) := sdX8_choice_0.2.2.2.2.1
theorem dX8_choice_9 : decode cX8_choice 9 = .ok (.ireturn, 1) := sdX8_choice_0.2.2.2.2.2.1
theorem dX8_choice_10 : decode cX8_choice 10 = .ok (.aload_n 0, 1) := sdX8_choice_0.2.2.2.2.2.2.1
theorem dX8_choice_11 : decode cX8_choice 11 = .ok (.iload_n 1, 1) := sdX8_choice_0.2.2.2.2.2.2.2.1
theorem sdX8_choice_12 : dz_Seg cX8_choice [(12, .invokevirtual 315, 3), (15, .ifCond .ne 9, 3), (18, .aload_n 0, 1), (19, .iconst 2, 1), (20, .invokevirtual 263, 3), (23, .ireturn, 1), (24, .iload_n 2, 1), (25, .aload_n 0, 1)] := dz_sg _ 12 (by decide +kernel)
theorem dX8_choice_12 : decode cX8_choice 12 = .ok (.invokevirtual 315, 3) := sdX8_choice_12.1
theorem dX8_choice_15 : decode cX8_choice 15 = .ok (.ifCond .ne 9, 3) := sdX8_choice_12.2.1
theorem dX8_choice_18 : decode cX8_choice 18 = .ok (.aload_n 0, 1) := sdX8_choice_12.2.2.1
theorem dX8_choice_19 : decode cX8_choice 19 = .ok (.iconst 2, 1) := sdX8_choice_12.2.2.2.1
theorem dX8_choice_20 : decode cX8_choice 20 = .ok (.invokevirtual 263, 3) := sdX8_choice_12.2.2.2.2.1
theorem dX8_choice_23 : decode cX8_choice 23 = .ok (.ireturn, 1) := sdX8_choice_12.2.2.2.2.2.1
theorem dX8_choice_24 : decode cX8_choice 24 = .ok (.iload_n 2, 1) := sdX8_choice_12.2.2.2.2.2.2.1
theorem dX8_choice_25 : decode cX8_choice 25 = .ok (.aload_n 0, 1) := sdX8_choice_12.2.2.2.2.2.2.2.1
theorem sdX8_choice_26 : dz_Seg cX8_choice [(26, .iload_n 1, 1), (27, .invokevirtual 288, 3), (30, .if_icmp .ge 16, 3), (33, .aload_n 0, 1), (34, .aload_n 0, 1), (35, .iload_n 1, 1), (36, .iload_n 2, 1), (37, .invokevirtual 284, 3)] := dz_sg _ 26 (by decide +kernel)
theorem dX8_choice_26 : decode cX8_choice 26 = .ok (.iload_n 1, 1) := sdX8_choice_26.1
theorem dX8_choice_27 : decode cX8_choice 27 = .ok (.invokevirtual 288, 3) := sdX8_choice_26.2.1
theorem dX8_choice_30 : decode cX8_choice 30 = .ok (.if_icmp .ge 16, 3) := sdX8_choice_26.2.2.1
theorem dX8_choice_33 : decode cX8_choice 33 = .ok (.aload_n 0, 1) := sdX8_choice_26.2.2.2.1
theorem dX8_choice_34 : decode cX8_choice 34 = .ok (.aload_n 0, 1) := sdX8_choice_26.2.2.2.2.1
theorem dX8_choice_35 : decode cX8_choice 35 = .ok (.iload_n 1, 1) := sdX8_choice_26.2.2.2.2.2.1
theorem dX8_choice_36 : decode cX8_choice 36 = .ok (.iload_n 2, 1) := sdX8_choice_26.2.2.2.2.2.2.1
theorem dX8_choice_37 : decode cX8_choice 37 = .ok (.invokevirtual 284, 3) := sdX8_choice_26.2.2.2.2.2.2.2.1
theorem sdX8_choice_40 : dz_Seg cX8_choice [(40, .invokevirtual 272, 3), (43, .goto 8, 3), (46, .aload_n 0, 1), (47, .iconst 5, 1), (48, .invokevirtual 263, 3), (51, .ireturn, 1)] := dz_sg _ 40 (by decide +kernel)
theorem dX8_choice_40 : decode cX8_choice 40 = .ok (.invokevirtual 272, 3) := sdX8_choice_40.1
theorem dX8_choice_43 : decode cX8_choice 43 = .ok (.goto 8, 3) := sdX8_choice_40.2.1
theorem dX8_choice_46 : decode cX8_choice 46 = .ok (.aload_n 0, 1) := sdX8_choice_40.2.2.1
theorem dX8_choice_47 : decode cX8_choice 47 = .ok (.iconst 5, 1) := sdX8_choice_40.2.2.2.1
theorem dX8_choice_48 : decode cX8_choice 48 = .ok (.invokevirtual 263, 3) := sdX8_choice_40.2.2.2.2.1
theorem dX8_choice_51 : decode cX8_choice 51 = .ok (.ireturn, 1) := sdX8_choice_40.2.2.2.2.2.1
theorem sdX8_term_0 : dz_Seg cX8_term [(0, .iload_n 1, 1), (1, .iload_n 2, 1), (2, .invokestatic 318, 3), (5, .istore 4, 2), (7, .aload_n 0, 1), (8, .iload_n 3, 1), (9, .ifCond .ne 10, 3), (12, .iload_n 1, 1)] := dz_sg _ 0 (by decide +kernel)
theorem dX8_term_0 : decode cX8_term 0 = .ok (.iload_n 1, 1) := sdX8_term_0.1
theorem dX8_term_1 : decode cX8_term 1 = .ok (.iload_n 2, 1) := sdX8_term_0.2.1
theorem dX8_term_2 : decode cX8_term 2 = .ok (.invokestatic 318, 3) := sdX8_term_0.2.2.1
theorem dX8_term_5 : decode cX8_term 5 = .ok (.istore 4, 2) := sdX8_term_0.2.2.2.1
theorem dX8_term_7 : decode cX8_term 7 = .ok (.aload_n 0, 1) := sdX8_term_0.2.2.2.2.1
theorem dX8_term_8 : decode cX8_term 8 = .ok (.iload_n 3, 1) := sdX8_term_0.2.2.2.2.2.1
theorem dX8_term_9 : decode cX8_term 9 = .ok (.ifCond .ne 10, 3) := sdX8_term_0.2.2.2.2.2.2.1
theorem dX8_term_12 : decode cX8_term 12 = .ok (.iload_n 1, 1) := sdX8_term_0.2.2.2.2.2.2.2.1
theorem sdX8_term_13 : dz_Seg cX8_term [(13, .iload 4, 2), (15, .idiv, 1), (16, .goto 7, 3), (19, .iload_n 2, 1), (20, .iload 4, 2), (22, .idiv, 1), (23, .invokevirtual 272, 3), (26, .ireturn, 1)] := dz_sg _ 13 (by decide +kernel)
theorem dX8_term_13 : decode cX8_term 13 = .ok (.iload 4, 2) := sdX8_term_13.1
theorem dX8_term_15 : decode cX8_term 15 = .ok (.idiv, 1) := sdX8_term_13.2.1
theorem dX8_term_16 : decode cX8_term 16 = .ok (.goto 7, 3) := sdX8_term_13.2.2.1
theorem dX8_term_19 : decode cX8_term 19 = .ok (.iload_n 2, 1) := sdX8_term_13.2.2.2.1
theorem dX8_term_20 : decode cX8_term 20 = .ok (.iload 4, 2) := sdX8_term_13.2.2.2.2.1
theorem dX8_term_22 : decode cX8_term 22 = .ok (.idiv, 1) := sdX8_term_13.2.2.2.2.2.1
theorem dX8_term_23 : decode cX8_term 23 = .ok (.invokevirtual 272, 3) := sdX8_term_13.2.2.2.2.2.2.1
theorem dX8_term_26 : decode cX8_term 26 = .ok (.ireturn, 1) := sdX8_term_13.2.2.2.2.2.2.2.1
theorem sdX8_demand_0 : dz_Seg cX8_demand [(0, .iload_n 2, 1), (1, .i2l, 1), (2, .lconst 0, 1), (3, .lconst 1, 1), (4, .invokestatic 128, 3), (7, .ifCond .ne 9, 3), (10, .aload_n 0, 1), (11, .iconst 1, 1)] := dz_sg _ 0 (by decide +kernel)
theorem dX8_demand_0 : decode cX8_demand 0 = .ok (.iload_n 2, 1) := sdX8_demand_0.1
theorem dX8_demand_1 : decode cX8_demand 1 = .ok (.i2l, 1) := sdX8_demand_0.2.1
theorem dX8_demand_2 : decode cX8_demand 2 = .ok (.lconst 0, 1) := sdX8_demand_0.2.2.1
theorem dX8_demand_3 : decode cX8_demand 3 = .ok (.lconst 1, 1) := sdX8_demand_0.2.2.2.1
theorem dX8_demand_4 : decode cX8_demand 4 = .ok (.invokestatic 128, 3) := sdX8_demand_0.2.2.2.2.1
theorem dX8_demand_7 : decode cX8_demand 7 = .ok (.ifCond .ne 9, 3) := sdX8_demand_0.2.2.2.2.2.1
theorem dX8_demand_10 : decode cX8_demand 10 = .ok (.aload_n 0, 1) := sdX8_demand_0.2.2.2.2.2.2.1
theorem dX8_demand_11 : decode cX8_demand 11 = .ok (.iconst 1, 1) := sdX8_demand_0.2.2.2.2.2.2.2.1
theorem sdX8_demand_12 : dz_Seg cX8_demand [(12, .invokevirtual 263, 3), (15, .ireturn, 1), (16, .aload_n 0, 1), (17, .iload_n 1, 1), (18, .invokevirtual 301, 3), (21, .ifCond .ne 9, 3), (24, .aload_n 0, 1), (25, .iconst 2, 1)] := dz_sg _ 12 (by decide +kernel)
theorem dX8_demand_12 : decode cX8_demand 12 = .ok (.invokevirtual 263, 3) := sdX8_demand_12.1
theorem dX8_demand_15 : decode cX8_demand 15 = .ok (.ireturn, 1) := sdX8_demand_12.2.1
theorem dX8_demand_16 : decode cX8_demand 16 = .ok (.aload_n 0, 1) := sdX8_demand_12.2.2.1
theorem dX8_demand_17 : decode cX8_demand 17 = .ok (.iload_n 1, 1) := sdX8_demand_12.2.2.2.1
theorem dX8_demand_18 : decode cX8_demand 18 = .ok (.invokevirtual 301, 3) := sdX8_demand_12.2.2.2.2.1
theorem dX8_demand_21 : decode cX8_demand 21 = .ok (.ifCond .ne 9, 3) := sdX8_demand_12.2.2.2.2.2.1
theorem dX8_demand_24 : decode cX8_demand 24 = .ok (.aload_n 0, 1) := sdX8_demand_12.2.2.2.2.2.2.1
theorem dX8_demand_25 : decode cX8_demand 25 = .ok (.iconst 2, 1) := sdX8_demand_12.2.2.2.2.2.2.2.1
theorem sdX8_demand_26 : dz_Seg cX8_demand [(26, .invokevirtual 263, 3), (29, .ireturn, 1), (30, .aload_n 0, 1), (31, .getfield 7, 3), (34, .bipush 62, 2), (36, .iload_n 1, 1), (37, .iadd, 1), (38, .iaload, 1)] := dz_sg _ 26 (by decide +kernel)
theorem dX8_demand_26 : decode cX8_demand 26 = .ok (.invokevirtual 263, 3) := sdX8_demand_26.1
theorem dX8_demand_29 : decode cX8_demand 29 = .ok (.ireturn, 1) := sdX8_demand_26.2.1
theorem dX8_demand_30 : decode cX8_demand 30 = .ok (.aload_n 0, 1) := sdX8_demand_26.2.2.1
theorem dX8_demand_31 : decode cX8_demand 31 = .ok (.getfield 7, 3) := sdX8_demand_26.2.2.2.1
theorem dX8_demand_34 : decode cX8_demand 34 = .ok (.bipush 62, 2) := sdX8_demand_26.2.2.2.2.1
theorem dX8_demand_36 : decode cX8_demand 36 = .ok (.iload_n 1, 1) := sdX8_demand_26.2.2.2.2.2.1
theorem dX8_demand_37 : decode cX8_demand 37 = .ok (.iadd, 1) := sdX8_demand_26.2.2.2.2.2.2.1
theorem dX8_demand_38 : decode cX8_demand 38 = .ok (.iaload, 1) := sdX8_demand_26.2.2.2.2.2.2.2.1
theorem sdX8_demand_39 : dz_Seg cX8_demand [(39, .ifCond .ne 9, 3), (42, .aload_n 0, 1), (43, .iconst 5, 1), (44, .invokevirtual 263, 3), (47, .ireturn, 1), (48, .aload_n 0, 1), (49, .invokevirtual 281, 3), (52, .iconst 0, 1)] := dz_sg _ 39 (by decide +kernel)
theorem dX8_demand_39 : decode cX8_demand 39 = .ok (.ifCond .ne 9, 3) := sdX8_demand_39.1
theorem dX8_demand_42 : decode cX8_demand 42 = .ok (.aload_n 0, 1) := sdX8_demand_39.2.1
theorem dX8_demand_43 : decode cX8_demand 43 = .ok (.iconst 5, 1) := sdX8_demand_39.2.2.1
theorem dX8_demand_44 : decode cX8_demand 44 = .ok (.invokevirtual 263, 3) := sdX8_demand_39.2.2.2.1
theorem dX8_demand_47 : decode cX8_demand 47 = .ok (.ireturn, 1) := sdX8_demand_39.2.2.2.2.1
theorem dX8_demand_48 : decode cX8_demand 48 = .ok (.aload_n 0, 1) := sdX8_demand_39.2.2.2.2.2.1
theorem dX8_demand_49 : decode cX8_demand 49 = .ok (.invokevirtual 281, 3) := sdX8_demand_39.2.2.2.2.2.2.1
theorem dX8_demand_52 : decode cX8_demand 52 = .ok (.iconst 0, 1) := sdX8_demand_39.2.2.2.2.2.2.2.1
theorem sdX8_demand_53 : dz_Seg cX8_demand [(53, .istore_n 3, 1), (54, .iconst 0, 1), (55, .istore 4, 2), (57, .iload 4, 2), (59, .aload_n 0, 1), (60, .getfield 275, 3), (63, .if_icmp .ge 34, 3), (66, .iload_n 3, 1)] := dz_sg _ 53 (by decide +kernel)
theorem dX8_demand_53 : decode cX8_demand 53 = .ok (.istore_n 3, 1) := sdX8_demand_53.1
theorem dX8_demand_54 : decode cX8_demand 54 = .ok (.iconst 0, 1) := sdX8_demand_53.2.1
theorem dX8_demand_55 : decode cX8_demand 55 = .ok (.istore 4, 2) := sdX8_demand_53.2.2.1
theorem dX8_demand_57 : decode cX8_demand 57 = .ok (.iload 4, 2) := sdX8_demand_53.2.2.2.1
theorem dX8_demand_59 : decode cX8_demand 59 = .ok (.aload_n 0, 1) := sdX8_demand_53.2.2.2.2.1
theorem dX8_demand_60 : decode cX8_demand 60 = .ok (.getfield 275, 3) := sdX8_demand_53.2.2.2.2.2.1
theorem dX8_demand_63 : decode cX8_demand 63 = .ok (.if_icmp .ge 34, 3) := sdX8_demand_53.2.2.2.2.2.2.1
theorem dX8_demand_66 : decode cX8_demand 66 = .ok (.iload_n 3, 1) := sdX8_demand_53.2.2.2.2.2.2.2.1
theorem sdX8_demand_67 : dz_Seg cX8_demand [(67, .aload_n 0, 1), (68, .iload 4, 2), (70, .iconst 0, 1), (71, .invokevirtual 284, 3), (74, .iload_n 1, 1), (75, .if_icmp .ne 13, 3), (78, .aload_n 0, 1), (79, .getfield 58, 3)] := dz_sg _ 67 (by decide +kernel)
theorem dX8_demand_67 : decode cX8_demand 67 = .ok (.aload_n 0, 1) := sdX8_demand_67.1
theorem dX8_demand_68 : decode cX8_demand 68 = .ok (.iload 4, 2) := sdX8_demand_67.2.1
theorem dX8_demand_70 : decode cX8_demand 70 = .ok (.iconst 0, 1) := sdX8_demand_67.2.2.1
theorem dX8_demand_71 : decode cX8_demand 71 = .ok (.invokevirtual 284, 3) := sdX8_demand_67.2.2.2.1
theorem dX8_demand_74 : decode cX8_demand 74 = .ok (.iload_n 1, 1) := sdX8_demand_67.2.2.2.2.1
theorem dX8_demand_75 : decode cX8_demand 75 = .ok (.if_icmp .ne 13, 3) := sdX8_demand_67.2.2.2.2.2.1
theorem dX8_demand_78 : decode cX8_demand 78 = .ok (.aload_n 0, 1) := sdX8_demand_67.2.2.2.2.2.2.1
theorem dX8_demand_79 : decode cX8_demand 79 = .ok (.getfield 58, 3) := sdX8_demand_67.2.2.2.2.2.2.2.1
theorem sdX8_demand_82 : dz_Seg cX8_demand [(82, .iload 4, 2), (84, .iaload, 1), (85, .goto 4, 3), (88, .iconst 0, 1), (89, .iadd, 1), (90, .istore_n 3, 1), (91, .iinc 4 1, 3), (94, .goto (-37), 3)] := dz_sg _ 82 (by decide +kernel)
theorem dX8_demand_82 : decode cX8_demand 82 = .ok (.iload 4, 2) := sdX8_demand_82.1
theorem dX8_demand_84 : decode cX8_demand 84 = .ok (.iaload, 1) := sdX8_demand_82.2.1
theorem dX8_demand_85 : decode cX8_demand 85 = .ok (.goto 4, 3) := sdX8_demand_82.2.2.1
theorem dX8_demand_88 : decode cX8_demand 88 = .ok (.iconst 0, 1) := sdX8_demand_82.2.2.2.1
theorem dX8_demand_89 : decode cX8_demand 89 = .ok (.iadd, 1) := sdX8_demand_82.2.2.2.2.1
theorem dX8_demand_90 : decode cX8_demand 90 = .ok (.istore_n 3, 1) := sdX8_demand_82.2.2.2.2.2.1
theorem dX8_demand_91 : decode cX8_demand 91 = .ok (.iinc 4 1, 3) := sdX8_demand_82.2.2.2.2.2.2.1
theorem dX8_demand_94 : decode cX8_demand 94 = .ok (.goto (-37), 3) := sdX8_demand_82.2.2.2.2.2.2.2.1
theorem sdX8_demand_97 : dz_Seg cX8_demand [(97, .aload_n 0, 1), (98, .iload_n 3, 1), (99, .aload_n 0, 1), (100, .getfield 7, 3), (103, .bipush 62, 2), (105, .iload_n 1, 1), (106, .iadd, 1), (107, .iaload, 1)] := dz_sg _ 97 (by decide +kernel)
theorem dX8_demand_97 : decode cX8_demand 97 = .ok (.aload_n 0, 1) := sdX8_demand_97.1
theorem dX8_demand_98 : decode cX8_demand 98 = .ok (.iload_n 3, 1) := sdX8_demand_97.2.1
theorem dX8_demand_99 : decode cX8_demand 99 = .ok (.aload_n 0, 1) := sdX8_demand_97.2.2.1
theorem dX8_demand_100 : decode cX8_demand 100 = .ok (.getfield 7, 3) := sdX8_demand_97.2.2.2.1
theorem dX8_demand_103 : decode cX8_demand 103 = .ok (.bipush 62, 2) := sdX8_demand_97.2.2.2.2.1
theorem dX8_demand_105 : decode cX8_demand 105 = .ok (.iload_n 1, 1) := sdX8_demand_97.2.2.2.2.2.1
theorem dX8_demand_106 : decode cX8_demand 106 = .ok (.iadd, 1) := sdX8_demand_97.2.2.2.2.2.2.1
theorem dX8_demand_107 : decode cX8_demand 107 = .ok (.iaload, 1) := sdX8_demand_97.2.2.2.2.2.2.2.1
theorem sdX8_demand_108 : dz_Seg cX8_demand [(108, .iload_n 2, 1), (109, .invokevirtual 321, 3), (112, .ireturn, 1)] := dz_sg _ 108 (by decide +kernel)
theorem dX8_demand_108 : decode cX8_demand 108 = .ok (.iload_n 2, 1) := sdX8_demand_108.1
theorem dX8_demand_109 : decode cX8_demand 109 = .ok (.invokevirtual 321, 3) := sdX8_demand_108.2.1
theorem dX8_demand_112 : decode cX8_demand 112 = .ok (.ireturn, 1) := sdX8_demand_108.2.2.1
theorem sdX8_share_0 : dz_Seg cX8_share [(0, .iload_n 2, 1), (1, .i2l, 1), (2, .lconst 0, 1), (3, .lconst 1, 1), (4, .invokestatic 128, 3), (7, .ifCond .ne 9, 3), (10, .aload_n 0, 1), (11, .iconst 1, 1)] := dz_sg _ 0 (by decide +kernel)
theorem dX8_share_0 : decode cX8_share 0 = .ok (.iload_n 2, 1) := sdX8_share_0.1
theorem dX8_share_1 : decode cX8_share 1 = .ok (.i2l, 1) := sdX8_share_0.2.1
theorem dX8_share_2 : decode cX8_share 2 = .ok (.lconst 0, 1) := sdX8_share_0.2.2.1
theorem dX8_share_3 : decode cX8_share 3 = .ok (.lconst 1, 1) := sdX8_share_0.2.2.2.1
theorem dX8_share_4 : decode cX8_share 4 = .ok (.invokestatic 128, 3) := sdX8_share_0.2.2.2.2.1
theorem dX8_share_7 : decode cX8_share 7 = .ok (.ifCond .ne 9, 3) := sdX8_share_0.2.2.2.2.2.1
theorem dX8_share_10 : decode cX8_share 10 = .ok (.aload_n 0, 1) := sdX8_share_0.2.2.2.2.2.2.1
theorem dX8_share_11 : decode cX8_share 11 = .ok (.iconst 1, 1) := sdX8_share_0.2.2.2.2.2.2.2.1
theorem sdX8_share_12 : dz_Seg cX8_share [(12, .invokevirtual 263, 3), (15, .ireturn, 1), (16, .aload_n 0, 1), (17, .iload_n 1, 1), (18, .invokevirtual 315, 3), (21, .ifCond .ne 9, 3), (24, .aload_n 0, 1), (25, .iconst 2, 1)] := dz_sg _ 12 (by decide +kernel)
theorem dX8_share_12 : decode cX8_share 12 = .ok (.invokevirtual 263, 3) := sdX8_share_12.1
theorem dX8_share_15 : decode cX8_share 15 = .ok (.ireturn, 1) := sdX8_share_12.2.1
theorem dX8_share_16 : decode cX8_share 16 = .ok (.aload_n 0, 1) := sdX8_share_12.2.2.1
theorem dX8_share_17 : decode cX8_share 17 = .ok (.iload_n 1, 1) := sdX8_share_12.2.2.2.1
theorem dX8_share_18 : decode cX8_share 18 = .ok (.invokevirtual 315, 3) := sdX8_share_12.2.2.2.2.1
theorem dX8_share_21 : decode cX8_share 21 = .ok (.ifCond .ne 9, 3) := sdX8_share_12.2.2.2.2.2.1
theorem dX8_share_24 : decode cX8_share 24 = .ok (.aload_n 0, 1) := sdX8_share_12.2.2.2.2.2.2.1
theorem dX8_share_25 : decode cX8_share 25 = .ok (.iconst 2, 1) := sdX8_share_12.2.2.2.2.2.2.2.1
theorem sdX8_share_26 : dz_Seg cX8_share [(26, .invokevirtual 263, 3), (29, .ireturn, 1), (30, .iconst 0, 1), (31, .istore_n 3, 1), (32, .iconst 0, 1), (33, .istore 4, 2), (35, .iload 4, 2), (37, .aload_n 0, 1)] := dz_sg _ 26 (by decide +kernel)
theorem dX8_share_26 : decode cX8_share 26 = .ok (.invokevirtual 263, 3) := sdX8_share_26.1
theorem dX8_share_29 : decode cX8_share 29 = .ok (.ireturn, 1) := sdX8_share_26.2.1
theorem dX8_share_30 : decode cX8_share 30 = .ok (.iconst 0, 1) := sdX8_share_26.2.2.1
theorem dX8_share_31 : decode cX8_share 31 = .ok (.istore_n 3, 1) := sdX8_share_26.2.2.2.1
theorem dX8_share_32 : decode cX8_share 32 = .ok (.iconst 0, 1) := sdX8_share_26.2.2.2.2.1
theorem dX8_share_33 : decode cX8_share 33 = .ok (.istore 4, 2) := sdX8_share_26.2.2.2.2.2.1
theorem dX8_share_35 : decode cX8_share 35 = .ok (.iload 4, 2) := sdX8_share_26.2.2.2.2.2.2.1
theorem dX8_share_37 : decode cX8_share 37 = .ok (.aload_n 0, 1) := sdX8_share_26.2.2.2.2.2.2.2.1
theorem sdX8_share_38 : dz_Seg cX8_share [(38, .getfield 275, 3), (41, .if_icmp .ge 19, 3), (44, .iload_n 3, 1), (45, .aload_n 0, 1), (46, .getfield 67, 3), (49, .iload 4, 2), (51, .iaload, 1), (52, .iadd, 1)] := dz_sg _ 38 (by decide +kernel)
theorem dX8_share_38 : decode cX8_share 38 = .ok (.getfield 275, 3) := sdX8_share_38.1
theorem dX8_share_41 : decode cX8_share 41 = .ok (.if_icmp .ge 19, 3) := sdX8_share_38.2.1
theorem dX8_share_44 : decode cX8_share 44 = .ok (.iload_n 3, 1) := sdX8_share_38.2.2.1
theorem dX8_share_45 : decode cX8_share 45 = .ok (.aload_n 0, 1) := sdX8_share_38.2.2.2.1
theorem dX8_share_46 : decode cX8_share 46 = .ok (.getfield 67, 3) := sdX8_share_38.2.2.2.2.1
theorem dX8_share_49 : decode cX8_share 49 = .ok (.iload 4, 2) := sdX8_share_38.2.2.2.2.2.1
theorem dX8_share_51 : decode cX8_share 51 = .ok (.iaload, 1) := sdX8_share_38.2.2.2.2.2.2.1
theorem dX8_share_52 : decode cX8_share 52 = .ok (.iadd, 1) := sdX8_share_38.2.2.2.2.2.2.2.1
theorem sdX8_share_53 : dz_Seg cX8_share [(53, .istore_n 3, 1), (54, .iinc 4 1, 3), (57, .goto (-22), 3), (60, .aload_n 0, 1), (61, .aload_n 0, 1), (62, .getfield 67, 3), (65, .iload_n 1, 1), (66, .iaload, 1)] := dz_sg _ 53 (by decide +kernel)
theorem dX8_share_53 : decode cX8_share 53 = .ok (.istore_n 3, 1) := sdX8_share_53.1
theorem dX8_share_54 : decode cX8_share 54 = .ok (.iinc 4 1, 3) := sdX8_share_53.2.1
theorem dX8_share_57 : decode cX8_share 57 = .ok (.goto (-22), 3) := sdX8_share_53.2.2.1
theorem dX8_share_60 : decode cX8_share 60 = .ok (.aload_n 0, 1) := sdX8_share_53.2.2.2.1
theorem dX8_share_61 : decode cX8_share 61 = .ok (.aload_n 0, 1) := sdX8_share_53.2.2.2.2.1
theorem dX8_share_62 : decode cX8_share 62 = .ok (.getfield 67, 3) := sdX8_share_53.2.2.2.2.2.1
theorem dX8_share_65 : decode cX8_share 65 = .ok (.iload_n 1, 1) := sdX8_share_53.2.2.2.2.2.2.1
theorem dX8_share_66 : decode cX8_share 66 = .ok (.iaload, 1) := sdX8_share_53.2.2.2.2.2.2.2.1
theorem sdX8_share_67 : dz_Seg cX8_share [(67, .iload_n 3, 1), (68, .iload_n 2, 1), (69, .invokevirtual 321, 3), (72, .ireturn, 1)] := dz_sg _ 67 (by decide +kernel)
theorem dX8_share_67 : decode cX8_share 67 = .ok (.iload_n 3, 1) := sdX8_share_67.1
theorem dX8_share_68 : decode cX8_share 68 = .ok (.iload_n 2, 1) := sdX8_share_67.2.1
theorem dX8_share_69 : decode cX8_share 69 = .ok (.invokevirtual 321, 3) := sdX8_share_67.2.2.1
theorem dX8_share_72 : decode cX8_share 72 = .ok (.ireturn, 1) := sdX8_share_67.2.2.2.1
theorem sdX8_gets_0 : dz_Seg cX8_gets [(0, .aload_n 0, 1), (1, .getfield 73, 3), (4, .iload_n 1, 1), (5, .iload_n 2, 1), (6, .iastore, 1), (7, .aload_n 0, 1), (8, .getfield 76, 3), (11, .iload_n 1, 1)] := dz_sg _ 0 (by decide +kernel)
theorem dX8_gets_0 : decode cX8_gets 0 = .ok (.aload_n 0, 1) := sdX8_gets_0.1
theorem dX8_gets_1 : decode cX8_gets 1 = .ok (.getfield 73, 3) := sdX8_gets_0.2.1
theorem dX8_gets_4 : decode cX8_gets 4 = .ok (.iload_n 1, 1) := sdX8_gets_0.2.2.1
theorem dX8_gets_5 : decode cX8_gets 5 = .ok (.iload_n 2, 1) := sdX8_gets_0.2.2.2.1
theorem dX8_gets_6 : decode cX8_gets 6 = .ok (.iastore, 1) := sdX8_gets_0.2.2.2.2.1
theorem dX8_gets_7 : decode cX8_gets 7 = .ok (.aload_n 0, 1) := sdX8_gets_0.2.2.2.2.2.1
theorem dX8_gets_8 : decode cX8_gets 8 = .ok (.getfield 76, 3) := sdX8_gets_0.2.2.2.2.2.2.1
theorem dX8_gets_11 : decode cX8_gets 11 = .ok (.iload_n 1, 1) := sdX8_gets_0.2.2.2.2.2.2.2.1
theorem sdX8_gets_12 : dz_Seg cX8_gets [(12, .iload_n 3, 1), (13, .iastore, 1), (14, .aload_n 0, 1), (15, .getfield 79, 3), (18, .iload_n 2, 1), (19, .dup2, 1), (20, .iaload, 1), (21, .aload_n 0, 1)] := dz_sg _ 12 (by decide +kernel)
theorem dX8_gets_12 : decode cX8_gets 12 = .ok (.iload_n 3, 1) := sdX8_gets_12.1
theorem dX8_gets_13 : decode cX8_gets 13 = .ok (.iastore, 1) := sdX8_gets_12.2.1
theorem dX8_gets_14 : decode cX8_gets 14 = .ok (.aload_n 0, 1) := sdX8_gets_12.2.2.1
theorem dX8_gets_15 : decode cX8_gets 15 = .ok (.getfield 79, 3) := sdX8_gets_12.2.2.2.1
theorem dX8_gets_18 : decode cX8_gets 18 = .ok (.iload_n 2, 1) := sdX8_gets_12.2.2.2.2.1
theorem dX8_gets_19 : decode cX8_gets 19 = .ok (.dup2, 1) := sdX8_gets_12.2.2.2.2.2.1
theorem dX8_gets_20 : decode cX8_gets 20 = .ok (.iaload, 1) := sdX8_gets_12.2.2.2.2.2.2.1
theorem dX8_gets_21 : decode cX8_gets 21 = .ok (.aload_n 0, 1) := sdX8_gets_12.2.2.2.2.2.2.2.1
theorem sdX8_gets_22 : dz_Seg cX8_gets [(22, .getfield 58, 3), (25, .iload_n 1, 1), (26, .iaload, 1), (27, .isub, 1), (28, .iastore, 1), (29, .aload_n 0, 1), (30, .getfield 82, 3), (33, .iload_n 2, 1)] := dz_sg _ 22 (by decide +kernel)
theorem dX8_gets_22 : decode cX8_gets 22 = .ok (.getfield 58, 3) := sdX8_gets_22.1
theorem dX8_gets_25 : decode cX8_gets 25 = .ok (.iload_n 1, 1) := sdX8_gets_22.2.1
theorem dX8_gets_26 : decode cX8_gets 26 = .ok (.iaload, 1) := sdX8_gets_22.2.2.1
theorem dX8_gets_27 : decode cX8_gets 27 = .ok (.isub, 1) := sdX8_gets_22.2.2.2.1
theorem dX8_gets_28 : decode cX8_gets 28 = .ok (.iastore, 1) := sdX8_gets_22.2.2.2.2.1
theorem dX8_gets_29 : decode cX8_gets 29 = .ok (.aload_n 0, 1) := sdX8_gets_22.2.2.2.2.2.1
theorem dX8_gets_30 : decode cX8_gets 30 = .ok (.getfield 82, 3) := sdX8_gets_22.2.2.2.2.2.2.1
theorem dX8_gets_33 : decode cX8_gets 33 = .ok (.iload_n 2, 1) := sdX8_gets_22.2.2.2.2.2.2.2.1
theorem sdX8_gets_34 : dz_Seg cX8_gets [(34, .dup2, 1), (35, .iaload, 1), (36, .aload_n 0, 1), (37, .getfield 61, 3), (40, .iload_n 1, 1), (41, .iaload, 1), (42, .isub, 1), (43, .iastore, 1)] := dz_sg _ 34 (by decide +kernel)
theorem dX8_gets_34 : decode cX8_gets 34 = .ok (.dup2, 1) := sdX8_gets_34.1
theorem dX8_gets_35 : decode cX8_gets 35 = .ok (.iaload, 1) := sdX8_gets_34.2.1
theorem dX8_gets_36 : decode cX8_gets 36 = .ok (.aload_n 0, 1) := sdX8_gets_34.2.2.1
theorem dX8_gets_37 : decode cX8_gets 37 = .ok (.getfield 61, 3) := sdX8_gets_34.2.2.2.1
theorem dX8_gets_40 : decode cX8_gets 40 = .ok (.iload_n 1, 1) := sdX8_gets_34.2.2.2.2.1
theorem dX8_gets_41 : decode cX8_gets 41 = .ok (.iaload, 1) := sdX8_gets_34.2.2.2.2.2.1
theorem dX8_gets_42 : decode cX8_gets 42 = .ok (.isub, 1) := sdX8_gets_34.2.2.2.2.2.2.1
theorem dX8_gets_43 : decode cX8_gets 43 = .ok (.iastore, 1) := sdX8_gets_34.2.2.2.2.2.2.2.1
theorem sdX8_gets_44 : dz_Seg cX8_gets [(44, .return_, 1)] := dz_sg _ 44 (by decide +kernel)
theorem dX8_gets_44 : decode cX8_gets 44 = .ok (.return_, 1) := sdX8_gets_44.1
theorem sdX8_fits_0 : dz_Seg cX8_fits [(0, .aload_n 0, 1), (1, .getfield 58, 3), (4, .iload_n 1, 1), (5, .iaload, 1), (6, .iload_n 3, 1), (7, .if_icmp .gt 22, 3), (10, .aload_n 0, 1), (11, .getfield 61, 3)] := dz_sg _ 0 (by decide +kernel)
theorem dX8_fits_0 : decode cX8_fits 0 = .ok (.aload_n 0, 1) := sdX8_fits_0.1
theorem dX8_fits_1 : decode cX8_fits 1 = .ok (.getfield 58, 3) := sdX8_fits_0.2.1
theorem dX8_fits_4 : decode cX8_fits 4 = .ok (.iload_n 1, 1) := sdX8_fits_0.2.2.1
theorem dX8_fits_5 : decode cX8_fits 5 = .ok (.iaload, 1) := sdX8_fits_0.2.2.2.1
theorem dX8_fits_6 : decode cX8_fits 6 = .ok (.iload_n 3, 1) := sdX8_fits_0.2.2.2.2.1
theorem dX8_fits_7 : decode cX8_fits 7 = .ok (.if_icmp .gt 22, 3) := sdX8_fits_0.2.2.2.2.2.1
theorem dX8_fits_10 : decode cX8_fits 10 = .ok (.aload_n 0, 1) := sdX8_fits_0.2.2.2.2.2.2.1
theorem dX8_fits_11 : decode cX8_fits 11 = .ok (.getfield 61, 3) := sdX8_fits_0.2.2.2.2.2.2.2.1
theorem sdX8_fits_14 : dz_Seg cX8_fits [(14, .iload_n 1, 1), (15, .iaload, 1), (16, .aload_n 0, 1), (17, .getfield 82, 3), (20, .iload_n 2, 1), (21, .iaload, 1), (22, .if_icmp .gt 7, 3), (25, .iconst 1, 1)] := dz_sg _ 14 (by decide +kernel)
theorem dX8_fits_14 : decode cX8_fits 14 = .ok (.iload_n 1, 1) := sdX8_fits_14.1
theorem dX8_fits_15 : decode cX8_fits 15 = .ok (.iaload, 1) := sdX8_fits_14.2.1
theorem dX8_fits_16 : decode cX8_fits 16 = .ok (.aload_n 0, 1) := sdX8_fits_14.2.2.1
theorem dX8_fits_17 : decode cX8_fits 17 = .ok (.getfield 82, 3) := sdX8_fits_14.2.2.2.1
theorem dX8_fits_20 : decode cX8_fits 20 = .ok (.iload_n 2, 1) := sdX8_fits_14.2.2.2.2.1
theorem dX8_fits_21 : decode cX8_fits 21 = .ok (.iaload, 1) := sdX8_fits_14.2.2.2.2.2.1
theorem dX8_fits_22 : decode cX8_fits 22 = .ok (.if_icmp .gt 7, 3) := sdX8_fits_14.2.2.2.2.2.2.1
theorem dX8_fits_25 : decode cX8_fits 25 = .ok (.iconst 1, 1) := sdX8_fits_14.2.2.2.2.2.2.2.1
theorem sdX8_fits_26 : dz_Seg cX8_fits [(26, .goto 4, 3), (29, .iconst 0, 1), (30, .ireturn, 1)] := dz_sg _ 26 (by decide +kernel)
theorem dX8_fits_26 : decode cX8_fits 26 = .ok (.goto 4, 3) := sdX8_fits_26.1
theorem dX8_fits_29 : decode cX8_fits 29 = .ok (.iconst 0, 1) := sdX8_fits_26.2.1
theorem dX8_fits_30 : decode cX8_fits 30 = .ok (.ireturn, 1) := sdX8_fits_26.2.2.1
theorem sdX8_results_0 : dz_Seg cX8_results [(0, .iconst 0, 1), (1, .istore_n 2, 1), (2, .iload_n 2, 1), (3, .aload_n 0, 1), (4, .getfield 275, 3), (7, .if_icmp .ge 23, 3), (10, .aload_n 0, 1), (11, .getfield 73, 3)] := dz_sg _ 0 (by decide +kernel)
theorem dX8_results_0 : decode cX8_results 0 = .ok (.iconst 0, 1) := sdX8_results_0.1
theorem dX8_results_1 : decode cX8_results 1 = .ok (.istore_n 2, 1) := sdX8_results_0.2.1
theorem dX8_results_2 : decode cX8_results 2 = .ok (.iload_n 2, 1) := sdX8_results_0.2.2.1
theorem dX8_results_3 : decode cX8_results 3 = .ok (.aload_n 0, 1) := sdX8_results_0.2.2.2.1
theorem dX8_results_4 : decode cX8_results 4 = .ok (.getfield 275, 3) := sdX8_results_0.2.2.2.2.1
theorem dX8_results_7 : decode cX8_results 7 = .ok (.if_icmp .ge 23, 3) := sdX8_results_0.2.2.2.2.2.1
theorem dX8_results_10 : decode cX8_results 10 = .ok (.aload_n 0, 1) := sdX8_results_0.2.2.2.2.2.2.1
theorem dX8_results_11 : decode cX8_results 11 = .ok (.getfield 73, 3) := sdX8_results_0.2.2.2.2.2.2.2.1
theorem sdX8_results_14 : dz_Seg cX8_results [(14, .iload_n 2, 1), (15, .iconst (-1), 1), (16, .iastore, 1), (17, .aload_n 0, 1), (18, .getfield 76, 3), (21, .iload_n 2, 1), (22, .iconst 0, 1), (23, .iastore, 1)] := dz_sg _ 14 (by decide +kernel)
theorem dX8_results_14 : decode cX8_results 14 = .ok (.iload_n 2, 1) := sdX8_results_14.1
theorem dX8_results_15 : decode cX8_results 15 = .ok (.iconst (-1), 1) := sdX8_results_14.2.1
theorem dX8_results_16 : decode cX8_results 16 = .ok (.iastore, 1) := sdX8_results_14.2.2.1
theorem dX8_results_17 : decode cX8_results 17 = .ok (.aload_n 0, 1) := sdX8_results_14.2.2.2.1
theorem dX8_results_18 : decode cX8_results 18 = .ok (.getfield 76, 3) := sdX8_results_14.2.2.2.2.1
theorem dX8_results_21 : decode cX8_results 21 = .ok (.iload_n 2, 1) := sdX8_results_14.2.2.2.2.2.1
theorem dX8_results_22 : decode cX8_results 22 = .ok (.iconst 0, 1) := sdX8_results_14.2.2.2.2.2.2.1
theorem dX8_results_23 : decode cX8_results 23 = .ok (.iastore, 1) := sdX8_results_14.2.2.2.2.2.2.2.1
theorem sdX8_results_24 : dz_Seg cX8_results [(24, .iinc 2 1, 3), (27, .goto (-25), 3), (30, .iconst 0, 1), (31, .istore_n 2, 1), (32, .iload_n 2, 1), (33, .aload_n 0, 1), (34, .getfield 125, 3), (37, .if_icmp .ge 35, 3)] := dz_sg _ 24 (by decide +kernel)
theorem dX8_results_24 : decode cX8_results 24 = .ok (.iinc 2 1, 3) := sdX8_results_24.1
theorem dX8_results_27 : decode cX8_results 27 = .ok (.goto (-25), 3) := sdX8_results_24.2.1
theorem dX8_results_30 : decode cX8_results 30 = .ok (.iconst 0, 1) := sdX8_results_24.2.2.1
theorem dX8_results_31 : decode cX8_results 31 = .ok (.istore_n 2, 1) := sdX8_results_24.2.2.2.1
theorem dX8_results_32 : decode cX8_results 32 = .ok (.iload_n 2, 1) := sdX8_results_24.2.2.2.2.1
theorem dX8_results_33 : decode cX8_results 33 = .ok (.aload_n 0, 1) := sdX8_results_24.2.2.2.2.2.1
theorem dX8_results_34 : decode cX8_results 34 = .ok (.getfield 125, 3) := sdX8_results_24.2.2.2.2.2.2.1
theorem dX8_results_37 : decode cX8_results 37 = .ok (.if_icmp .ge 35, 3) := sdX8_results_24.2.2.2.2.2.2.2.1
theorem sdX8_results_40 : dz_Seg cX8_results [(40, .aload_n 0, 1), (41, .getfield 79, 3), (44, .iload_n 2, 1), (45, .aload_n 0, 1), (46, .getfield 7, 3), (49, .bipush 62, 2), (51, .iload_n 2, 1), (52, .iadd, 1)] := dz_sg _ 40 (by decide +kernel)
theorem dX8_results_40 : decode cX8_results 40 = .ok (.aload_n 0, 1) := sdX8_results_40.1
theorem dX8_results_41 : decode cX8_results 41 = .ok (.getfield 79, 3) := sdX8_results_40.2.1
theorem dX8_results_44 : decode cX8_results 44 = .ok (.iload_n 2, 1) := sdX8_results_40.2.2.1
theorem dX8_results_45 : decode cX8_results 45 = .ok (.aload_n 0, 1) := sdX8_results_40.2.2.2.1
theorem dX8_results_46 : decode cX8_results 46 = .ok (.getfield 7, 3) := sdX8_results_40.2.2.2.2.1
theorem dX8_results_49 : decode cX8_results 49 = .ok (.bipush 62, 2) := sdX8_results_40.2.2.2.2.2.1
theorem dX8_results_51 : decode cX8_results 51 = .ok (.iload_n 2, 1) := sdX8_results_40.2.2.2.2.2.2.1
theorem dX8_results_52 : decode cX8_results 52 = .ok (.iadd, 1) := sdX8_results_40.2.2.2.2.2.2.2.1
theorem sdX8_results_53 : dz_Seg cX8_results [(53, .iaload, 1), (54, .iastore, 1), (55, .aload_n 0, 1), (56, .getfield 82, 3), (59, .iload_n 2, 1), (60, .aload_n 0, 1), (61, .iload_n 2, 1), (62, .invokevirtual 307, 3)] := dz_sg _ 53 (by decide +kernel)
theorem dX8_results_53 : decode cX8_results 53 = .ok (.iaload, 1) := sdX8_results_53.1
theorem dX8_results_54 : decode cX8_results 54 = .ok (.iastore, 1) := sdX8_results_53.2.1
theorem dX8_results_55 : decode cX8_results 55 = .ok (.aload_n 0, 1) := sdX8_results_53.2.2.1
theorem dX8_results_56 : decode cX8_results 56 = .ok (.getfield 82, 3) := sdX8_results_53.2.2.2.1
theorem dX8_results_59 : decode cX8_results 59 = .ok (.iload_n 2, 1) := sdX8_results_53.2.2.2.2.1
theorem dX8_results_60 : decode cX8_results 60 = .ok (.aload_n 0, 1) := sdX8_results_53.2.2.2.2.2.1
theorem dX8_results_61 : decode cX8_results 61 = .ok (.iload_n 2, 1) := sdX8_results_53.2.2.2.2.2.2.1
theorem dX8_results_62 : decode cX8_results 62 = .ok (.invokevirtual 307, 3) := sdX8_results_53.2.2.2.2.2.2.2.1
theorem sdX8_results_65 : dz_Seg cX8_results [(65, .iastore, 1), (66, .iinc 2 1, 3), (69, .goto (-37), 3), (72, .iconst 0, 1), (73, .istore_n 2, 1), (74, .iload_n 2, 1), (75, .aload_n 0, 1), (76, .getfield 125, 3)] := dz_sg _ 65 (by decide +kernel)
theorem dX8_results_65 : decode cX8_results 65 = .ok (.iastore, 1) := sdX8_results_65.1
theorem dX8_results_66 : decode cX8_results 66 = .ok (.iinc 2 1, 3) := sdX8_results_65.2.1
theorem dX8_results_69 : decode cX8_results 69 = .ok (.goto (-37), 3) := sdX8_results_65.2.2.1
theorem dX8_results_72 : decode cX8_results 72 = .ok (.iconst 0, 1) := sdX8_results_65.2.2.2.1
theorem dX8_results_73 : decode cX8_results 73 = .ok (.istore_n 2, 1) := sdX8_results_65.2.2.2.2.1
theorem dX8_results_74 : decode cX8_results 74 = .ok (.iload_n 2, 1) := sdX8_results_65.2.2.2.2.2.1
theorem dX8_results_75 : decode cX8_results 75 = .ok (.aload_n 0, 1) := sdX8_results_65.2.2.2.2.2.2.1
theorem dX8_results_76 : decode cX8_results 76 = .ok (.getfield 125, 3) := sdX8_results_65.2.2.2.2.2.2.2.1
theorem sdX8_results_79 : dz_Seg cX8_results [(79, .if_icmp .ge 15, 3), (82, .aload_n 0, 1), (83, .iload_n 2, 1), (84, .iload_n 1, 1), (85, .invokevirtual 325, 3), (88, .iinc 2 1, 3), (91, .goto (-17), 3), (94, .iconst 0, 1)] := dz_sg _ 79 (by decide +kernel)
theorem dX8_results_79 : decode cX8_results 79 = .ok (.if_icmp .ge 15, 3) := sdX8_results_79.1
theorem dX8_results_82 : decode cX8_results 82 = .ok (.aload_n 0, 1) := sdX8_results_79.2.1
theorem dX8_results_83 : decode cX8_results 83 = .ok (.iload_n 2, 1) := sdX8_results_79.2.2.1
theorem dX8_results_84 : decode cX8_results 84 = .ok (.iload_n 1, 1) := sdX8_results_79.2.2.2.1
theorem dX8_results_85 : decode cX8_results 85 = .ok (.invokevirtual 325, 3) := sdX8_results_79.2.2.2.2.1
theorem dX8_results_88 : decode cX8_results 88 = .ok (.iinc 2 1, 3) := sdX8_results_79.2.2.2.2.2.1
theorem dX8_results_91 : decode cX8_results 91 = .ok (.goto (-17), 3) := sdX8_results_79.2.2.2.2.2.2.1
theorem dX8_results_94 : decode cX8_results 94 = .ok (.iconst 0, 1) := sdX8_results_79.2.2.2.2.2.2.2.1
theorem sdX8_results_95 : dz_Seg cX8_results [(95, .istore_n 2, 1), (96, .iload_n 2, 1), (97, .aload_n 0, 1), (98, .getfield 275, 3), (101, .if_icmp .ge 90, 3), (104, .aload_n 0, 1), (105, .getfield 70, 3), (108, .iload_n 2, 1)] := dz_sg _ 95 (by decide +kernel)
theorem dX8_results_95 : decode cX8_results 95 = .ok (.istore_n 2, 1) := sdX8_results_95.1
theorem dX8_results_96 : decode cX8_results 96 = .ok (.iload_n 2, 1) := sdX8_results_95.2.1
theorem dX8_results_97 : decode cX8_results 97 = .ok (.aload_n 0, 1) := sdX8_results_95.2.2.1
theorem dX8_results_98 : decode cX8_results 98 = .ok (.getfield 275, 3) := sdX8_results_95.2.2.2.1
theorem dX8_results_101 : decode cX8_results 101 = .ok (.if_icmp .ge 90, 3) := sdX8_results_95.2.2.2.2.1
theorem dX8_results_104 : decode cX8_results 104 = .ok (.aload_n 0, 1) := sdX8_results_95.2.2.2.2.2.1
theorem dX8_results_105 : decode cX8_results 105 = .ok (.getfield 70, 3) := sdX8_results_95.2.2.2.2.2.2.1
theorem dX8_results_108 : decode cX8_results 108 = .ok (.iload_n 2, 1) := sdX8_results_95.2.2.2.2.2.2.2.1
theorem sdX8_results_109 : dz_Seg cX8_results [(109, .iaload, 1), (110, .istore_n 3, 1), (111, .iconst 0, 1), (112, .istore 4, 2), (114, .iload 4, 2), (116, .aload_n 0, 1), (117, .iload_n 3, 1), (118, .invokevirtual 288, 3)] := dz_sg _ 109 (by decide +kernel)
theorem dX8_results_109 : decode cX8_results 109 = .ok (.iaload, 1) := sdX8_results_109.1
theorem dX8_results_110 : decode cX8_results 110 = .ok (.istore_n 3, 1) := sdX8_results_109.2.1
theorem dX8_results_111 : decode cX8_results 111 = .ok (.iconst 0, 1) := sdX8_results_109.2.2.1
theorem dX8_results_112 : decode cX8_results 112 = .ok (.istore 4, 2) := sdX8_results_109.2.2.2.1
theorem dX8_results_114 : decode cX8_results 114 = .ok (.iload 4, 2) := sdX8_results_109.2.2.2.2.1
theorem dX8_results_116 : decode cX8_results 116 = .ok (.aload_n 0, 1) := sdX8_results_109.2.2.2.2.2.1
theorem dX8_results_117 : decode cX8_results 117 = .ok (.iload_n 3, 1) := sdX8_results_109.2.2.2.2.2.2.1
theorem dX8_results_118 : decode cX8_results 118 = .ok (.invokevirtual 288, 3) := sdX8_results_109.2.2.2.2.2.2.2.1
theorem sdX8_results_121 : dz_Seg cX8_results [(121, .if_icmp .ge 64, 3), (124, .aload_n 0, 1), (125, .getfield 73, 3), (128, .iload_n 3, 1), (129, .iaload, 1), (130, .iconst (-1), 1), (131, .if_icmp .ne 54, 3), (134, .iload_n 3, 1)] := dz_sg _ 121 (by decide +kernel)
theorem dX8_results_121 : decode cX8_results 121 = .ok (.if_icmp .ge 64, 3) := sdX8_results_121.1
theorem dX8_results_124 : decode cX8_results 124 = .ok (.aload_n 0, 1) := sdX8_results_121.2.1
theorem dX8_results_125 : decode cX8_results 125 = .ok (.getfield 73, 3) := sdX8_results_121.2.2.1
theorem dX8_results_128 : decode cX8_results 128 = .ok (.iload_n 3, 1) := sdX8_results_121.2.2.2.1
theorem dX8_results_129 : decode cX8_results 129 = .ok (.iaload, 1) := sdX8_results_121.2.2.2.2.1
theorem dX8_results_130 : decode cX8_results 130 = .ok (.iconst (-1), 1) := sdX8_results_121.2.2.2.2.2.1
theorem dX8_results_131 : decode cX8_results 131 = .ok (.if_icmp .ne 54, 3) := sdX8_results_121.2.2.2.2.2.2.1
theorem dX8_results_134 : decode cX8_results 134 = .ok (.iload_n 3, 1) := sdX8_results_121.2.2.2.2.2.2.2.1
theorem sdX8_results_135 : dz_Seg cX8_results [(135, .iload_n 1, 1), (136, .if_icmp .eq 49, 3), (139, .aload_n 0, 1), (140, .iload_n 3, 1), (141, .aload_n 0, 1), (142, .iload_n 3, 1), (143, .iload 4, 2), (145, .invokevirtual 284, 3)] := dz_sg _ 135 (by decide +kernel)
theorem dX8_results_135 : decode cX8_results 135 = .ok (.iload_n 1, 1) := sdX8_results_135.1
theorem dX8_results_136 : decode cX8_results 136 = .ok (.if_icmp .eq 49, 3) := sdX8_results_135.2.1
theorem dX8_results_139 : decode cX8_results 139 = .ok (.aload_n 0, 1) := sdX8_results_135.2.2.1
theorem dX8_results_140 : decode cX8_results 140 = .ok (.iload_n 3, 1) := sdX8_results_135.2.2.2.1
theorem dX8_results_141 : decode cX8_results 141 = .ok (.aload_n 0, 1) := sdX8_results_135.2.2.2.2.1
theorem dX8_results_142 : decode cX8_results 142 = .ok (.iload_n 3, 1) := sdX8_results_135.2.2.2.2.2.1
theorem dX8_results_143 : decode cX8_results 143 = .ok (.iload 4, 2) := sdX8_results_135.2.2.2.2.2.2.1
theorem dX8_results_145 : decode cX8_results 145 = .ok (.invokevirtual 284, 3) := sdX8_results_135.2.2.2.2.2.2.2.1
theorem sdX8_results_148 : dz_Seg cX8_results [(148, .aload_n 0, 1), (149, .getfield 79, 3), (152, .aload_n 0, 1), (153, .iload_n 3, 1), (154, .iload 4, 2), (156, .invokevirtual 284, 3), (159, .iaload, 1), (160, .invokevirtual 329, 3)] := dz_sg _ 148 (by decide +kernel)
theorem dX8_results_148 : decode cX8_results 148 = .ok (.aload_n 0, 1) := sdX8_results_148.1
theorem dX8_results_149 : decode cX8_results 149 = .ok (.getfield 79, 3) := sdX8_results_148.2.1
theorem dX8_results_152 : decode cX8_results 152 = .ok (.aload_n 0, 1) := sdX8_results_148.2.2.1
theorem dX8_results_153 : decode cX8_results 153 = .ok (.iload_n 3, 1) := sdX8_results_148.2.2.2.1
theorem dX8_results_154 : decode cX8_results 154 = .ok (.iload 4, 2) := sdX8_results_148.2.2.2.2.1
theorem dX8_results_156 : decode cX8_results 156 = .ok (.invokevirtual 284, 3) := sdX8_results_148.2.2.2.2.2.1
theorem dX8_results_159 : decode cX8_results 159 = .ok (.iaload, 1) := sdX8_results_148.2.2.2.2.2.2.1
theorem dX8_results_160 : decode cX8_results 160 = .ok (.invokevirtual 329, 3) := sdX8_results_148.2.2.2.2.2.2.2.1
theorem sdX8_results_163 : dz_Seg cX8_results [(163, .ifCond .eq 16, 3), (166, .aload_n 0, 1), (167, .iload_n 3, 1), (168, .aload_n 0, 1), (169, .iload_n 3, 1), (170, .iload 4, 2), (172, .invokevirtual 284, 3), (175, .iconst 2, 1)] := dz_sg _ 163 (by decide +kernel)
theorem dX8_results_163 : decode cX8_results 163 = .ok (.ifCond .eq 16, 3) := sdX8_results_163.1
theorem dX8_results_166 : decode cX8_results 166 = .ok (.aload_n 0, 1) := sdX8_results_163.2.1
theorem dX8_results_167 : decode cX8_results 167 = .ok (.iload_n 3, 1) := sdX8_results_163.2.2.1
theorem dX8_results_168 : decode cX8_results 168 = .ok (.aload_n 0, 1) := sdX8_results_163.2.2.2.1
theorem dX8_results_169 : decode cX8_results 169 = .ok (.iload_n 3, 1) := sdX8_results_163.2.2.2.2.1
theorem dX8_results_170 : decode cX8_results 170 = .ok (.iload 4, 2) := sdX8_results_163.2.2.2.2.2.1
theorem dX8_results_172 : decode cX8_results 172 = .ok (.invokevirtual 284, 3) := sdX8_results_163.2.2.2.2.2.2.1
theorem dX8_results_175 : decode cX8_results 175 = .ok (.iconst 2, 1) := sdX8_results_163.2.2.2.2.2.2.2.1
theorem sdX8_results_176 : dz_Seg cX8_results [(176, .invokevirtual 333, 3), (179, .iinc 4 1, 3), (182, .goto (-68), 3), (185, .iinc 2 1, 3), (188, .goto (-92), 3), (191, .return_, 1)] := dz_sg _ 176 (by decide +kernel)
theorem dX8_results_176 : decode cX8_results 176 = .ok (.invokevirtual 333, 3) := sdX8_results_176.1
theorem dX8_results_179 : decode cX8_results 179 = .ok (.iinc 4 1, 3) := sdX8_results_176.2.1
theorem dX8_results_182 : decode cX8_results 182 = .ok (.goto (-68), 3) := sdX8_results_176.2.2.1
theorem dX8_results_185 : decode cX8_results 185 = .ok (.iinc 2 1, 3) := sdX8_results_176.2.2.2.1
theorem dX8_results_188 : decode cX8_results 188 = .ok (.goto (-92), 3) := sdX8_results_176.2.2.2.2.1
theorem dX8_results_191 : decode cX8_results 191 = .ok (.return_, 1) := sdX8_results_176.2.2.2.2.2.1
theorem sdX8_firstRound_0 : dz_Seg cX8_firstRound [(0, .bipush 20, 2), (2, .istore_n 3, 1), (3, .iload_n 3, 1), (4, .ifCond .lt 116, 3), (7, .iconst 0, 1), (8, .istore 4, 2), (10, .iload 4, 2), (12, .aload_n 0, 1)] := dz_sg _ 0 (by decide +kernel)
theorem dX8_firstRound_0 : decode cX8_firstRound 0 = .ok (.bipush 20, 2) := sdX8_firstRound_0.1
theorem dX8_firstRound_2 : decode cX8_firstRound 2 = .ok (.istore_n 3, 1) := sdX8_firstRound_0.2.1
theorem dX8_firstRound_3 : decode cX8_firstRound 3 = .ok (.iload_n 3, 1) := sdX8_firstRound_0.2.2.1
theorem dX8_firstRound_4 : decode cX8_firstRound 4 = .ok (.ifCond .lt 116, 3) := sdX8_firstRound_0.2.2.2.1
theorem dX8_firstRound_7 : decode cX8_firstRound 7 = .ok (.iconst 0, 1) := sdX8_firstRound_0.2.2.2.2.1
theorem dX8_firstRound_8 : decode cX8_firstRound 8 = .ok (.istore 4, 2) := sdX8_firstRound_0.2.2.2.2.2.1
theorem dX8_firstRound_10 : decode cX8_firstRound 10 = .ok (.iload 4, 2) := sdX8_firstRound_0.2.2.2.2.2.2.1
theorem dX8_firstRound_12 : decode cX8_firstRound 12 = .ok (.aload_n 0, 1) := sdX8_firstRound_0.2.2.2.2.2.2.2.1
theorem sdX8_firstRound_13 : dz_Seg cX8_firstRound [(13, .getfield 275, 3), (16, .if_icmp .ge 98, 3), (19, .aload_n 0, 1), (20, .getfield 70, 3), (23, .iload 4, 2), (25, .iaload, 1), (26, .istore 5, 2), (28, .iload 5, 2)] := dz_sg _ 13 (by decide +kernel)
theorem dX8_firstRound_13 : decode cX8_firstRound 13 = .ok (.getfield 275, 3) := sdX8_firstRound_13.1
theorem dX8_firstRound_16 : decode cX8_firstRound 16 = .ok (.if_icmp .ge 98, 3) := sdX8_firstRound_13.2.1
theorem dX8_firstRound_19 : decode cX8_firstRound 19 = .ok (.aload_n 0, 1) := sdX8_firstRound_13.2.2.1
theorem dX8_firstRound_20 : decode cX8_firstRound 20 = .ok (.getfield 70, 3) := sdX8_firstRound_13.2.2.2.1
theorem dX8_firstRound_23 : decode cX8_firstRound 23 = .ok (.iload 4, 2) := sdX8_firstRound_13.2.2.2.2.1
theorem dX8_firstRound_25 : decode cX8_firstRound 25 = .ok (.iaload, 1) := sdX8_firstRound_13.2.2.2.2.2.1
theorem dX8_firstRound_26 : decode cX8_firstRound 26 = .ok (.istore 5, 2) := sdX8_firstRound_13.2.2.2.2.2.2.1
theorem dX8_firstRound_28 : decode cX8_firstRound 28 = .ok (.iload 5, 2) := sdX8_firstRound_13.2.2.2.2.2.2.2.1
theorem sdX8_firstRound_30 : dz_Seg cX8_firstRound [(30, .iload_n 2, 1), (31, .if_icmp .eq 29, 3), (34, .aload_n 0, 1), (35, .iload 5, 2), (37, .iconst 0, 1), (38, .invokevirtual 284, 3), (41, .iload_n 1, 1), (42, .if_icmp .ne 18, 3)] := dz_sg _ 30 (by decide +kernel)
theorem dX8_firstRound_30 : decode cX8_firstRound 30 = .ok (.iload_n 2, 1) := sdX8_firstRound_30.1
theorem dX8_firstRound_31 : decode cX8_firstRound 31 = .ok (.if_icmp .eq 29, 3) := sdX8_firstRound_30.2.1
theorem dX8_firstRound_34 : decode cX8_firstRound 34 = .ok (.aload_n 0, 1) := sdX8_firstRound_30.2.2.1
theorem dX8_firstRound_35 : decode cX8_firstRound 35 = .ok (.iload 5, 2) := sdX8_firstRound_30.2.2.2.1
theorem dX8_firstRound_37 : decode cX8_firstRound 37 = .ok (.iconst 0, 1) := sdX8_firstRound_30.2.2.2.2.1
theorem dX8_firstRound_38 : decode cX8_firstRound 38 = .ok (.invokevirtual 284, 3) := sdX8_firstRound_30.2.2.2.2.2.1
theorem dX8_firstRound_41 : decode cX8_firstRound 41 = .ok (.iload_n 1, 1) := sdX8_firstRound_30.2.2.2.2.2.2.1
theorem dX8_firstRound_42 : decode cX8_firstRound 42 = .ok (.if_icmp .ne 18, 3) := sdX8_firstRound_30.2.2.2.2.2.2.2.1
theorem sdX8_firstRound_45 : dz_Seg cX8_firstRound [(45, .aload_n 0, 1), (46, .getfield 64, 3), (49, .iload 5, 2), (51, .iaload, 1), (52, .iload_n 3, 1), (53, .if_icmp .ne 7, 3), (56, .iconst 1, 1), (57, .goto 4, 3)] := dz_sg _ 45 (by decide +kernel)
theorem dX8_firstRound_45 : decode cX8_firstRound 45 = .ok (.aload_n 0, 1) := sdX8_firstRound_45.1
theorem dX8_firstRound_46 : decode cX8_firstRound 46 = .ok (.getfield 64, 3) := sdX8_firstRound_45.2.1
theorem dX8_firstRound_49 : decode cX8_firstRound 49 = .ok (.iload 5, 2) := sdX8_firstRound_45.2.2.1
theorem dX8_firstRound_51 : decode cX8_firstRound 51 = .ok (.iaload, 1) := sdX8_firstRound_45.2.2.2.1
theorem dX8_firstRound_52 : decode cX8_firstRound 52 = .ok (.iload_n 3, 1) := sdX8_firstRound_45.2.2.2.2.1
theorem dX8_firstRound_53 : decode cX8_firstRound 53 = .ok (.if_icmp .ne 7, 3) := sdX8_firstRound_45.2.2.2.2.2.1
theorem dX8_firstRound_56 : decode cX8_firstRound 56 = .ok (.iconst 1, 1) := sdX8_firstRound_45.2.2.2.2.2.2.1
theorem dX8_firstRound_57 : decode cX8_firstRound 57 = .ok (.goto 4, 3) := sdX8_firstRound_45.2.2.2.2.2.2.2.1
theorem sdX8_firstRound_60 : dz_Seg cX8_firstRound [(60, .iconst 0, 1), (61, .istore 6, 2), (63, .iload 6, 2), (65, .ifCond .eq 43, 3), (68, .aload_n 0, 1), (69, .iload 5, 2), (71, .iload_n 1, 1), (72, .aload_n 0, 1)] := dz_sg _ 60 (by decide +kernel)
theorem dX8_firstRound_60 : decode cX8_firstRound 60 = .ok (.iconst 0, 1) := sdX8_firstRound_60.1
theorem dX8_firstRound_61 : decode cX8_firstRound 61 = .ok (.istore 6, 2) := sdX8_firstRound_60.2.1
theorem dX8_firstRound_63 : decode cX8_firstRound 63 = .ok (.iload 6, 2) := sdX8_firstRound_60.2.2.1
theorem dX8_firstRound_65 : decode cX8_firstRound 65 = .ok (.ifCond .eq 43, 3) := sdX8_firstRound_60.2.2.2.1
theorem dX8_firstRound_68 : decode cX8_firstRound 68 = .ok (.aload_n 0, 1) := sdX8_firstRound_60.2.2.2.2.1
theorem dX8_firstRound_69 : decode cX8_firstRound 69 = .ok (.iload 5, 2) := sdX8_firstRound_60.2.2.2.2.2.1
theorem dX8_firstRound_71 : decode cX8_firstRound 71 = .ok (.iload_n 1, 1) := sdX8_firstRound_60.2.2.2.2.2.2.1
theorem dX8_firstRound_72 : decode cX8_firstRound 72 = .ok (.aload_n 0, 1) := sdX8_firstRound_60.2.2.2.2.2.2.2.1
theorem sdX8_firstRound_73 : dz_Seg cX8_firstRound [(73, .getfield 79, 3), (76, .iload_n 1, 1), (77, .iaload, 1), (78, .aload_n 0, 1), (79, .getfield 7, 3), (82, .bipush 62, 2), (84, .iload_n 1, 1), (85, .iadd, 1)] := dz_sg _ 73 (by decide +kernel)
theorem dX8_firstRound_73 : decode cX8_firstRound 73 = .ok (.getfield 79, 3) := sdX8_firstRound_73.1
theorem dX8_firstRound_76 : decode cX8_firstRound 76 = .ok (.iload_n 1, 1) := sdX8_firstRound_73.2.1
theorem dX8_firstRound_77 : decode cX8_firstRound 77 = .ok (.iaload, 1) := sdX8_firstRound_73.2.2.1
theorem dX8_firstRound_78 : decode cX8_firstRound 78 = .ok (.aload_n 0, 1) := sdX8_firstRound_73.2.2.2.1
theorem dX8_firstRound_79 : decode cX8_firstRound 79 = .ok (.getfield 7, 3) := sdX8_firstRound_73.2.2.2.2.1
theorem dX8_firstRound_82 : decode cX8_firstRound 82 = .ok (.bipush 62, 2) := sdX8_firstRound_73.2.2.2.2.2.1
theorem dX8_firstRound_84 : decode cX8_firstRound 84 = .ok (.iload_n 1, 1) := sdX8_firstRound_73.2.2.2.2.2.2.1
theorem dX8_firstRound_85 : decode cX8_firstRound 85 = .ok (.iadd, 1) := sdX8_firstRound_73.2.2.2.2.2.2.2.1
theorem sdX8_firstRound_86 : dz_Seg cX8_firstRound [(86, .iaload, 1), (87, .isub, 1), (88, .aload_n 0, 1), (89, .iload_n 1, 1), (90, .invokevirtual 304, 3), (93, .iadd, 1), (94, .invokevirtual 329, 3), (97, .ifCond .eq 11, 3)] := dz_sg _ 86 (by decide +kernel)
theorem dX8_firstRound_86 : decode cX8_firstRound 86 = .ok (.iaload, 1) := sdX8_firstRound_86.1
theorem dX8_firstRound_87 : decode cX8_firstRound 87 = .ok (.isub, 1) := sdX8_firstRound_86.2.1
theorem dX8_firstRound_88 : decode cX8_firstRound 88 = .ok (.aload_n 0, 1) := sdX8_firstRound_86.2.2.1
theorem dX8_firstRound_89 : decode cX8_firstRound 89 = .ok (.iload_n 1, 1) := sdX8_firstRound_86.2.2.2.1
theorem dX8_firstRound_90 : decode cX8_firstRound 90 = .ok (.invokevirtual 304, 3) := sdX8_firstRound_86.2.2.2.2.1
theorem dX8_firstRound_93 : decode cX8_firstRound 93 = .ok (.iadd, 1) := sdX8_firstRound_86.2.2.2.2.2.1
theorem dX8_firstRound_94 : decode cX8_firstRound 94 = .ok (.invokevirtual 329, 3) := sdX8_firstRound_86.2.2.2.2.2.2.1
theorem dX8_firstRound_97 : decode cX8_firstRound 97 = .ok (.ifCond .eq 11, 3) := sdX8_firstRound_86.2.2.2.2.2.2.2.1
theorem sdX8_firstRound_100 : dz_Seg cX8_firstRound [(100, .aload_n 0, 1), (101, .iload 5, 2), (103, .iload_n 1, 1), (104, .iconst 1, 1), (105, .invokevirtual 333, 3), (108, .iinc 4 1, 3), (111, .goto (-101), 3), (114, .iinc 3 (-1), 3)] := dz_sg _ 100 (by decide +kernel)
theorem dX8_firstRound_100 : decode cX8_firstRound 100 = .ok (.aload_n 0, 1) := sdX8_firstRound_100.1
theorem dX8_firstRound_101 : decode cX8_firstRound 101 = .ok (.iload 5, 2) := sdX8_firstRound_100.2.1
theorem dX8_firstRound_103 : decode cX8_firstRound 103 = .ok (.iload_n 1, 1) := sdX8_firstRound_100.2.2.1
theorem dX8_firstRound_104 : decode cX8_firstRound 104 = .ok (.iconst 1, 1) := sdX8_firstRound_100.2.2.2.1
theorem dX8_firstRound_105 : decode cX8_firstRound 105 = .ok (.invokevirtual 333, 3) := sdX8_firstRound_100.2.2.2.2.1
theorem dX8_firstRound_108 : decode cX8_firstRound 108 = .ok (.iinc 4 1, 3) := sdX8_firstRound_100.2.2.2.2.2.1
theorem dX8_firstRound_111 : decode cX8_firstRound 111 = .ok (.goto (-101), 3) := sdX8_firstRound_100.2.2.2.2.2.2.1
theorem dX8_firstRound_114 : decode cX8_firstRound 114 = .ok (.iinc 3 (-1), 3) := sdX8_firstRound_100.2.2.2.2.2.2.2.1
theorem sdX8_firstRound_117 : dz_Seg cX8_firstRound [(117, .goto (-114), 3), (120, .return_, 1)] := dz_sg _ 117 (by decide +kernel)
theorem dX8_firstRound_117 : decode cX8_firstRound 117 = .ok (.goto (-114), 3) := sdX8_firstRound_117.1
theorem dX8_firstRound_120 : decode cX8_firstRound 120 = .ok (.return_, 1) := sdX8_firstRound_117.2.1
theorem sdX8_givenTags_0 : dz_Seg cX8_givenTags [(0, .iconst 0, 1), (1, .istore_n 1, 1), (2, .iconst 0, 1), (3, .istore_n 2, 1), (4, .iload_n 2, 1), (5, .aload_n 0, 1), (6, .getfield 275, 3), (9, .if_icmp .ge 32, 3)] := dz_sg _ 0 (by decide +kernel)
theorem dX8_givenTags_0 : decode cX8_givenTags 0 = .ok (.iconst 0, 1) := sdX8_givenTags_0.1
theorem dX8_givenTags_1 : decode cX8_givenTags 1 = .ok (.istore_n 1, 1) := sdX8_givenTags_0.2.1
theorem dX8_givenTags_2 : decode cX8_givenTags 2 = .ok (.iconst 0, 1) := sdX8_givenTags_0.2.2.1
theorem dX8_givenTags_3 : decode cX8_givenTags 3 = .ok (.istore_n 2, 1) := sdX8_givenTags_0.2.2.2.1
theorem dX8_givenTags_4 : decode cX8_givenTags 4 = .ok (.iload_n 2, 1) := sdX8_givenTags_0.2.2.2.2.1
theorem dX8_givenTags_5 : decode cX8_givenTags 5 = .ok (.aload_n 0, 1) := sdX8_givenTags_0.2.2.2.2.2.1
theorem dX8_givenTags_6 : decode cX8_givenTags 6 = .ok (.getfield 275, 3) := sdX8_givenTags_0.2.2.2.2.2.2.1
theorem dX8_givenTags_9 : decode cX8_givenTags 9 = .ok (.if_icmp .ge 32, 3) := sdX8_givenTags_0.2.2.2.2.2.2.2.1
theorem sdX8_givenTags_12 : dz_Seg cX8_givenTags [(12, .iload_n 1, 1), (13, .aload_n 0, 1), (14, .getfield 73, 3), (17, .iload_n 2, 1), (18, .iaload, 1), (19, .iconst (-1), 1), (20, .if_icmp .ne 7, 3), (23, .iconst 0, 1)] := dz_sg _ 12 (by decide +kernel)
theorem dX8_givenTags_12 : decode cX8_givenTags 12 = .ok (.iload_n 1, 1) := sdX8_givenTags_12.1
theorem dX8_givenTags_13 : decode cX8_givenTags 13 = .ok (.aload_n 0, 1) := sdX8_givenTags_12.2.1
theorem dX8_givenTags_14 : decode cX8_givenTags 14 = .ok (.getfield 73, 3) := sdX8_givenTags_12.2.2.1
theorem dX8_givenTags_17 : decode cX8_givenTags 17 = .ok (.iload_n 2, 1) := sdX8_givenTags_12.2.2.2.1
theorem dX8_givenTags_18 : decode cX8_givenTags 18 = .ok (.iaload, 1) := sdX8_givenTags_12.2.2.2.2.1
theorem dX8_givenTags_19 : decode cX8_givenTags 19 = .ok (.iconst (-1), 1) := sdX8_givenTags_12.2.2.2.2.2.1
theorem dX8_givenTags_20 : decode cX8_givenTags 20 = .ok (.if_icmp .ne 7, 3) := sdX8_givenTags_12.2.2.2.2.2.2.1
theorem dX8_givenTags_23 : decode cX8_givenTags 23 = .ok (.iconst 0, 1) := sdX8_givenTags_12.2.2.2.2.2.2.2.1
theorem sdX8_givenTags_24 : dz_Seg cX8_givenTags [(24, .goto 9, 3), (27, .aload_n 0, 1), (28, .getfield 58, 3), (31, .iload_n 2, 1), (32, .iaload, 1), (33, .iadd, 1), (34, .istore_n 1, 1), (35, .iinc 2 1, 3)] := dz_sg _ 24 (by decide +kernel)
theorem dX8_givenTags_24 : decode cX8_givenTags 24 = .ok (.goto 9, 3) := sdX8_givenTags_24.1
theorem dX8_givenTags_27 : decode cX8_givenTags 27 = .ok (.aload_n 0, 1) := sdX8_givenTags_24.2.1
theorem dX8_givenTags_28 : decode cX8_givenTags 28 = .ok (.getfield 58, 3) := sdX8_givenTags_24.2.2.1
theorem dX8_givenTags_31 : decode cX8_givenTags 31 = .ok (.iload_n 2, 1) := sdX8_givenTags_24.2.2.2.1
theorem dX8_givenTags_32 : decode cX8_givenTags 32 = .ok (.iaload, 1) := sdX8_givenTags_24.2.2.2.2.1
theorem dX8_givenTags_33 : decode cX8_givenTags 33 = .ok (.iadd, 1) := sdX8_givenTags_24.2.2.2.2.2.1
theorem dX8_givenTags_34 : decode cX8_givenTags 34 = .ok (.istore_n 1, 1) := sdX8_givenTags_24.2.2.2.2.2.2.1
theorem dX8_givenTags_35 : decode cX8_givenTags 35 = .ok (.iinc 2 1, 3) := sdX8_givenTags_24.2.2.2.2.2.2.2.1
theorem sdX8_givenTags_38 : dz_Seg cX8_givenTags [(38, .goto (-34), 3), (41, .iload_n 1, 1), (42, .ireturn, 1)] := dz_sg _ 38 (by decide +kernel)
theorem dX8_givenTags_38 : decode cX8_givenTags 38 = .ok (.goto (-34), 3) := sdX8_givenTags_38.1
theorem dX8_givenTags_41 : decode cX8_givenTags 41 = .ok (.iload_n 1, 1) := sdX8_givenTags_38.2.1
theorem dX8_givenTags_42 : decode cX8_givenTags 42 = .ok (.ireturn, 1) := sdX8_givenTags_38.2.2.1
theorem sdX8_draws_0 : dz_Seg cX8_draws [(0, .aload_n 0, 1), (1, .ldc2_w 337, 3), (4, .aload_n 0, 1), (5, .getfield 339, 3), (8, .lmul, 1), (9, .ldc2_w 342, 3), (12, .ladd, 1), (13, .ldc2_w 344, 3)] := dz_sg _ 0 (by decide +kernel)
theorem dX8_draws_0 : decode cX8_draws 0 = .ok (.aload_n 0, 1) := sdX8_draws_0.1
theorem dX8_draws_1 : decode cX8_draws 1 = .ok (.ldc2_w 337, 3) := sdX8_draws_0.2.1
theorem dX8_draws_4 : decode cX8_draws 4 = .ok (.aload_n 0, 1) := sdX8_draws_0.2.2.1
theorem dX8_draws_5 : decode cX8_draws 5 = .ok (.getfield 339, 3) := sdX8_draws_0.2.2.2.1
theorem dX8_draws_8 : decode cX8_draws 8 = .ok (.lmul, 1) := sdX8_draws_0.2.2.2.2.1
theorem dX8_draws_9 : decode cX8_draws 9 = .ok (.ldc2_w 342, 3) := sdX8_draws_0.2.2.2.2.2.1
theorem dX8_draws_12 : decode cX8_draws 12 = .ok (.ladd, 1) := sdX8_draws_0.2.2.2.2.2.2.1
theorem dX8_draws_13 : decode cX8_draws 13 = .ok (.ldc2_w 344, 3) := sdX8_draws_0.2.2.2.2.2.2.2.1
theorem sdX8_draws_16 : dz_Seg cX8_draws [(16, .lrem, 1), (17, .putfield 339, 3), (20, .aload_n 0, 1), (21, .getfield 339, 3), (24, .ldc2_w 346, 3), (27, .ldiv, 1), (28, .iload_n 1, 1), (29, .i2l, 1)] := dz_sg _ 16 (by decide +kernel)
theorem dX8_draws_16 : decode cX8_draws 16 = .ok (.lrem, 1) := sdX8_draws_16.1
theorem dX8_draws_17 : decode cX8_draws 17 = .ok (.putfield 339, 3) := sdX8_draws_16.2.1
theorem dX8_draws_20 : decode cX8_draws 20 = .ok (.aload_n 0, 1) := sdX8_draws_16.2.2.1
theorem dX8_draws_21 : decode cX8_draws 21 = .ok (.getfield 339, 3) := sdX8_draws_16.2.2.2.1
theorem dX8_draws_24 : decode cX8_draws 24 = .ok (.ldc2_w 346, 3) := sdX8_draws_16.2.2.2.2.1
theorem dX8_draws_27 : decode cX8_draws 27 = .ok (.ldiv, 1) := sdX8_draws_16.2.2.2.2.2.1
theorem dX8_draws_28 : decode cX8_draws 28 = .ok (.iload_n 1, 1) := sdX8_draws_16.2.2.2.2.2.2.1
theorem dX8_draws_29 : decode cX8_draws 29 = .ok (.i2l, 1) := sdX8_draws_16.2.2.2.2.2.2.2.1
theorem sdX8_draws_30 : dz_Seg cX8_draws [(30, .lrem, 1), (31, .lreturn, 1)] := dz_sg _ 30 (by decide +kernel)
theorem dX8_draws_30 : decode cX8_draws 30 = .ok (.lrem, 1) := sdX8_draws_30.1
theorem dX8_draws_31 : decode cX8_draws 31 = .ok (.lreturn, 1) := sdX8_draws_30.2.1
theorem sdX8_laysOrder_0 : dz_Seg cX8_laysOrder [(0, .aload_n 0, 1), (1, .invokevirtual 281, 3), (4, .aload_n 0, 1), (5, .iload_n 1, 1), (6, .i2l, 1), (7, .putfield 339, 3), (10, .iconst 0, 1), (11, .istore_n 2, 1)] := dz_sg _ 0 (by decide +kernel)
theorem dX8_laysOrder_0 : decode cX8_laysOrder 0 = .ok (.aload_n 0, 1) := sdX8_laysOrder_0.1
theorem dX8_laysOrder_1 : decode cX8_laysOrder 1 = .ok (.invokevirtual 281, 3) := sdX8_laysOrder_0.2.1
theorem dX8_laysOrder_4 : decode cX8_laysOrder 4 = .ok (.aload_n 0, 1) := sdX8_laysOrder_0.2.2.1
theorem dX8_laysOrder_5 : decode cX8_laysOrder 5 = .ok (.iload_n 1, 1) := sdX8_laysOrder_0.2.2.2.1
theorem dX8_laysOrder_6 : decode cX8_laysOrder 6 = .ok (.i2l, 1) := sdX8_laysOrder_0.2.2.2.2.1
theorem dX8_laysOrder_7 : decode cX8_laysOrder 7 = .ok (.putfield 339, 3) := sdX8_laysOrder_0.2.2.2.2.2.1
theorem dX8_laysOrder_10 : decode cX8_laysOrder 10 = .ok (.iconst 0, 1) := sdX8_laysOrder_0.2.2.2.2.2.2.1
theorem dX8_laysOrder_11 : decode cX8_laysOrder 11 = .ok (.istore_n 2, 1) := sdX8_laysOrder_0.2.2.2.2.2.2.2.1
theorem sdX8_laysOrder_12 : dz_Seg cX8_laysOrder [(12, .iconst 0, 1), (13, .istore_n 3, 1), (14, .iconst 0, 1), (15, .istore 4, 2), (17, .iload 4, 2), (19, .aload_n 0, 1), (20, .getfield 275, 3), (23, .if_icmp .ge 19, 3)] := dz_sg _ 12 (by decide +kernel)
theorem dX8_laysOrder_12 : decode cX8_laysOrder 12 = .ok (.iconst 0, 1) := sdX8_laysOrder_12.1
theorem dX8_laysOrder_13 : decode cX8_laysOrder 13 = .ok (.istore_n 3, 1) := sdX8_laysOrder_12.2.1
theorem dX8_laysOrder_14 : decode cX8_laysOrder 14 = .ok (.iconst 0, 1) := sdX8_laysOrder_12.2.2.1
theorem dX8_laysOrder_15 : decode cX8_laysOrder 15 = .ok (.istore 4, 2) := sdX8_laysOrder_12.2.2.2.1
theorem dX8_laysOrder_17 : decode cX8_laysOrder 17 = .ok (.iload 4, 2) := sdX8_laysOrder_12.2.2.2.2.1
theorem dX8_laysOrder_19 : decode cX8_laysOrder 19 = .ok (.aload_n 0, 1) := sdX8_laysOrder_12.2.2.2.2.2.1
theorem dX8_laysOrder_20 : decode cX8_laysOrder 20 = .ok (.getfield 275, 3) := sdX8_laysOrder_12.2.2.2.2.2.2.1
theorem dX8_laysOrder_23 : decode cX8_laysOrder 23 = .ok (.if_icmp .ge 19, 3) := sdX8_laysOrder_12.2.2.2.2.2.2.2.1
theorem sdX8_laysOrder_26 : dz_Seg cX8_laysOrder [(26, .iload_n 3, 1), (27, .aload_n 0, 1), (28, .getfield 67, 3), (31, .iload 4, 2), (33, .iaload, 1), (34, .iadd, 1), (35, .istore_n 3, 1), (36, .iinc 4 1, 3)] := dz_sg _ 26 (by decide +kernel)
theorem dX8_laysOrder_26 : decode cX8_laysOrder 26 = .ok (.iload_n 3, 1) := sdX8_laysOrder_26.1
theorem dX8_laysOrder_27 : decode cX8_laysOrder 27 = .ok (.aload_n 0, 1) := sdX8_laysOrder_26.2.1
theorem dX8_laysOrder_28 : decode cX8_laysOrder 28 = .ok (.getfield 67, 3) := sdX8_laysOrder_26.2.2.1
theorem dX8_laysOrder_31 : decode cX8_laysOrder 31 = .ok (.iload 4, 2) := sdX8_laysOrder_26.2.2.2.1
theorem dX8_laysOrder_33 : decode cX8_laysOrder 33 = .ok (.iaload, 1) := sdX8_laysOrder_26.2.2.2.2.1
theorem dX8_laysOrder_34 : decode cX8_laysOrder 34 = .ok (.iadd, 1) := sdX8_laysOrder_26.2.2.2.2.2.1
theorem dX8_laysOrder_35 : decode cX8_laysOrder 35 = .ok (.istore_n 3, 1) := sdX8_laysOrder_26.2.2.2.2.2.2.1
theorem dX8_laysOrder_36 : decode cX8_laysOrder 36 = .ok (.iinc 4 1, 3) := sdX8_laysOrder_26.2.2.2.2.2.2.2.1
theorem sdX8_laysOrder_39 : dz_Seg cX8_laysOrder [(39, .goto (-22), 3), (42, .iconst 0, 1), (43, .istore 4, 2), (45, .iload 4, 2), (47, .aload_n 0, 1), (48, .getfield 275, 3), (51, .if_icmp .ge 88, 3), (54, .aload_n 0, 1)] := dz_sg _ 39 (by decide +kernel)
theorem dX8_laysOrder_39 : decode cX8_laysOrder 39 = .ok (.goto (-22), 3) := sdX8_laysOrder_39.1
theorem dX8_laysOrder_42 : decode cX8_laysOrder 42 = .ok (.iconst 0, 1) := sdX8_laysOrder_39.2.1
theorem dX8_laysOrder_43 : decode cX8_laysOrder 43 = .ok (.istore 4, 2) := sdX8_laysOrder_39.2.2.1
theorem dX8_laysOrder_45 : decode cX8_laysOrder 45 = .ok (.iload 4, 2) := sdX8_laysOrder_39.2.2.2.1
theorem dX8_laysOrder_47 : decode cX8_laysOrder 47 = .ok (.aload_n 0, 1) := sdX8_laysOrder_39.2.2.2.2.1
theorem dX8_laysOrder_48 : decode cX8_laysOrder 48 = .ok (.getfield 275, 3) := sdX8_laysOrder_39.2.2.2.2.2.1
theorem dX8_laysOrder_51 : decode cX8_laysOrder 51 = .ok (.if_icmp .ge 88, 3) := sdX8_laysOrder_39.2.2.2.2.2.2.1
theorem dX8_laysOrder_54 : decode cX8_laysOrder 54 = .ok (.aload_n 0, 1) := sdX8_laysOrder_39.2.2.2.2.2.2.2.1
theorem sdX8_laysOrder_55 : dz_Seg cX8_laysOrder [(55, .iload_n 3, 1), (56, .invokevirtual 348, 3), (59, .lstore 5, 2), (61, .iconst (-1), 1), (62, .istore 7, 2), (64, .lconst 0, 1), (65, .lstore 8, 2), (67, .lload 8, 2)] := dz_sg _ 55 (by decide +kernel)
theorem dX8_laysOrder_55 : decode cX8_laysOrder 55 = .ok (.iload_n 3, 1) := sdX8_laysOrder_55.1
theorem dX8_laysOrder_56 : decode cX8_laysOrder 56 = .ok (.invokevirtual 348, 3) := sdX8_laysOrder_55.2.1
theorem dX8_laysOrder_59 : decode cX8_laysOrder 59 = .ok (.lstore 5, 2) := sdX8_laysOrder_55.2.2.1
theorem dX8_laysOrder_61 : decode cX8_laysOrder 61 = .ok (.iconst (-1), 1) := sdX8_laysOrder_55.2.2.2.1
theorem dX8_laysOrder_62 : decode cX8_laysOrder 62 = .ok (.istore 7, 2) := sdX8_laysOrder_55.2.2.2.2.1
theorem dX8_laysOrder_64 : decode cX8_laysOrder 64 = .ok (.lconst 0, 1) := sdX8_laysOrder_55.2.2.2.2.2.1
theorem dX8_laysOrder_65 : decode cX8_laysOrder 65 = .ok (.lstore 8, 2) := sdX8_laysOrder_55.2.2.2.2.2.2.1
theorem dX8_laysOrder_67 : decode cX8_laysOrder 67 = .ok (.lload 8, 2) := sdX8_laysOrder_55.2.2.2.2.2.2.2.1
theorem sdX8_laysOrder_69 : dz_Seg cX8_laysOrder [(69, .lload 5, 2), (71, .lcmp, 1), (72, .ifCond .gt 35, 3), (75, .iinc 7 1, 3), (78, .lload 8, 2), (80, .iload_n 2, 1), (81, .iload 7, 2), (83, .invokestatic 240, 3)] := dz_sg _ 69 (by decide +kernel)
theorem dX8_laysOrder_69 : decode cX8_laysOrder 69 = .ok (.lload 5, 2) := sdX8_laysOrder_69.1
theorem dX8_laysOrder_71 : decode cX8_laysOrder 71 = .ok (.lcmp, 1) := sdX8_laysOrder_69.2.1
theorem dX8_laysOrder_72 : decode cX8_laysOrder 72 = .ok (.ifCond .gt 35, 3) := sdX8_laysOrder_69.2.2.1
theorem dX8_laysOrder_75 : decode cX8_laysOrder 75 = .ok (.iinc 7 1, 3) := sdX8_laysOrder_69.2.2.2.1
theorem dX8_laysOrder_78 : decode cX8_laysOrder 78 = .ok (.lload 8, 2) := sdX8_laysOrder_69.2.2.2.2.1
theorem dX8_laysOrder_80 : decode cX8_laysOrder 80 = .ok (.iload_n 2, 1) := sdX8_laysOrder_69.2.2.2.2.2.1
theorem dX8_laysOrder_81 : decode cX8_laysOrder 81 = .ok (.iload 7, 2) := sdX8_laysOrder_69.2.2.2.2.2.2.1
theorem dX8_laysOrder_83 : decode cX8_laysOrder 83 = .ok (.invokestatic 240, 3) := sdX8_laysOrder_69.2.2.2.2.2.2.2.1
theorem sdX8_laysOrder_86 : dz_Seg cX8_laysOrder [(86, .ifCond .eq 7, 3), (89, .lconst 0, 1), (90, .goto 11, 3), (93, .aload_n 0, 1), (94, .getfield 67, 3), (97, .iload 7, 2), (99, .iaload, 1), (100, .i2l, 1)] := dz_sg _ 86 (by decide +kernel)
theorem dX8_laysOrder_86 : decode cX8_laysOrder 86 = .ok (.ifCond .eq 7, 3) := sdX8_laysOrder_86.1
theorem dX8_laysOrder_89 : decode cX8_laysOrder 89 = .ok (.lconst 0, 1) := sdX8_laysOrder_86.2.1
theorem dX8_laysOrder_90 : decode cX8_laysOrder 90 = .ok (.goto 11, 3) := sdX8_laysOrder_86.2.2.1
theorem dX8_laysOrder_93 : decode cX8_laysOrder 93 = .ok (.aload_n 0, 1) := sdX8_laysOrder_86.2.2.2.1
theorem dX8_laysOrder_94 : decode cX8_laysOrder 94 = .ok (.getfield 67, 3) := sdX8_laysOrder_86.2.2.2.2.1
theorem dX8_laysOrder_97 : decode cX8_laysOrder 97 = .ok (.iload 7, 2) := sdX8_laysOrder_86.2.2.2.2.2.1
theorem dX8_laysOrder_99 : decode cX8_laysOrder 99 = .ok (.iaload, 1) := sdX8_laysOrder_86.2.2.2.2.2.2.1
theorem dX8_laysOrder_100 : decode cX8_laysOrder 100 = .ok (.i2l, 1) := sdX8_laysOrder_86.2.2.2.2.2.2.2.1
theorem sdX8_laysOrder_101 : dz_Seg cX8_laysOrder [(101, .ladd, 1), (102, .lstore 8, 2), (104, .goto (-37), 3), (107, .aload_n 0, 1), (108, .getfield 70, 3), (111, .iload 4, 2), (113, .iload 7, 2), (115, .iastore, 1)] := dz_sg _ 101 (by decide +kernel)
theorem dX8_laysOrder_101 : decode cX8_laysOrder 101 = .ok (.ladd, 1) := sdX8_laysOrder_101.1
theorem dX8_laysOrder_102 : decode cX8_laysOrder 102 = .ok (.lstore 8, 2) := sdX8_laysOrder_101.2.1
theorem dX8_laysOrder_104 : decode cX8_laysOrder 104 = .ok (.goto (-37), 3) := sdX8_laysOrder_101.2.2.1
theorem dX8_laysOrder_107 : decode cX8_laysOrder 107 = .ok (.aload_n 0, 1) := sdX8_laysOrder_101.2.2.2.1
theorem dX8_laysOrder_108 : decode cX8_laysOrder 108 = .ok (.getfield 70, 3) := sdX8_laysOrder_101.2.2.2.2.1
theorem dX8_laysOrder_111 : decode cX8_laysOrder 111 = .ok (.iload 4, 2) := sdX8_laysOrder_101.2.2.2.2.2.1
theorem dX8_laysOrder_113 : decode cX8_laysOrder 113 = .ok (.iload 7, 2) := sdX8_laysOrder_101.2.2.2.2.2.2.1
theorem dX8_laysOrder_115 : decode cX8_laysOrder 115 = .ok (.iastore, 1) := sdX8_laysOrder_101.2.2.2.2.2.2.2.1
theorem sdX8_laysOrder_116 : dz_Seg cX8_laysOrder [(116, .iload_n 2, 1), (117, .iconst 1, 1), (118, .iload 7, 2), (120, .ishl, 1), (121, .ior, 1), (122, .istore_n 2, 1), (123, .iload_n 3, 1), (124, .aload_n 0, 1)] := dz_sg _ 116 (by decide +kernel)
theorem dX8_laysOrder_116 : decode cX8_laysOrder 116 = .ok (.iload_n 2, 1) := sdX8_laysOrder_116.1
theorem dX8_laysOrder_117 : decode cX8_laysOrder 117 = .ok (.iconst 1, 1) := sdX8_laysOrder_116.2.1
theorem dX8_laysOrder_118 : decode cX8_laysOrder 118 = .ok (.iload 7, 2) := sdX8_laysOrder_116.2.2.1
theorem dX8_laysOrder_120 : decode cX8_laysOrder 120 = .ok (.ishl, 1) := sdX8_laysOrder_116.2.2.2.1
theorem dX8_laysOrder_121 : decode cX8_laysOrder 121 = .ok (.ior, 1) := sdX8_laysOrder_116.2.2.2.2.1
theorem dX8_laysOrder_122 : decode cX8_laysOrder 122 = .ok (.istore_n 2, 1) := sdX8_laysOrder_116.2.2.2.2.2.1
theorem dX8_laysOrder_123 : decode cX8_laysOrder 123 = .ok (.iload_n 3, 1) := sdX8_laysOrder_116.2.2.2.2.2.2.1
theorem dX8_laysOrder_124 : decode cX8_laysOrder 124 = .ok (.aload_n 0, 1) := sdX8_laysOrder_116.2.2.2.2.2.2.2.1
theorem sdX8_laysOrder_125 : dz_Seg cX8_laysOrder [(125, .getfield 67, 3), (128, .iload 7, 2), (130, .iaload, 1), (131, .isub, 1), (132, .istore_n 3, 1), (133, .iinc 4 1, 3), (136, .goto (-91), 3), (139, .return_, 1)] := dz_sg _ 125 (by decide +kernel)
theorem dX8_laysOrder_125 : decode cX8_laysOrder 125 = .ok (.getfield 67, 3) := sdX8_laysOrder_125.1
theorem dX8_laysOrder_128 : decode cX8_laysOrder 128 = .ok (.iload 7, 2) := sdX8_laysOrder_125.2.1
theorem dX8_laysOrder_130 : decode cX8_laysOrder 130 = .ok (.iaload, 1) := sdX8_laysOrder_125.2.2.1
theorem dX8_laysOrder_131 : decode cX8_laysOrder 131 = .ok (.isub, 1) := sdX8_laysOrder_125.2.2.2.1
theorem dX8_laysOrder_132 : decode cX8_laysOrder 132 = .ok (.istore_n 3, 1) := sdX8_laysOrder_125.2.2.2.2.1
theorem dX8_laysOrder_133 : decode cX8_laysOrder 133 = .ok (.iinc 4 1, 3) := sdX8_laysOrder_125.2.2.2.2.2.1
theorem dX8_laysOrder_136 : decode cX8_laysOrder 136 = .ok (.goto (-91), 3) := sdX8_laysOrder_125.2.2.2.2.2.2.1
theorem dX8_laysOrder_139 : decode cX8_laysOrder 139 = .ok (.return_, 1) := sdX8_laysOrder_125.2.2.2.2.2.2.2.1
theorem sdX8_laysResult_0 : dz_Seg cX8_laysResult [(0, .aload_n 0, 1), (1, .iload_n 1, 1), (2, .invokevirtual 352, 3), (5, .aload_n 0, 1), (6, .iconst (-1), 1), (7, .invokevirtual 355, 3), (10, .return_, 1)] := dz_sg _ 0 (by decide +kernel)
theorem dX8_laysResult_0 : decode cX8_laysResult 0 = .ok (.aload_n 0, 1) := sdX8_laysResult_0.1
theorem dX8_laysResult_1 : decode cX8_laysResult 1 = .ok (.iload_n 1, 1) := sdX8_laysResult_0.2.1
theorem dX8_laysResult_2 : decode cX8_laysResult 2 = .ok (.invokevirtual 352, 3) := sdX8_laysResult_0.2.2.1
theorem dX8_laysResult_5 : decode cX8_laysResult 5 = .ok (.aload_n 0, 1) := sdX8_laysResult_0.2.2.2.1
theorem dX8_laysResult_6 : decode cX8_laysResult 6 = .ok (.iconst (-1), 1) := sdX8_laysResult_0.2.2.2.2.1
theorem dX8_laysResult_7 : decode cX8_laysResult 7 = .ok (.invokevirtual 355, 3) := sdX8_laysResult_0.2.2.2.2.2.1
theorem dX8_laysResult_10 : decode cX8_laysResult 10 = .ok (.return_, 1) := sdX8_laysResult_0.2.2.2.2.2.2.1
theorem sdX8_order_0 : dz_Seg cX8_order [(0, .iload_n 1, 1), (1, .invokestatic 358, 3), (4, .ifCond .eq 7, 3), (7, .iload_n 2, 1), (8, .ifCond .ge 9, 3), (11, .aload_n 0, 1), (12, .iconst 1, 1), (13, .invokevirtual 263, 3)] := dz_sg _ 0 (by decide +kernel)
theorem dX8_order_0 : decode cX8_order 0 = .ok (.iload_n 1, 1) := sdX8_order_0.1
theorem dX8_order_1 : decode cX8_order 1 = .ok (.invokestatic 358, 3) := sdX8_order_0.2.1
theorem dX8_order_4 : decode cX8_order 4 = .ok (.ifCond .eq 7, 3) := sdX8_order_0.2.2.1
theorem dX8_order_7 : decode cX8_order 7 = .ok (.iload_n 2, 1) := sdX8_order_0.2.2.2.1
theorem dX8_order_8 : decode cX8_order 8 = .ok (.ifCond .ge 9, 3) := sdX8_order_0.2.2.2.2.1
theorem dX8_order_11 : decode cX8_order 11 = .ok (.aload_n 0, 1) := sdX8_order_0.2.2.2.2.2.1
theorem dX8_order_12 : decode cX8_order 12 = .ok (.iconst 1, 1) := sdX8_order_0.2.2.2.2.2.2.1
theorem dX8_order_13 : decode cX8_order 13 = .ok (.invokevirtual 263, 3) := sdX8_order_0.2.2.2.2.2.2.2.1
theorem sdX8_order_16 : dz_Seg cX8_order [(16, .ireturn, 1), (17, .aload_n 0, 1), (18, .iload_n 1, 1), (19, .invokevirtual 352, 3), (22, .iload_n 2, 1), (23, .aload_n 0, 1), (24, .getfield 275, 3), (27, .if_icmp .ge 16, 3)] := dz_sg _ 16 (by decide +kernel)
theorem dX8_order_16 : decode cX8_order 16 = .ok (.ireturn, 1) := sdX8_order_16.1
theorem dX8_order_17 : decode cX8_order 17 = .ok (.aload_n 0, 1) := sdX8_order_16.2.1
theorem dX8_order_18 : decode cX8_order 18 = .ok (.iload_n 1, 1) := sdX8_order_16.2.2.1
theorem dX8_order_19 : decode cX8_order 19 = .ok (.invokevirtual 352, 3) := sdX8_order_16.2.2.2.1
theorem dX8_order_22 : decode cX8_order 22 = .ok (.iload_n 2, 1) := sdX8_order_16.2.2.2.2.1
theorem dX8_order_23 : decode cX8_order 23 = .ok (.aload_n 0, 1) := sdX8_order_16.2.2.2.2.2.1
theorem dX8_order_24 : decode cX8_order 24 = .ok (.getfield 275, 3) := sdX8_order_16.2.2.2.2.2.2.1
theorem dX8_order_27 : decode cX8_order 27 = .ok (.if_icmp .ge 16, 3) := sdX8_order_16.2.2.2.2.2.2.2.1
theorem sdX8_order_30 : dz_Seg cX8_order [(30, .aload_n 0, 1), (31, .aload_n 0, 1), (32, .getfield 70, 3), (35, .iload_n 2, 1), (36, .iaload, 1), (37, .invokevirtual 272, 3), (40, .goto 8, 3), (43, .aload_n 0, 1)] := dz_sg _ 30 (by decide +kernel)
theorem dX8_order_30 : decode cX8_order 30 = .ok (.aload_n 0, 1) := sdX8_order_30.1
theorem dX8_order_31 : decode cX8_order 31 = .ok (.aload_n 0, 1) := sdX8_order_30.2.1
theorem dX8_order_32 : decode cX8_order 32 = .ok (.getfield 70, 3) := sdX8_order_30.2.2.1
theorem dX8_order_35 : decode cX8_order 35 = .ok (.iload_n 2, 1) := sdX8_order_30.2.2.2.1
theorem dX8_order_36 : decode cX8_order 36 = .ok (.iaload, 1) := sdX8_order_30.2.2.2.2.1
theorem dX8_order_37 : decode cX8_order 37 = .ok (.invokevirtual 272, 3) := sdX8_order_30.2.2.2.2.2.1
theorem dX8_order_40 : decode cX8_order 40 = .ok (.goto 8, 3) := sdX8_order_30.2.2.2.2.2.2.1
theorem dX8_order_43 : decode cX8_order 43 = .ok (.aload_n 0, 1) := sdX8_order_30.2.2.2.2.2.2.2.1
theorem sdX8_order_44 : dz_Seg cX8_order [(44, .iconst 5, 1), (45, .invokevirtual 263, 3), (48, .ireturn, 1)] := dz_sg _ 44 (by decide +kernel)
theorem dX8_order_44 : decode cX8_order 44 = .ok (.iconst 5, 1) := sdX8_order_44.1
theorem dX8_order_45 : decode cX8_order 45 = .ok (.invokevirtual 263, 3) := sdX8_order_44.2.1
theorem dX8_order_48 : decode cX8_order 48 = .ok (.ireturn, 1) := sdX8_order_44.2.2.1
theorem sdX8_drawn_0 : dz_Seg cX8_drawn [(0, .iload_n 1, 1), (1, .invokestatic 358, 3), (4, .ifCond .ne 9, 3), (7, .aload_n 0, 1), (8, .iconst 1, 1), (9, .invokevirtual 263, 3), (12, .ireturn, 1), (13, .aload_n 0, 1)] := dz_sg _ 0 (by decide +kernel)
theorem dX8_drawn_0 : decode cX8_drawn 0 = .ok (.iload_n 1, 1) := sdX8_drawn_0.1
theorem dX8_drawn_1 : decode cX8_drawn 1 = .ok (.invokestatic 358, 3) := sdX8_drawn_0.2.1
theorem dX8_drawn_4 : decode cX8_drawn 4 = .ok (.ifCond .ne 9, 3) := sdX8_drawn_0.2.2.1
theorem dX8_drawn_7 : decode cX8_drawn 7 = .ok (.aload_n 0, 1) := sdX8_drawn_0.2.2.2.1
theorem dX8_drawn_8 : decode cX8_drawn 8 = .ok (.iconst 1, 1) := sdX8_drawn_0.2.2.2.2.1
theorem dX8_drawn_9 : decode cX8_drawn 9 = .ok (.invokevirtual 263, 3) := sdX8_drawn_0.2.2.2.2.2.1
theorem dX8_drawn_12 : decode cX8_drawn 12 = .ok (.ireturn, 1) := sdX8_drawn_0.2.2.2.2.2.2.1
theorem dX8_drawn_13 : decode cX8_drawn 13 = .ok (.aload_n 0, 1) := sdX8_drawn_0.2.2.2.2.2.2.2.1
theorem sdX8_drawn_14 : dz_Seg cX8_drawn [(14, .iload_n 2, 1), (15, .invokevirtual 315, 3), (18, .ifCond .ne 9, 3), (21, .aload_n 0, 1), (22, .iconst 2, 1), (23, .invokevirtual 263, 3), (26, .ireturn, 1), (27, .aload_n 0, 1)] := dz_sg _ 14 (by decide +kernel)
theorem dX8_drawn_14 : decode cX8_drawn 14 = .ok (.iload_n 2, 1) := sdX8_drawn_14.1
theorem dX8_drawn_15 : decode cX8_drawn 15 = .ok (.invokevirtual 315, 3) := sdX8_drawn_14.2.1
theorem dX8_drawn_18 : decode cX8_drawn 18 = .ok (.ifCond .ne 9, 3) := sdX8_drawn_14.2.2.1
theorem dX8_drawn_21 : decode cX8_drawn 21 = .ok (.aload_n 0, 1) := sdX8_drawn_14.2.2.2.1
theorem dX8_drawn_22 : decode cX8_drawn 22 = .ok (.iconst 2, 1) := sdX8_drawn_14.2.2.2.2.1
theorem dX8_drawn_23 : decode cX8_drawn 23 = .ok (.invokevirtual 263, 3) := sdX8_drawn_14.2.2.2.2.2.1
theorem dX8_drawn_26 : decode cX8_drawn 26 = .ok (.ireturn, 1) := sdX8_drawn_14.2.2.2.2.2.2.1
theorem dX8_drawn_27 : decode cX8_drawn 27 = .ok (.aload_n 0, 1) := sdX8_drawn_14.2.2.2.2.2.2.2.1
theorem sdX8_drawn_28 : dz_Seg cX8_drawn [(28, .iload_n 1, 1), (29, .invokevirtual 361, 3), (32, .aload_n 0, 1), (33, .getfield 73, 3), (36, .iload_n 2, 1), (37, .iaload, 1), (38, .iconst (-1), 1), (39, .if_icmp .ne 11, 3)] := dz_sg _ 28 (by decide +kernel)
theorem dX8_drawn_28 : decode cX8_drawn 28 = .ok (.iload_n 1, 1) := sdX8_drawn_28.1
theorem dX8_drawn_29 : decode cX8_drawn 29 = .ok (.invokevirtual 361, 3) := sdX8_drawn_28.2.1
theorem dX8_drawn_32 : decode cX8_drawn 32 = .ok (.aload_n 0, 1) := sdX8_drawn_28.2.2.1
theorem dX8_drawn_33 : decode cX8_drawn 33 = .ok (.getfield 73, 3) := sdX8_drawn_28.2.2.2.1
theorem dX8_drawn_36 : decode cX8_drawn 36 = .ok (.iload_n 2, 1) := sdX8_drawn_28.2.2.2.2.1
theorem dX8_drawn_37 : decode cX8_drawn 37 = .ok (.iaload, 1) := sdX8_drawn_28.2.2.2.2.2.1
theorem dX8_drawn_38 : decode cX8_drawn 38 = .ok (.iconst (-1), 1) := sdX8_drawn_28.2.2.2.2.2.2.1
theorem dX8_drawn_39 : decode cX8_drawn 39 = .ok (.if_icmp .ne 11, 3) := sdX8_drawn_28.2.2.2.2.2.2.2.1
theorem sdX8_drawn_42 : dz_Seg cX8_drawn [(42, .aload_n 0, 1), (43, .iconst 5, 1), (44, .invokevirtual 263, 3), (47, .goto 13, 3), (50, .aload_n 0, 1), (51, .aload_n 0, 1), (52, .getfield 73, 3), (55, .iload_n 2, 1)] := dz_sg _ 42 (by decide +kernel)
theorem dX8_drawn_42 : decode cX8_drawn 42 = .ok (.aload_n 0, 1) := sdX8_drawn_42.1
theorem dX8_drawn_43 : decode cX8_drawn 43 = .ok (.iconst 5, 1) := sdX8_drawn_42.2.1
theorem dX8_drawn_44 : decode cX8_drawn 44 = .ok (.invokevirtual 263, 3) := sdX8_drawn_42.2.2.1
theorem dX8_drawn_47 : decode cX8_drawn 47 = .ok (.goto 13, 3) := sdX8_drawn_42.2.2.2.1
theorem dX8_drawn_50 : decode cX8_drawn 50 = .ok (.aload_n 0, 1) := sdX8_drawn_42.2.2.2.2.1
theorem dX8_drawn_51 : decode cX8_drawn 51 = .ok (.aload_n 0, 1) := sdX8_drawn_42.2.2.2.2.2.1
theorem dX8_drawn_52 : decode cX8_drawn 52 = .ok (.getfield 73, 3) := sdX8_drawn_42.2.2.2.2.2.2.1
theorem dX8_drawn_55 : decode cX8_drawn 55 = .ok (.iload_n 2, 1) := sdX8_drawn_42.2.2.2.2.2.2.2.1
theorem sdX8_drawn_56 : dz_Seg cX8_drawn [(56, .iaload, 1), (57, .invokevirtual 272, 3), (60, .ireturn, 1)] := dz_sg _ 56 (by decide +kernel)
theorem dX8_drawn_56 : decode cX8_drawn 56 = .ok (.iaload, 1) := sdX8_drawn_56.1
theorem dX8_drawn_57 : decode cX8_drawn 57 = .ok (.invokevirtual 272, 3) := sdX8_drawn_56.2.1
theorem dX8_drawn_60 : decode cX8_drawn 60 = .ok (.ireturn, 1) := sdX8_drawn_56.2.2.1
theorem sdX8_round_0 : dz_Seg cX8_round [(0, .iload_n 1, 1), (1, .invokestatic 358, 3), (4, .ifCond .ne 9, 3), (7, .aload_n 0, 1), (8, .iconst 1, 1), (9, .invokevirtual 263, 3), (12, .ireturn, 1), (13, .aload_n 0, 1)] := dz_sg _ 0 (by decide +kernel)
theorem dX8_round_0 : decode cX8_round 0 = .ok (.iload_n 1, 1) := sdX8_round_0.1
theorem dX8_round_1 : decode cX8_round 1 = .ok (.invokestatic 358, 3) := sdX8_round_0.2.1
theorem dX8_round_4 : decode cX8_round 4 = .ok (.ifCond .ne 9, 3) := sdX8_round_0.2.2.1
theorem dX8_round_7 : decode cX8_round 7 = .ok (.aload_n 0, 1) := sdX8_round_0.2.2.2.1
theorem dX8_round_8 : decode cX8_round 8 = .ok (.iconst 1, 1) := sdX8_round_0.2.2.2.2.1
theorem dX8_round_9 : decode cX8_round 9 = .ok (.invokevirtual 263, 3) := sdX8_round_0.2.2.2.2.2.1
theorem dX8_round_12 : decode cX8_round 12 = .ok (.ireturn, 1) := sdX8_round_0.2.2.2.2.2.2.1
theorem dX8_round_13 : decode cX8_round 13 = .ok (.aload_n 0, 1) := sdX8_round_0.2.2.2.2.2.2.2.1
theorem sdX8_round_14 : dz_Seg cX8_round [(14, .iload_n 2, 1), (15, .invokevirtual 315, 3), (18, .ifCond .ne 9, 3), (21, .aload_n 0, 1), (22, .iconst 2, 1), (23, .invokevirtual 263, 3), (26, .ireturn, 1), (27, .aload_n 0, 1)] := dz_sg _ 14 (by decide +kernel)
theorem dX8_round_14 : decode cX8_round 14 = .ok (.iload_n 2, 1) := sdX8_round_14.1
theorem dX8_round_15 : decode cX8_round 15 = .ok (.invokevirtual 315, 3) := sdX8_round_14.2.1
theorem dX8_round_18 : decode cX8_round 18 = .ok (.ifCond .ne 9, 3) := sdX8_round_14.2.2.1
theorem dX8_round_21 : decode cX8_round 21 = .ok (.aload_n 0, 1) := sdX8_round_14.2.2.2.1
theorem dX8_round_22 : decode cX8_round 22 = .ok (.iconst 2, 1) := sdX8_round_14.2.2.2.2.1
theorem dX8_round_23 : decode cX8_round 23 = .ok (.invokevirtual 263, 3) := sdX8_round_14.2.2.2.2.2.1
theorem dX8_round_26 : decode cX8_round 26 = .ok (.ireturn, 1) := sdX8_round_14.2.2.2.2.2.2.1
theorem dX8_round_27 : decode cX8_round 27 = .ok (.aload_n 0, 1) := sdX8_round_14.2.2.2.2.2.2.2.1
theorem sdX8_round_28 : dz_Seg cX8_round [(28, .iload_n 1, 1), (29, .invokevirtual 361, 3), (32, .aload_n 0, 1), (33, .getfield 73, 3), (36, .iload_n 2, 1), (37, .iaload, 1), (38, .iconst (-1), 1), (39, .if_icmp .ne 11, 3)] := dz_sg _ 28 (by decide +kernel)
theorem dX8_round_28 : decode cX8_round 28 = .ok (.iload_n 1, 1) := sdX8_round_28.1
theorem dX8_round_29 : decode cX8_round 29 = .ok (.invokevirtual 361, 3) := sdX8_round_28.2.1
theorem dX8_round_32 : decode cX8_round 32 = .ok (.aload_n 0, 1) := sdX8_round_28.2.2.1
theorem dX8_round_33 : decode cX8_round 33 = .ok (.getfield 73, 3) := sdX8_round_28.2.2.2.1
theorem dX8_round_36 : decode cX8_round 36 = .ok (.iload_n 2, 1) := sdX8_round_28.2.2.2.2.1
theorem dX8_round_37 : decode cX8_round 37 = .ok (.iaload, 1) := sdX8_round_28.2.2.2.2.2.1
theorem dX8_round_38 : decode cX8_round 38 = .ok (.iconst (-1), 1) := sdX8_round_28.2.2.2.2.2.2.1
theorem dX8_round_39 : decode cX8_round 39 = .ok (.if_icmp .ne 11, 3) := sdX8_round_28.2.2.2.2.2.2.2.1
theorem sdX8_round_42 : dz_Seg cX8_round [(42, .aload_n 0, 1), (43, .iconst 5, 1), (44, .invokevirtual 263, 3), (47, .goto 13, 3), (50, .aload_n 0, 1), (51, .aload_n 0, 1), (52, .getfield 76, 3), (55, .iload_n 2, 1)] := dz_sg _ 42 (by decide +kernel)
theorem dX8_round_42 : decode cX8_round 42 = .ok (.aload_n 0, 1) := sdX8_round_42.1
theorem dX8_round_43 : decode cX8_round 43 = .ok (.iconst 5, 1) := sdX8_round_42.2.1
theorem dX8_round_44 : decode cX8_round 44 = .ok (.invokevirtual 263, 3) := sdX8_round_42.2.2.1
theorem dX8_round_47 : decode cX8_round 47 = .ok (.goto 13, 3) := sdX8_round_42.2.2.2.1
theorem dX8_round_50 : decode cX8_round 50 = .ok (.aload_n 0, 1) := sdX8_round_42.2.2.2.2.1
theorem dX8_round_51 : decode cX8_round 51 = .ok (.aload_n 0, 1) := sdX8_round_42.2.2.2.2.2.1
theorem dX8_round_52 : decode cX8_round 52 = .ok (.getfield 76, 3) := sdX8_round_42.2.2.2.2.2.2.1
theorem dX8_round_55 : decode cX8_round 55 = .ok (.iload_n 2, 1) := sdX8_round_42.2.2.2.2.2.2.2.1
theorem sdX8_round_56 : dz_Seg cX8_round [(56, .iaload, 1), (57, .invokevirtual 272, 3), (60, .ireturn, 1)] := dz_sg _ 56 (by decide +kernel)
theorem dX8_round_56 : decode cX8_round 56 = .ok (.iaload, 1) := sdX8_round_56.1
theorem dX8_round_57 : decode cX8_round 57 = .ok (.invokevirtual 272, 3) := sdX8_round_56.2.1
theorem dX8_round_60 : decode cX8_round 60 = .ok (.ireturn, 1) := sdX8_round_56.2.2.1
theorem sdX8_left_0 : dz_Seg cX8_left [(0, .iload_n 1, 1), (1, .invokestatic 358, 3), (4, .ifCond .eq 15, 3), (7, .iload_n 3, 1), (8, .i2l, 1), (9, .lconst 0, 1), (10, .ldc2_w 364, 3), (13, .invokestatic 128, 3)] := dz_sg _ 0 (by decide +kernel)
theorem dX8_left_0 : decode cX8_left 0 = .ok (.iload_n 1, 1) := sdX8_left_0.1
theorem dX8_left_1 : decode cX8_left 1 = .ok (.invokestatic 358, 3) := sdX8_left_0.2.1
theorem dX8_left_4 : decode cX8_left 4 = .ok (.ifCond .eq 15, 3) := sdX8_left_0.2.2.1
theorem dX8_left_7 : decode cX8_left 7 = .ok (.iload_n 3, 1) := sdX8_left_0.2.2.2.1
theorem dX8_left_8 : decode cX8_left 8 = .ok (.i2l, 1) := sdX8_left_0.2.2.2.2.1
theorem dX8_left_9 : decode cX8_left 9 = .ok (.lconst 0, 1) := sdX8_left_0.2.2.2.2.2.1
theorem dX8_left_10 : decode cX8_left 10 = .ok (.ldc2_w 364, 3) := sdX8_left_0.2.2.2.2.2.2.1
theorem dX8_left_13 : decode cX8_left 13 = .ok (.invokestatic 128, 3) := sdX8_left_0.2.2.2.2.2.2.2.1
theorem sdX8_left_16 : dz_Seg cX8_left [(16, .ifCond .ne 9, 3), (19, .aload_n 0, 1), (20, .iconst 1, 1), (21, .invokevirtual 263, 3), (24, .ireturn, 1), (25, .aload_n 0, 1), (26, .iload_n 2, 1), (27, .invokevirtual 301, 3)] := dz_sg _ 16 (by decide +kernel)
theorem dX8_left_16 : decode cX8_left 16 = .ok (.ifCond .ne 9, 3) := sdX8_left_16.1
theorem dX8_left_19 : decode cX8_left 19 = .ok (.aload_n 0, 1) := sdX8_left_16.2.1
theorem dX8_left_20 : decode cX8_left 20 = .ok (.iconst 1, 1) := sdX8_left_16.2.2.1
theorem dX8_left_21 : decode cX8_left 21 = .ok (.invokevirtual 263, 3) := sdX8_left_16.2.2.2.1
theorem dX8_left_24 : decode cX8_left 24 = .ok (.ireturn, 1) := sdX8_left_16.2.2.2.2.1
theorem dX8_left_25 : decode cX8_left 25 = .ok (.aload_n 0, 1) := sdX8_left_16.2.2.2.2.2.1
theorem dX8_left_26 : decode cX8_left 26 = .ok (.iload_n 2, 1) := sdX8_left_16.2.2.2.2.2.2.1
theorem dX8_left_27 : decode cX8_left 27 = .ok (.invokevirtual 301, 3) := sdX8_left_16.2.2.2.2.2.2.2.1
theorem sdX8_left_30 : dz_Seg cX8_left [(30, .ifCond .ne 9, 3), (33, .aload_n 0, 1), (34, .iconst 2, 1), (35, .invokevirtual 263, 3), (38, .ireturn, 1), (39, .aload_n 0, 1), (40, .iload_n 1, 1), (41, .invokevirtual 361, 3)] := dz_sg _ 30 (by decide +kernel)
theorem dX8_left_30 : decode cX8_left 30 = .ok (.ifCond .ne 9, 3) := sdX8_left_30.1
theorem dX8_left_33 : decode cX8_left 33 = .ok (.aload_n 0, 1) := sdX8_left_30.2.1
theorem dX8_left_34 : decode cX8_left 34 = .ok (.iconst 2, 1) := sdX8_left_30.2.2.1
theorem dX8_left_35 : decode cX8_left 35 = .ok (.invokevirtual 263, 3) := sdX8_left_30.2.2.2.1
theorem dX8_left_38 : decode cX8_left 38 = .ok (.ireturn, 1) := sdX8_left_30.2.2.2.2.1
theorem dX8_left_39 : decode cX8_left 39 = .ok (.aload_n 0, 1) := sdX8_left_30.2.2.2.2.2.1
theorem dX8_left_40 : decode cX8_left 40 = .ok (.iload_n 1, 1) := sdX8_left_30.2.2.2.2.2.2.1
theorem dX8_left_41 : decode cX8_left 41 = .ok (.invokevirtual 361, 3) := sdX8_left_30.2.2.2.2.2.2.2.1
theorem sdX8_left_44 : dz_Seg cX8_left [(44, .iconst 0, 1), (45, .istore 4, 2), (47, .iconst (-1), 1), (48, .istore 5, 2), (50, .iconst 0, 1), (51, .istore 6, 2), (53, .iload 6, 2), (55, .aload_n 0, 1)] := dz_sg _ 44 (by decide +kernel)
theorem dX8_left_44 : decode cX8_left 44 = .ok (.iconst 0, 1) := sdX8_left_44.1
theorem dX8_left_45 : decode cX8_left 45 = .ok (.istore 4, 2) := sdX8_left_44.2.1
theorem dX8_left_47 : decode cX8_left 47 = .ok (.iconst (-1), 1) := sdX8_left_44.2.2.1
theorem dX8_left_48 : decode cX8_left 48 = .ok (.istore 5, 2) := sdX8_left_44.2.2.2.1
theorem dX8_left_50 : decode cX8_left 50 = .ok (.iconst 0, 1) := sdX8_left_44.2.2.2.2.1
theorem dX8_left_51 : decode cX8_left 51 = .ok (.istore 6, 2) := sdX8_left_44.2.2.2.2.2.1
theorem dX8_left_53 : decode cX8_left 53 = .ok (.iload 6, 2) := sdX8_left_44.2.2.2.2.2.2.1
theorem dX8_left_55 : decode cX8_left 55 = .ok (.aload_n 0, 1) := sdX8_left_44.2.2.2.2.2.2.2.1
theorem sdX8_left_56 : dz_Seg cX8_left [(56, .getfield 275, 3), (59, .if_icmp .ge 56, 3), (62, .aload_n 0, 1), (63, .getfield 73, 3), (66, .iload 6, 2), (68, .iaload, 1), (69, .iload_n 2, 1), (70, .if_icmp .eq 6, 3)] := dz_sg _ 56 (by decide +kernel)
theorem dX8_left_56 : decode cX8_left 56 = .ok (.getfield 275, 3) := sdX8_left_56.1
theorem dX8_left_59 : decode cX8_left 59 = .ok (.if_icmp .ge 56, 3) := sdX8_left_56.2.1
theorem dX8_left_62 : decode cX8_left 62 = .ok (.aload_n 0, 1) := sdX8_left_56.2.2.1
theorem dX8_left_63 : decode cX8_left 63 = .ok (.getfield 73, 3) := sdX8_left_56.2.2.2.1
theorem dX8_left_66 : decode cX8_left 66 = .ok (.iload 6, 2) := sdX8_left_56.2.2.2.2.1
theorem dX8_left_68 : decode cX8_left 68 = .ok (.iaload, 1) := sdX8_left_56.2.2.2.2.2.1
theorem dX8_left_69 : decode cX8_left 69 = .ok (.iload_n 2, 1) := sdX8_left_56.2.2.2.2.2.2.1
theorem dX8_left_70 : decode cX8_left 70 = .ok (.if_icmp .eq 6, 3) := sdX8_left_56.2.2.2.2.2.2.2.1
theorem sdX8_left_73 : dz_Seg cX8_left [(73, .goto 36, 3), (76, .iinc 4 1, 3), (79, .iload 5, 2), (81, .iconst (-1), 1), (82, .if_icmp .ne 13, 3), (85, .aload_n 0, 1), (86, .getfield 64, 3), (89, .iload 6, 2)] := dz_sg _ 73 (by decide +kernel)
theorem dX8_left_73 : decode cX8_left 73 = .ok (.goto 36, 3) := sdX8_left_73.1
theorem dX8_left_76 : decode cX8_left 76 = .ok (.iinc 4 1, 3) := sdX8_left_73.2.1
theorem dX8_left_79 : decode cX8_left 79 = .ok (.iload 5, 2) := sdX8_left_73.2.2.1
theorem dX8_left_81 : decode cX8_left 81 = .ok (.iconst (-1), 1) := sdX8_left_73.2.2.2.1
theorem dX8_left_82 : decode cX8_left 82 = .ok (.if_icmp .ne 13, 3) := sdX8_left_73.2.2.2.2.1
theorem dX8_left_85 : decode cX8_left 85 = .ok (.aload_n 0, 1) := sdX8_left_73.2.2.2.2.2.1
theorem dX8_left_86 : decode cX8_left 86 = .ok (.getfield 64, 3) := sdX8_left_73.2.2.2.2.2.2.1
theorem dX8_left_89 : decode cX8_left 89 = .ok (.iload 6, 2) := sdX8_left_73.2.2.2.2.2.2.2.1
theorem sdX8_left_91 : dz_Seg cX8_left [(91, .iaload, 1), (92, .goto 15, 3), (95, .iload 5, 2), (97, .aload_n 0, 1), (98, .getfield 64, 3), (101, .iload 6, 2), (103, .iaload, 1), (104, .invokestatic 366, 3)] := dz_sg _ 91 (by decide +kernel)
theorem dX8_left_91 : decode cX8_left 91 = .ok (.iaload, 1) := sdX8_left_91.1
theorem dX8_left_92 : decode cX8_left 92 = .ok (.goto 15, 3) := sdX8_left_91.2.1
theorem dX8_left_95 : decode cX8_left 95 = .ok (.iload 5, 2) := sdX8_left_91.2.2.1
theorem dX8_left_97 : decode cX8_left 97 = .ok (.aload_n 0, 1) := sdX8_left_91.2.2.2.1
theorem dX8_left_98 : decode cX8_left 98 = .ok (.getfield 64, 3) := sdX8_left_91.2.2.2.2.1
theorem dX8_left_101 : decode cX8_left 101 = .ok (.iload 6, 2) := sdX8_left_91.2.2.2.2.2.1
theorem dX8_left_103 : decode cX8_left 103 = .ok (.iaload, 1) := sdX8_left_91.2.2.2.2.2.2.1
theorem dX8_left_104 : decode cX8_left 104 = .ok (.invokestatic 366, 3) := sdX8_left_91.2.2.2.2.2.2.2.1
theorem sdX8_left_107 : dz_Seg cX8_left [(107, .istore 5, 2), (109, .iinc 6 1, 3), (112, .goto (-59), 3), (115, .iload_n 3, 1), (116, .iconst 3, 1), (117, .if_icmp .ne 24, 3), (120, .iload 5, 2), (122, .iconst (-1), 1)] := dz_sg _ 107 (by decide +kernel)
theorem dX8_left_107 : decode cX8_left 107 = .ok (.istore 5, 2) := sdX8_left_107.1
theorem dX8_left_109 : decode cX8_left 109 = .ok (.iinc 6 1, 3) := sdX8_left_107.2.1
theorem dX8_left_112 : decode cX8_left 112 = .ok (.goto (-59), 3) := sdX8_left_107.2.2.1
theorem dX8_left_115 : decode cX8_left 115 = .ok (.iload_n 3, 1) := sdX8_left_107.2.2.2.1
theorem dX8_left_116 : decode cX8_left 116 = .ok (.iconst 3, 1) := sdX8_left_107.2.2.2.2.1
theorem dX8_left_117 : decode cX8_left 117 = .ok (.if_icmp .ne 24, 3) := sdX8_left_107.2.2.2.2.2.1
theorem dX8_left_120 : decode cX8_left 120 = .ok (.iload 5, 2) := sdX8_left_107.2.2.2.2.2.2.1
theorem dX8_left_122 : decode cX8_left 122 = .ok (.iconst (-1), 1) := sdX8_left_107.2.2.2.2.2.2.2.1
theorem sdX8_left_123 : dz_Seg cX8_left [(123, .if_icmp .ne 11, 3), (126, .aload_n 0, 1), (127, .iconst 5, 1), (128, .invokevirtual 263, 3), (131, .goto 9, 3), (134, .aload_n 0, 1), (135, .iload 5, 2), (137, .invokevirtual 272, 3)] := dz_sg _ 123 (by decide +kernel)
theorem dX8_left_123 : decode cX8_left 123 = .ok (.if_icmp .ne 11, 3) := sdX8_left_123.1
theorem dX8_left_126 : decode cX8_left 126 = .ok (.aload_n 0, 1) := sdX8_left_123.2.1
theorem dX8_left_127 : decode cX8_left 127 = .ok (.iconst 5, 1) := sdX8_left_123.2.2.1
theorem dX8_left_128 : decode cX8_left 128 = .ok (.invokevirtual 263, 3) := sdX8_left_123.2.2.2.1
theorem dX8_left_131 : decode cX8_left 131 = .ok (.goto 9, 3) := sdX8_left_123.2.2.2.2.1
theorem dX8_left_134 : decode cX8_left 134 = .ok (.aload_n 0, 1) := sdX8_left_123.2.2.2.2.2.1
theorem dX8_left_135 : decode cX8_left 135 = .ok (.iload 5, 2) := sdX8_left_123.2.2.2.2.2.2.1
theorem dX8_left_137 : decode cX8_left 137 = .ok (.invokevirtual 272, 3) := sdX8_left_123.2.2.2.2.2.2.2.1
theorem sdX8_left_140 : dz_Seg cX8_left [(140, .ireturn, 1), (141, .aload_n 0, 1), (142, .iload_n 3, 1), (143, .ifCond .ne 12, 3), (146, .aload_n 0, 1), (147, .getfield 79, 3), (150, .iload_n 2, 1), (151, .iaload, 1)] := dz_sg _ 140 (by decide +kernel)
theorem dX8_left_140 : decode cX8_left 140 = .ok (.ireturn, 1) := sdX8_left_140.1
theorem dX8_left_141 : decode cX8_left 141 = .ok (.aload_n 0, 1) := sdX8_left_140.2.1
theorem dX8_left_142 : decode cX8_left 142 = .ok (.iload_n 3, 1) := sdX8_left_140.2.2.1
theorem dX8_left_143 : decode cX8_left 143 = .ok (.ifCond .ne 12, 3) := sdX8_left_140.2.2.2.1
theorem dX8_left_146 : decode cX8_left 146 = .ok (.aload_n 0, 1) := sdX8_left_140.2.2.2.2.1
theorem dX8_left_147 : decode cX8_left 147 = .ok (.getfield 79, 3) := sdX8_left_140.2.2.2.2.2.1
theorem dX8_left_150 : decode cX8_left 150 = .ok (.iload_n 2, 1) := sdX8_left_140.2.2.2.2.2.2.1
theorem dX8_left_151 : decode cX8_left 151 = .ok (.iaload, 1) := sdX8_left_140.2.2.2.2.2.2.2.1
theorem sdX8_left_152 : dz_Seg cX8_left [(152, .goto 19, 3), (155, .iload_n 3, 1), (156, .iconst 1, 1), (157, .if_icmp .ne 12, 3), (160, .aload_n 0, 1), (161, .getfield 82, 3), (164, .iload_n 2, 1), (165, .iaload, 1)] := dz_sg _ 152 (by decide +kernel)
theorem dX8_left_152 : decode cX8_left 152 = .ok (.goto 19, 3) := sdX8_left_152.1
theorem dX8_left_155 : decode cX8_left 155 = .ok (.iload_n 3, 1) := sdX8_left_152.2.1
theorem dX8_left_156 : decode cX8_left 156 = .ok (.iconst 1, 1) := sdX8_left_152.2.2.1
theorem dX8_left_157 : decode cX8_left 157 = .ok (.if_icmp .ne 12, 3) := sdX8_left_152.2.2.2.1
theorem dX8_left_160 : decode cX8_left 160 = .ok (.aload_n 0, 1) := sdX8_left_152.2.2.2.2.1
theorem dX8_left_161 : decode cX8_left 161 = .ok (.getfield 82, 3) := sdX8_left_152.2.2.2.2.2.1
theorem dX8_left_164 : decode cX8_left 164 = .ok (.iload_n 2, 1) := sdX8_left_152.2.2.2.2.2.2.1
theorem dX8_left_165 : decode cX8_left 165 = .ok (.iaload, 1) := sdX8_left_152.2.2.2.2.2.2.2.1
theorem sdX8_left_166 : dz_Seg cX8_left [(166, .goto 5, 3), (169, .iload 4, 2), (171, .invokevirtual 272, 3), (174, .ireturn, 1)] := dz_sg _ 166 (by decide +kernel)
theorem dX8_left_166 : decode cX8_left 166 = .ok (.goto 5, 3) := sdX8_left_166.1
theorem dX8_left_169 : decode cX8_left 169 = .ok (.iload 4, 2) := sdX8_left_166.2.1
theorem dX8_left_171 : decode cX8_left 171 = .ok (.invokevirtual 272, 3) := sdX8_left_166.2.2.1
theorem dX8_left_174 : decode cX8_left 174 = .ok (.ireturn, 1) := sdX8_left_166.2.2.2.1
theorem sdX8_winnersNow_0 : dz_Seg cX8_winnersNow [(0, .iconst 0, 1), (1, .istore_n 1, 1), (2, .iconst 0, 1), (3, .istore_n 2, 1), (4, .iload_n 2, 1), (5, .aload_n 0, 1), (6, .getfield 275, 3), (9, .if_icmp .ge 32, 3)] := dz_sg _ 0 (by decide +kernel)
theorem dX8_winnersNow_0 : decode cX8_winnersNow 0 = .ok (.iconst 0, 1) := sdX8_winnersNow_0.1
theorem dX8_winnersNow_1 : decode cX8_winnersNow 1 = .ok (.istore_n 1, 1) := sdX8_winnersNow_0.2.1
theorem dX8_winnersNow_2 : decode cX8_winnersNow 2 = .ok (.iconst 0, 1) := sdX8_winnersNow_0.2.2.1
theorem dX8_winnersNow_3 : decode cX8_winnersNow 3 = .ok (.istore_n 2, 1) := sdX8_winnersNow_0.2.2.2.1
theorem dX8_winnersNow_4 : decode cX8_winnersNow 4 = .ok (.iload_n 2, 1) := sdX8_winnersNow_0.2.2.2.2.1
theorem dX8_winnersNow_5 : decode cX8_winnersNow 5 = .ok (.aload_n 0, 1) := sdX8_winnersNow_0.2.2.2.2.2.1
theorem dX8_winnersNow_6 : decode cX8_winnersNow 6 = .ok (.getfield 275, 3) := sdX8_winnersNow_0.2.2.2.2.2.2.1
theorem dX8_winnersNow_9 : decode cX8_winnersNow 9 = .ok (.if_icmp .ge 32, 3) := sdX8_winnersNow_0.2.2.2.2.2.2.2.1
theorem sdX8_winnersNow_12 : dz_Seg cX8_winnersNow [(12, .iload_n 1, 1), (13, .aload_n 0, 1), (14, .getfield 73, 3), (17, .iload_n 2, 1), (18, .iaload, 1), (19, .iconst (-1), 1), (20, .if_icmp .ne 7, 3), (23, .iconst 0, 1)] := dz_sg _ 12 (by decide +kernel)
theorem dX8_winnersNow_12 : decode cX8_winnersNow 12 = .ok (.iload_n 1, 1) := sdX8_winnersNow_12.1
theorem dX8_winnersNow_13 : decode cX8_winnersNow 13 = .ok (.aload_n 0, 1) := sdX8_winnersNow_12.2.1
theorem dX8_winnersNow_14 : decode cX8_winnersNow 14 = .ok (.getfield 73, 3) := sdX8_winnersNow_12.2.2.1
theorem dX8_winnersNow_17 : decode cX8_winnersNow 17 = .ok (.iload_n 2, 1) := sdX8_winnersNow_12.2.2.2.1
theorem dX8_winnersNow_18 : decode cX8_winnersNow 18 = .ok (.iaload, 1) := sdX8_winnersNow_12.2.2.2.2.1
theorem dX8_winnersNow_19 : decode cX8_winnersNow 19 = .ok (.iconst (-1), 1) := sdX8_winnersNow_12.2.2.2.2.2.1
theorem dX8_winnersNow_20 : decode cX8_winnersNow 20 = .ok (.if_icmp .ne 7, 3) := sdX8_winnersNow_12.2.2.2.2.2.2.1
theorem dX8_winnersNow_23 : decode cX8_winnersNow 23 = .ok (.iconst 0, 1) := sdX8_winnersNow_12.2.2.2.2.2.2.2.1
theorem sdX8_winnersNow_24 : dz_Seg cX8_winnersNow [(24, .goto 9, 3), (27, .aload_n 0, 1), (28, .getfield 49, 3), (31, .iload_n 2, 1), (32, .iaload, 1), (33, .ior, 1), (34, .istore_n 1, 1), (35, .iinc 2 1, 3)] := dz_sg _ 24 (by decide +kernel)
theorem dX8_winnersNow_24 : decode cX8_winnersNow 24 = .ok (.goto 9, 3) := sdX8_winnersNow_24.1
theorem dX8_winnersNow_27 : decode cX8_winnersNow 27 = .ok (.aload_n 0, 1) := sdX8_winnersNow_24.2.1
theorem dX8_winnersNow_28 : decode cX8_winnersNow 28 = .ok (.getfield 49, 3) := sdX8_winnersNow_24.2.2.1
theorem dX8_winnersNow_31 : decode cX8_winnersNow 31 = .ok (.iload_n 2, 1) := sdX8_winnersNow_24.2.2.2.1
theorem dX8_winnersNow_32 : decode cX8_winnersNow 32 = .ok (.iaload, 1) := sdX8_winnersNow_24.2.2.2.2.1
theorem dX8_winnersNow_33 : decode cX8_winnersNow 33 = .ok (.ior, 1) := sdX8_winnersNow_24.2.2.2.2.2.1
theorem dX8_winnersNow_34 : decode cX8_winnersNow 34 = .ok (.istore_n 1, 1) := sdX8_winnersNow_24.2.2.2.2.2.2.1
theorem dX8_winnersNow_35 : decode cX8_winnersNow 35 = .ok (.iinc 2 1, 3) := sdX8_winnersNow_24.2.2.2.2.2.2.2.1
theorem sdX8_winnersNow_38 : dz_Seg cX8_winnersNow [(38, .goto (-34), 3), (41, .iload_n 1, 1), (42, .ireturn, 1)] := dz_sg _ 38 (by decide +kernel)
theorem dX8_winnersNow_38 : decode cX8_winnersNow 38 = .ok (.goto (-34), 3) := sdX8_winnersNow_38.1
theorem dX8_winnersNow_41 : decode cX8_winnersNow 41 = .ok (.iload_n 1, 1) := sdX8_winnersNow_38.2.1
theorem dX8_winnersNow_42 : decode cX8_winnersNow 42 = .ok (.ireturn, 1) := sdX8_winnersNow_38.2.2.1
theorem sdX8_winners_0 : dz_Seg cX8_winners [(0, .iload_n 1, 1), (1, .invokestatic 358, 3), (4, .ifCond .ne 9, 3), (7, .aload_n 0, 1), (8, .iconst 1, 1), (9, .invokevirtual 263, 3), (12, .ireturn, 1), (13, .aload_n 0, 1)] := dz_sg _ 0 (by decide +kernel)
theorem dX8_winners_0 : decode cX8_winners 0 = .ok (.iload_n 1, 1) := sdX8_winners_0.1
theorem dX8_winners_1 : decode cX8_winners 1 = .ok (.invokestatic 358, 3) := sdX8_winners_0.2.1
theorem dX8_winners_4 : decode cX8_winners 4 = .ok (.ifCond .ne 9, 3) := sdX8_winners_0.2.2.1
theorem dX8_winners_7 : decode cX8_winners 7 = .ok (.aload_n 0, 1) := sdX8_winners_0.2.2.2.1
theorem dX8_winners_8 : decode cX8_winners 8 = .ok (.iconst 1, 1) := sdX8_winners_0.2.2.2.2.1
theorem dX8_winners_9 : decode cX8_winners 9 = .ok (.invokevirtual 263, 3) := sdX8_winners_0.2.2.2.2.2.1
theorem dX8_winners_12 : decode cX8_winners 12 = .ok (.ireturn, 1) := sdX8_winners_0.2.2.2.2.2.2.1
theorem dX8_winners_13 : decode cX8_winners 13 = .ok (.aload_n 0, 1) := sdX8_winners_0.2.2.2.2.2.2.2.1
theorem sdX8_winners_14 : dz_Seg cX8_winners [(14, .iload_n 1, 1), (15, .invokevirtual 361, 3), (18, .aload_n 0, 1), (19, .aload_n 0, 1), (20, .invokevirtual 371, 3), (23, .invokevirtual 272, 3), (26, .ireturn, 1)] := dz_sg _ 14 (by decide +kernel)
theorem dX8_winners_14 : decode cX8_winners 14 = .ok (.iload_n 1, 1) := sdX8_winners_14.1
theorem dX8_winners_15 : decode cX8_winners 15 = .ok (.invokevirtual 361, 3) := sdX8_winners_14.2.1
theorem dX8_winners_18 : decode cX8_winners 18 = .ok (.aload_n 0, 1) := sdX8_winners_14.2.2.1
theorem dX8_winners_19 : decode cX8_winners 19 = .ok (.aload_n 0, 1) := sdX8_winners_14.2.2.2.1
theorem dX8_winners_20 : decode cX8_winners 20 = .ok (.invokevirtual 371, 3) := sdX8_winners_14.2.2.2.2.1
theorem dX8_winners_23 : decode cX8_winners 23 = .ok (.invokevirtual 272, 3) := sdX8_winners_14.2.2.2.2.2.1
theorem dX8_winners_26 : decode cX8_winners 26 = .ok (.ireturn, 1) := sdX8_winners_14.2.2.2.2.2.2.1
theorem sdX8_isWaiting_0 : dz_Seg cX8_isWaiting [(0, .aload_n 0, 1), (1, .getfield 73, 3), (4, .iload_n 1, 1), (5, .iaload, 1), (6, .iconst (-1), 1), (7, .if_icmp .ne 17, 3), (10, .aload_n 0, 1), (11, .iload_n 1, 1)] := dz_sg _ 0 (by decide +kernel)
theorem dX8_isWaiting_0 : decode cX8_isWaiting 0 = .ok (.aload_n 0, 1) := sdX8_isWaiting_0.1
theorem dX8_isWaiting_1 : decode cX8_isWaiting 1 = .ok (.getfield 73, 3) := sdX8_isWaiting_0.2.1
theorem dX8_isWaiting_4 : decode cX8_isWaiting 4 = .ok (.iload_n 1, 1) := sdX8_isWaiting_0.2.2.1
theorem dX8_isWaiting_5 : decode cX8_isWaiting 5 = .ok (.iaload, 1) := sdX8_isWaiting_0.2.2.2.1
theorem dX8_isWaiting_6 : decode cX8_isWaiting 6 = .ok (.iconst (-1), 1) := sdX8_isWaiting_0.2.2.2.2.1
theorem dX8_isWaiting_7 : decode cX8_isWaiting 7 = .ok (.if_icmp .ne 17, 3) := sdX8_isWaiting_0.2.2.2.2.2.1
theorem dX8_isWaiting_10 : decode cX8_isWaiting 10 = .ok (.aload_n 0, 1) := sdX8_isWaiting_0.2.2.2.2.2.2.1
theorem dX8_isWaiting_11 : decode cX8_isWaiting 11 = .ok (.iload_n 1, 1) := sdX8_isWaiting_0.2.2.2.2.2.2.2.1
theorem sdX8_isWaiting_12 : dz_Seg cX8_isWaiting [(12, .iload_n 2, 1), (13, .invokevirtual 310, 3), (16, .iconst (-1), 1), (17, .if_icmp .eq 7, 3), (20, .iconst 1, 1), (21, .goto 4, 3), (24, .iconst 0, 1), (25, .ireturn, 1)] := dz_sg _ 12 (by decide +kernel)
theorem dX8_isWaiting_12 : decode cX8_isWaiting 12 = .ok (.iload_n 2, 1) := sdX8_isWaiting_12.1
theorem dX8_isWaiting_13 : decode cX8_isWaiting 13 = .ok (.invokevirtual 310, 3) := sdX8_isWaiting_12.2.1
theorem dX8_isWaiting_16 : decode cX8_isWaiting 16 = .ok (.iconst (-1), 1) := sdX8_isWaiting_12.2.2.1
theorem dX8_isWaiting_17 : decode cX8_isWaiting 17 = .ok (.if_icmp .eq 7, 3) := sdX8_isWaiting_12.2.2.2.1
theorem dX8_isWaiting_20 : decode cX8_isWaiting 20 = .ok (.iconst 1, 1) := sdX8_isWaiting_12.2.2.2.2.1
theorem dX8_isWaiting_21 : decode cX8_isWaiting 21 = .ok (.goto 4, 3) := sdX8_isWaiting_12.2.2.2.2.2.1
theorem dX8_isWaiting_24 : decode cX8_isWaiting 24 = .ok (.iconst 0, 1) := sdX8_isWaiting_12.2.2.2.2.2.2.1
theorem dX8_isWaiting_25 : decode cX8_isWaiting 25 = .ok (.ireturn, 1) := sdX8_isWaiting_12.2.2.2.2.2.2.2.1
theorem sdX8_waits_0 : dz_Seg cX8_waits [(0, .iload_n 1, 1), (1, .invokestatic 358, 3), (4, .ifCond .eq 8, 3), (7, .iload_n 3, 1), (8, .iconst (-1), 1), (9, .if_icmp .ge 9, 3), (12, .aload_n 0, 1), (13, .iconst 1, 1)] := dz_sg _ 0 (by decide +kernel)
theorem dX8_waits_0 : decode cX8_waits 0 = .ok (.iload_n 1, 1) := sdX8_waits_0.1
theorem dX8_waits_1 : decode cX8_waits 1 = .ok (.invokestatic 358, 3) := sdX8_waits_0.2.1
theorem dX8_waits_4 : decode cX8_waits 4 = .ok (.ifCond .eq 8, 3) := sdX8_waits_0.2.2.1
theorem dX8_waits_7 : decode cX8_waits 7 = .ok (.iload_n 3, 1) := sdX8_waits_0.2.2.2.1
theorem dX8_waits_8 : decode cX8_waits 8 = .ok (.iconst (-1), 1) := sdX8_waits_0.2.2.2.2.1
theorem dX8_waits_9 : decode cX8_waits 9 = .ok (.if_icmp .ge 9, 3) := sdX8_waits_0.2.2.2.2.2.1
theorem dX8_waits_12 : decode cX8_waits 12 = .ok (.aload_n 0, 1) := sdX8_waits_0.2.2.2.2.2.2.1
theorem dX8_waits_13 : decode cX8_waits 13 = .ok (.iconst 1, 1) := sdX8_waits_0.2.2.2.2.2.2.2.1
theorem sdX8_waits_14 : dz_Seg cX8_waits [(14, .invokevirtual 263, 3), (17, .ireturn, 1), (18, .aload_n 0, 1), (19, .iload_n 2, 1), (20, .invokevirtual 301, 3), (23, .ifCond .ne 9, 3), (26, .aload_n 0, 1), (27, .iconst 2, 1)] := dz_sg _ 14 (by decide +kernel)
theorem dX8_waits_14 : decode cX8_waits 14 = .ok (.invokevirtual 263, 3) := sdX8_waits_14.1
theorem dX8_waits_17 : decode cX8_waits 17 = .ok (.ireturn, 1) := sdX8_waits_14.2.1
theorem dX8_waits_18 : decode cX8_waits 18 = .ok (.aload_n 0, 1) := sdX8_waits_14.2.2.1
theorem dX8_waits_19 : decode cX8_waits 19 = .ok (.iload_n 2, 1) := sdX8_waits_14.2.2.2.1
theorem dX8_waits_20 : decode cX8_waits 20 = .ok (.invokevirtual 301, 3) := sdX8_waits_14.2.2.2.2.1
theorem dX8_waits_23 : decode cX8_waits 23 = .ok (.ifCond .ne 9, 3) := sdX8_waits_14.2.2.2.2.2.1
theorem dX8_waits_26 : decode cX8_waits 26 = .ok (.aload_n 0, 1) := sdX8_waits_14.2.2.2.2.2.2.1
theorem dX8_waits_27 : decode cX8_waits 27 = .ok (.iconst 2, 1) := sdX8_waits_14.2.2.2.2.2.2.2.1
theorem sdX8_waits_28 : dz_Seg cX8_waits [(28, .invokevirtual 263, 3), (31, .ireturn, 1), (32, .aload_n 0, 1), (33, .iload_n 1, 1), (34, .invokevirtual 361, 3), (37, .iconst 0, 1), (38, .istore 4, 2), (40, .iconst 0, 1)] := dz_sg _ 28 (by decide +kernel)
theorem dX8_waits_28 : decode cX8_waits 28 = .ok (.invokevirtual 263, 3) := sdX8_waits_28.1
theorem dX8_waits_31 : decode cX8_waits 31 = .ok (.ireturn, 1) := sdX8_waits_28.2.1
theorem dX8_waits_32 : decode cX8_waits 32 = .ok (.aload_n 0, 1) := sdX8_waits_28.2.2.1
theorem dX8_waits_33 : decode cX8_waits 33 = .ok (.iload_n 1, 1) := sdX8_waits_28.2.2.2.1
theorem dX8_waits_34 : decode cX8_waits 34 = .ok (.invokevirtual 361, 3) := sdX8_waits_28.2.2.2.2.1
theorem dX8_waits_37 : decode cX8_waits 37 = .ok (.iconst 0, 1) := sdX8_waits_28.2.2.2.2.2.1
theorem dX8_waits_38 : decode cX8_waits 38 = .ok (.istore 4, 2) := sdX8_waits_28.2.2.2.2.2.2.1
theorem dX8_waits_40 : decode cX8_waits 40 = .ok (.iconst 0, 1) := sdX8_waits_28.2.2.2.2.2.2.2.1
theorem sdX8_waits_41 : dz_Seg cX8_waits [(41, .istore 5, 2), (43, .iload 5, 2), (45, .aload_n 0, 1), (46, .getfield 275, 3), (49, .if_icmp .ge 48, 3), (52, .aload_n 0, 1), (53, .aload_n 0, 1), (54, .getfield 70, 3)] := dz_sg _ 41 (by decide +kernel)
theorem dX8_waits_41 : decode cX8_waits 41 = .ok (.istore 5, 2) := sdX8_waits_41.1
theorem dX8_waits_43 : decode cX8_waits 43 = .ok (.iload 5, 2) := sdX8_waits_41.2.1
theorem dX8_waits_45 : decode cX8_waits 45 = .ok (.aload_n 0, 1) := sdX8_waits_41.2.2.1
theorem dX8_waits_46 : decode cX8_waits 46 = .ok (.getfield 275, 3) := sdX8_waits_41.2.2.2.1
theorem dX8_waits_49 : decode cX8_waits 49 = .ok (.if_icmp .ge 48, 3) := sdX8_waits_41.2.2.2.2.1
theorem dX8_waits_52 : decode cX8_waits 52 = .ok (.aload_n 0, 1) := sdX8_waits_41.2.2.2.2.2.1
theorem dX8_waits_53 : decode cX8_waits 53 = .ok (.aload_n 0, 1) := sdX8_waits_41.2.2.2.2.2.2.1
theorem dX8_waits_54 : decode cX8_waits 54 = .ok (.getfield 70, 3) := sdX8_waits_41.2.2.2.2.2.2.2.1
theorem sdX8_waits_57 : dz_Seg cX8_waits [(57, .iload 5, 2), (59, .iaload, 1), (60, .iload_n 2, 1), (61, .invokevirtual 374, 3), (64, .ifCond .ne 6, 3), (67, .goto 24, 3), (70, .iload 4, 2), (72, .iload_n 3, 1)] := dz_sg _ 57 (by decide +kernel)
theorem dX8_waits_57 : decode cX8_waits 57 = .ok (.iload 5, 2) := sdX8_waits_57.1
theorem dX8_waits_59 : decode cX8_waits 59 = .ok (.iaload, 1) := sdX8_waits_57.2.1
theorem dX8_waits_60 : decode cX8_waits 60 = .ok (.iload_n 2, 1) := sdX8_waits_57.2.2.1
theorem dX8_waits_61 : decode cX8_waits 61 = .ok (.invokevirtual 374, 3) := sdX8_waits_57.2.2.2.1
theorem dX8_waits_64 : decode cX8_waits 64 = .ok (.ifCond .ne 6, 3) := sdX8_waits_57.2.2.2.2.1
theorem dX8_waits_67 : decode cX8_waits 67 = .ok (.goto 24, 3) := sdX8_waits_57.2.2.2.2.2.1
theorem dX8_waits_70 : decode cX8_waits 70 = .ok (.iload 4, 2) := sdX8_waits_57.2.2.2.2.2.2.1
theorem dX8_waits_72 : decode cX8_waits 72 = .ok (.iload_n 3, 1) := sdX8_waits_57.2.2.2.2.2.2.2.1
theorem sdX8_waits_73 : dz_Seg cX8_waits [(73, .if_icmp .ne 15, 3), (76, .aload_n 0, 1), (77, .aload_n 0, 1), (78, .getfield 70, 3), (81, .iload 5, 2), (83, .iaload, 1), (84, .invokevirtual 272, 3), (87, .ireturn, 1)] := dz_sg _ 73 (by decide +kernel)
theorem dX8_waits_73 : decode cX8_waits 73 = .ok (.if_icmp .ne 15, 3) := sdX8_waits_73.1
theorem dX8_waits_76 : decode cX8_waits 76 = .ok (.aload_n 0, 1) := sdX8_waits_73.2.1
theorem dX8_waits_77 : decode cX8_waits 77 = .ok (.aload_n 0, 1) := sdX8_waits_73.2.2.1
theorem dX8_waits_78 : decode cX8_waits 78 = .ok (.getfield 70, 3) := sdX8_waits_73.2.2.2.1
theorem dX8_waits_81 : decode cX8_waits 81 = .ok (.iload 5, 2) := sdX8_waits_73.2.2.2.2.1
theorem dX8_waits_83 : decode cX8_waits 83 = .ok (.iaload, 1) := sdX8_waits_73.2.2.2.2.2.1
theorem dX8_waits_84 : decode cX8_waits 84 = .ok (.invokevirtual 272, 3) := sdX8_waits_73.2.2.2.2.2.2.1
theorem dX8_waits_87 : decode cX8_waits 87 = .ok (.ireturn, 1) := sdX8_waits_73.2.2.2.2.2.2.2.1
theorem sdX8_waits_88 : dz_Seg cX8_waits [(88, .iinc 4 1, 3), (91, .iinc 5 1, 3), (94, .goto (-51), 3), (97, .iload_n 3, 1), (98, .iconst (-1), 1), (99, .if_icmp .ne 12, 3), (102, .aload_n 0, 1), (103, .iload 4, 2)] := dz_sg _ 88 (by decide +kernel)
theorem dX8_waits_88 : decode cX8_waits 88 = .ok (.iinc 4 1, 3) := sdX8_waits_88.1
theorem dX8_waits_91 : decode cX8_waits 91 = .ok (.iinc 5 1, 3) := sdX8_waits_88.2.1
theorem dX8_waits_94 : decode cX8_waits 94 = .ok (.goto (-51), 3) := sdX8_waits_88.2.2.1
theorem dX8_waits_97 : decode cX8_waits 97 = .ok (.iload_n 3, 1) := sdX8_waits_88.2.2.2.1
theorem dX8_waits_98 : decode cX8_waits 98 = .ok (.iconst (-1), 1) := sdX8_waits_88.2.2.2.2.1
theorem dX8_waits_99 : decode cX8_waits 99 = .ok (.if_icmp .ne 12, 3) := sdX8_waits_88.2.2.2.2.2.1
theorem dX8_waits_102 : decode cX8_waits 102 = .ok (.aload_n 0, 1) := sdX8_waits_88.2.2.2.2.2.2.1
theorem dX8_waits_103 : decode cX8_waits 103 = .ok (.iload 4, 2) := sdX8_waits_88.2.2.2.2.2.2.2.1
theorem sdX8_waits_105 : dz_Seg cX8_waits [(105, .invokevirtual 272, 3), (108, .goto 8, 3), (111, .aload_n 0, 1), (112, .iconst 5, 1), (113, .invokevirtual 263, 3), (116, .ireturn, 1)] := dz_sg _ 105 (by decide +kernel)
theorem dX8_waits_105 : decode cX8_waits 105 = .ok (.invokevirtual 272, 3) := sdX8_waits_105.1
theorem dX8_waits_108 : decode cX8_waits 108 = .ok (.goto 8, 3) := sdX8_waits_105.2.1
theorem dX8_waits_111 : decode cX8_waits 111 = .ok (.aload_n 0, 1) := sdX8_waits_105.2.2.1
theorem dX8_waits_112 : decode cX8_waits 112 = .ok (.iconst 5, 1) := sdX8_waits_105.2.2.2.1
theorem dX8_waits_113 : decode cX8_waits 113 = .ok (.invokevirtual 263, 3) := sdX8_waits_105.2.2.2.2.1
theorem dX8_waits_116 : decode cX8_waits 116 = .ok (.ireturn, 1) := sdX8_waits_105.2.2.2.2.2.1
theorem sdX8_next__0 : dz_Seg cX8_next_ [(0, .iload_n 1, 1), (1, .invokestatic 358, 3), (4, .ifCond .eq 15, 3), (7, .iload_n 3, 1), (8, .i2l, 1), (9, .lconst 0, 1), (10, .ldc2_w 377, 3), (13, .invokestatic 128, 3)] := dz_sg _ 0 (by decide +kernel)
theorem dX8_next__0 : decode cX8_next_ 0 = .ok (.iload_n 1, 1) := sdX8_next__0.1
theorem dX8_next__1 : decode cX8_next_ 1 = .ok (.invokestatic 358, 3) := sdX8_next__0.2.1
theorem dX8_next__4 : decode cX8_next_ 4 = .ok (.ifCond .eq 15, 3) := sdX8_next__0.2.2.1
theorem dX8_next__7 : decode cX8_next_ 7 = .ok (.iload_n 3, 1) := sdX8_next__0.2.2.2.1
theorem dX8_next__8 : decode cX8_next_ 8 = .ok (.i2l, 1) := sdX8_next__0.2.2.2.2.1
theorem dX8_next__9 : decode cX8_next_ 9 = .ok (.lconst 0, 1) := sdX8_next__0.2.2.2.2.2.1
theorem dX8_next__10 : decode cX8_next_ 10 = .ok (.ldc2_w 377, 3) := sdX8_next__0.2.2.2.2.2.2.1
theorem dX8_next__13 : decode cX8_next_ 13 = .ok (.invokestatic 128, 3) := sdX8_next__0.2.2.2.2.2.2.2.1
theorem sdX8_next__16 : dz_Seg cX8_next_ [(16, .ifCond .ne 9, 3), (19, .aload_n 0, 1), (20, .iconst 1, 1), (21, .invokevirtual 263, 3), (24, .ireturn, 1), (25, .aload_n 0, 1), (26, .iload_n 2, 1), (27, .invokevirtual 301, 3)] := dz_sg _ 16 (by decide +kernel)
theorem dX8_next__16 : decode cX8_next_ 16 = .ok (.ifCond .ne 9, 3) := sdX8_next__16.1
theorem dX8_next__19 : decode cX8_next_ 19 = .ok (.aload_n 0, 1) := sdX8_next__16.2.1
theorem dX8_next__20 : decode cX8_next_ 20 = .ok (.iconst 1, 1) := sdX8_next__16.2.2.1
theorem dX8_next__21 : decode cX8_next_ 21 = .ok (.invokevirtual 263, 3) := sdX8_next__16.2.2.2.1
theorem dX8_next__24 : decode cX8_next_ 24 = .ok (.ireturn, 1) := sdX8_next__16.2.2.2.2.1
theorem dX8_next__25 : decode cX8_next_ 25 = .ok (.aload_n 0, 1) := sdX8_next__16.2.2.2.2.2.1
theorem dX8_next__26 : decode cX8_next_ 26 = .ok (.iload_n 2, 1) := sdX8_next__16.2.2.2.2.2.2.1
theorem dX8_next__27 : decode cX8_next_ 27 = .ok (.invokevirtual 301, 3) := sdX8_next__16.2.2.2.2.2.2.2.1
theorem sdX8_next__30 : dz_Seg cX8_next_ [(30, .ifCond .ne 9, 3), (33, .aload_n 0, 1), (34, .iconst 2, 1), (35, .invokevirtual 263, 3), (38, .ireturn, 1), (39, .aload_n 0, 1), (40, .iload_n 1, 1), (41, .invokevirtual 361, 3)] := dz_sg _ 30 (by decide +kernel)
theorem dX8_next__30 : decode cX8_next_ 30 = .ok (.ifCond .ne 9, 3) := sdX8_next__30.1
theorem dX8_next__33 : decode cX8_next_ 33 = .ok (.aload_n 0, 1) := sdX8_next__30.2.1
theorem dX8_next__34 : decode cX8_next_ 34 = .ok (.iconst 2, 1) := sdX8_next__30.2.2.1
theorem dX8_next__35 : decode cX8_next_ 35 = .ok (.invokevirtual 263, 3) := sdX8_next__30.2.2.2.1
theorem dX8_next__38 : decode cX8_next_ 38 = .ok (.ireturn, 1) := sdX8_next__30.2.2.2.2.1
theorem dX8_next__39 : decode cX8_next_ 39 = .ok (.aload_n 0, 1) := sdX8_next__30.2.2.2.2.2.1
theorem dX8_next__40 : decode cX8_next_ 40 = .ok (.iload_n 1, 1) := sdX8_next__30.2.2.2.2.2.2.1
theorem dX8_next__41 : decode cX8_next_ 41 = .ok (.invokevirtual 361, 3) := sdX8_next__30.2.2.2.2.2.2.2.1
theorem sdX8_next__44 : dz_Seg cX8_next_ [(44, .aload_n 0, 1), (45, .getfield 82, 3), (48, .iload_n 2, 1), (49, .dup2, 1), (50, .iaload, 1), (51, .iload_n 3, 1), (52, .iadd, 1), (53, .iastore, 1)] := dz_sg _ 44 (by decide +kernel)
theorem dX8_next__44 : decode cX8_next_ 44 = .ok (.aload_n 0, 1) := sdX8_next__44.1
theorem dX8_next__45 : decode cX8_next_ 45 = .ok (.getfield 82, 3) := sdX8_next__44.2.1
theorem dX8_next__48 : decode cX8_next_ 48 = .ok (.iload_n 2, 1) := sdX8_next__44.2.2.1
theorem dX8_next__49 : decode cX8_next_ 49 = .ok (.dup2, 1) := sdX8_next__44.2.2.2.1
theorem dX8_next__50 : decode cX8_next_ 50 = .ok (.iaload, 1) := sdX8_next__44.2.2.2.2.1
theorem dX8_next__51 : decode cX8_next_ 51 = .ok (.iload_n 3, 1) := sdX8_next__44.2.2.2.2.2.1
theorem dX8_next__52 : decode cX8_next_ 52 = .ok (.iadd, 1) := sdX8_next__44.2.2.2.2.2.2.1
theorem dX8_next__53 : decode cX8_next_ 53 = .ok (.iastore, 1) := sdX8_next__44.2.2.2.2.2.2.2.1
theorem sdX8_next__54 : dz_Seg cX8_next_ [(54, .iconst 0, 1), (55, .istore 4, 2), (57, .iload 4, 2), (59, .aload_n 0, 1), (60, .getfield 275, 3), (63, .if_icmp .ge 59, 3), (66, .aload_n 0, 1), (67, .aload_n 0, 1)] := dz_sg _ 54 (by decide +kernel)
theorem dX8_next__54 : decode cX8_next_ 54 = .ok (.iconst 0, 1) := sdX8_next__54.1
theorem dX8_next__55 : decode cX8_next_ 55 = .ok (.istore 4, 2) := sdX8_next__54.2.1
theorem dX8_next__57 : decode cX8_next_ 57 = .ok (.iload 4, 2) := sdX8_next__54.2.2.1
theorem dX8_next__59 : decode cX8_next_ 59 = .ok (.aload_n 0, 1) := sdX8_next__54.2.2.2.1
theorem dX8_next__60 : decode cX8_next_ 60 = .ok (.getfield 275, 3) := sdX8_next__54.2.2.2.2.1
theorem dX8_next__63 : decode cX8_next_ 63 = .ok (.if_icmp .ge 59, 3) := sdX8_next__54.2.2.2.2.2.1
theorem dX8_next__66 : decode cX8_next_ 66 = .ok (.aload_n 0, 1) := sdX8_next__54.2.2.2.2.2.2.1
theorem dX8_next__67 : decode cX8_next_ 67 = .ok (.aload_n 0, 1) := sdX8_next__54.2.2.2.2.2.2.2.1
theorem sdX8_next__68 : dz_Seg cX8_next_ [(68, .getfield 70, 3), (71, .iload 4, 2), (73, .iaload, 1), (74, .iload_n 2, 1), (75, .invokevirtual 374, 3), (78, .ifCond .eq 38, 3), (81, .aload_n 0, 1), (82, .aload_n 0, 1)] := dz_sg _ 68 (by decide +kernel)
theorem dX8_next__68 : decode cX8_next_ 68 = .ok (.getfield 70, 3) := sdX8_next__68.1
theorem dX8_next__71 : decode cX8_next_ 71 = .ok (.iload 4, 2) := sdX8_next__68.2.1
theorem dX8_next__73 : decode cX8_next_ 73 = .ok (.iaload, 1) := sdX8_next__68.2.2.1
theorem dX8_next__74 : decode cX8_next_ 74 = .ok (.iload_n 2, 1) := sdX8_next__68.2.2.2.1
theorem dX8_next__75 : decode cX8_next_ 75 = .ok (.invokevirtual 374, 3) := sdX8_next__68.2.2.2.2.1
theorem dX8_next__78 : decode cX8_next_ 78 = .ok (.ifCond .eq 38, 3) := sdX8_next__68.2.2.2.2.2.1
theorem dX8_next__81 : decode cX8_next_ 81 = .ok (.aload_n 0, 1) := sdX8_next__68.2.2.2.2.2.2.1
theorem dX8_next__82 : decode cX8_next_ 82 = .ok (.aload_n 0, 1) := sdX8_next__68.2.2.2.2.2.2.2.1
theorem sdX8_next__83 : dz_Seg cX8_next_ [(83, .getfield 70, 3), (86, .iload 4, 2), (88, .iaload, 1), (89, .iload_n 2, 1), (90, .aload_n 0, 1), (91, .getfield 79, 3), (94, .iload_n 2, 1), (95, .iaload, 1)] := dz_sg _ 83 (by decide +kernel)
theorem dX8_next__83 : decode cX8_next_ 83 = .ok (.getfield 70, 3) := sdX8_next__83.1
theorem dX8_next__86 : decode cX8_next_ 86 = .ok (.iload 4, 2) := sdX8_next__83.2.1
theorem dX8_next__88 : decode cX8_next_ 88 = .ok (.iaload, 1) := sdX8_next__83.2.2.1
theorem dX8_next__89 : decode cX8_next_ 89 = .ok (.iload_n 2, 1) := sdX8_next__83.2.2.2.1
theorem dX8_next__90 : decode cX8_next_ 90 = .ok (.aload_n 0, 1) := sdX8_next__83.2.2.2.2.1
theorem dX8_next__91 : decode cX8_next_ 91 = .ok (.getfield 79, 3) := sdX8_next__83.2.2.2.2.2.1
theorem dX8_next__94 : decode cX8_next_ 94 = .ok (.iload_n 2, 1) := sdX8_next__83.2.2.2.2.2.2.1
theorem dX8_next__95 : decode cX8_next_ 95 = .ok (.iaload, 1) := sdX8_next__83.2.2.2.2.2.2.2.1
theorem sdX8_next__96 : dz_Seg cX8_next_ [(96, .iload_n 3, 1), (97, .iadd, 1), (98, .invokevirtual 329, 3), (101, .ifCond .eq 15, 3), (104, .aload_n 0, 1), (105, .aload_n 0, 1), (106, .getfield 70, 3), (109, .iload 4, 2)] := dz_sg _ 96 (by decide +kernel)
theorem dX8_next__96 : decode cX8_next_ 96 = .ok (.iload_n 3, 1) := sdX8_next__96.1
theorem dX8_next__97 : decode cX8_next_ 97 = .ok (.iadd, 1) := sdX8_next__96.2.1
theorem dX8_next__98 : decode cX8_next_ 98 = .ok (.invokevirtual 329, 3) := sdX8_next__96.2.2.1
theorem dX8_next__101 : decode cX8_next_ 101 = .ok (.ifCond .eq 15, 3) := sdX8_next__96.2.2.2.1
theorem dX8_next__104 : decode cX8_next_ 104 = .ok (.aload_n 0, 1) := sdX8_next__96.2.2.2.2.1
theorem dX8_next__105 : decode cX8_next_ 105 = .ok (.aload_n 0, 1) := sdX8_next__96.2.2.2.2.2.1
theorem dX8_next__106 : decode cX8_next_ 106 = .ok (.getfield 70, 3) := sdX8_next__96.2.2.2.2.2.2.1
theorem dX8_next__109 : decode cX8_next_ 109 = .ok (.iload 4, 2) := sdX8_next__96.2.2.2.2.2.2.2.1
theorem sdX8_next__111 : dz_Seg cX8_next_ [(111, .iaload, 1), (112, .invokevirtual 272, 3), (115, .ireturn, 1), (116, .iinc 4 1, 3), (119, .goto (-62), 3), (122, .aload_n 0, 1), (123, .iconst 5, 1), (124, .invokevirtual 263, 3)] := dz_sg _ 111 (by decide +kernel)
theorem dX8_next__111 : decode cX8_next_ 111 = .ok (.iaload, 1) := sdX8_next__111.1
theorem dX8_next__112 : decode cX8_next_ 112 = .ok (.invokevirtual 272, 3) := sdX8_next__111.2.1
theorem dX8_next__115 : decode cX8_next_ 115 = .ok (.ireturn, 1) := sdX8_next__111.2.2.1
theorem dX8_next__116 : decode cX8_next_ 116 = .ok (.iinc 4 1, 3) := sdX8_next__111.2.2.2.1
theorem dX8_next__119 : decode cX8_next_ 119 = .ok (.goto (-62), 3) := sdX8_next__111.2.2.2.2.1
theorem dX8_next__122 : decode cX8_next_ 122 = .ok (.aload_n 0, 1) := sdX8_next__111.2.2.2.2.2.1
theorem dX8_next__123 : decode cX8_next_ 123 = .ok (.iconst 5, 1) := sdX8_next__111.2.2.2.2.2.2.1
theorem dX8_next__124 : decode cX8_next_ 124 = .ok (.invokevirtual 263, 3) := sdX8_next__111.2.2.2.2.2.2.2.1
theorem sdX8_next__127 : dz_Seg cX8_next_ [(127, .ireturn, 1)] := dz_sg _ 127 (by decide +kernel)
theorem dX8_next__127 : decode cX8_next_ 127 = .ok (.ireturn, 1) := sdX8_next__127.1
theorem sdX8_placeNow_0 : dz_Seg cX8_placeNow [(0, .aload_n 0, 1), (1, .getfield 73, 3), (4, .iload_n 1, 1), (5, .iaload, 1), (6, .iconst (-1), 1), (7, .if_icmp .ne 11, 3), (10, .aload_n 0, 1), (11, .iload_n 1, 1)] := dz_sg _ 0 (by decide +kernel)
theorem dX8_placeNow_0 : decode cX8_placeNow 0 = .ok (.aload_n 0, 1) := sdX8_placeNow_0.1
theorem dX8_placeNow_1 : decode cX8_placeNow 1 = .ok (.getfield 73, 3) := sdX8_placeNow_0.2.1
theorem dX8_placeNow_4 : decode cX8_placeNow 4 = .ok (.iload_n 1, 1) := sdX8_placeNow_0.2.2.1
theorem dX8_placeNow_5 : decode cX8_placeNow 5 = .ok (.iaload, 1) := sdX8_placeNow_0.2.2.2.1
theorem dX8_placeNow_6 : decode cX8_placeNow 6 = .ok (.iconst (-1), 1) := sdX8_placeNow_0.2.2.2.2.1
theorem dX8_placeNow_7 : decode cX8_placeNow 7 = .ok (.if_icmp .ne 11, 3) := sdX8_placeNow_0.2.2.2.2.2.1
theorem dX8_placeNow_10 : decode cX8_placeNow 10 = .ok (.aload_n 0, 1) := sdX8_placeNow_0.2.2.2.2.2.2.1
theorem dX8_placeNow_11 : decode cX8_placeNow 11 = .ok (.iload_n 1, 1) := sdX8_placeNow_0.2.2.2.2.2.2.2.1
theorem sdX8_placeNow_12 : dz_Seg cX8_placeNow [(12, .invokevirtual 288, 3), (15, .goto 14, 3), (18, .aload_n 0, 1), (19, .iload_n 1, 1), (20, .aload_n 0, 1), (21, .getfield 73, 3), (24, .iload_n 1, 1), (25, .iaload, 1)] := dz_sg _ 12 (by decide +kernel)
theorem dX8_placeNow_12 : decode cX8_placeNow 12 = .ok (.invokevirtual 288, 3) := sdX8_placeNow_12.1
theorem dX8_placeNow_15 : decode cX8_placeNow 15 = .ok (.goto 14, 3) := sdX8_placeNow_12.2.1
theorem dX8_placeNow_18 : decode cX8_placeNow 18 = .ok (.aload_n 0, 1) := sdX8_placeNow_12.2.2.1
theorem dX8_placeNow_19 : decode cX8_placeNow 19 = .ok (.iload_n 1, 1) := sdX8_placeNow_12.2.2.2.1
theorem dX8_placeNow_20 : decode cX8_placeNow 20 = .ok (.aload_n 0, 1) := sdX8_placeNow_12.2.2.2.2.1
theorem dX8_placeNow_21 : decode cX8_placeNow 21 = .ok (.getfield 73, 3) := sdX8_placeNow_12.2.2.2.2.2.1
theorem dX8_placeNow_24 : decode cX8_placeNow 24 = .ok (.iload_n 1, 1) := sdX8_placeNow_12.2.2.2.2.2.2.1
theorem dX8_placeNow_25 : decode cX8_placeNow 25 = .ok (.iaload, 1) := sdX8_placeNow_12.2.2.2.2.2.2.2.1
theorem sdX8_placeNow_26 : dz_Seg cX8_placeNow [(26, .invokevirtual 310, 3), (29, .ireturn, 1)] := dz_sg _ 26 (by decide +kernel)
theorem dX8_placeNow_26 : decode cX8_placeNow 26 = .ok (.invokevirtual 310, 3) := sdX8_placeNow_26.1
theorem dX8_placeNow_29 : decode cX8_placeNow 29 = .ok (.ireturn, 1) := sdX8_placeNow_26.2.1
theorem sdX8_envies_0 : dz_Seg cX8_envies [(0, .iload_n 1, 1), (1, .invokestatic 358, 3), (4, .ifCond .ne 9, 3), (7, .aload_n 0, 1), (8, .iconst 1, 1), (9, .invokevirtual 263, 3), (12, .ireturn, 1), (13, .aload_n 0, 1)] := dz_sg _ 0 (by decide +kernel)
theorem dX8_envies_0 : decode cX8_envies 0 = .ok (.iload_n 1, 1) := sdX8_envies_0.1
theorem dX8_envies_1 : decode cX8_envies 1 = .ok (.invokestatic 358, 3) := sdX8_envies_0.2.1
theorem dX8_envies_4 : decode cX8_envies 4 = .ok (.ifCond .ne 9, 3) := sdX8_envies_0.2.2.1
theorem dX8_envies_7 : decode cX8_envies 7 = .ok (.aload_n 0, 1) := sdX8_envies_0.2.2.2.1
theorem dX8_envies_8 : decode cX8_envies 8 = .ok (.iconst 1, 1) := sdX8_envies_0.2.2.2.2.1
theorem dX8_envies_9 : decode cX8_envies 9 = .ok (.invokevirtual 263, 3) := sdX8_envies_0.2.2.2.2.2.1
theorem dX8_envies_12 : decode cX8_envies 12 = .ok (.ireturn, 1) := sdX8_envies_0.2.2.2.2.2.2.1
theorem dX8_envies_13 : decode cX8_envies 13 = .ok (.aload_n 0, 1) := sdX8_envies_0.2.2.2.2.2.2.2.1
theorem sdX8_envies_14 : dz_Seg cX8_envies [(14, .iload_n 2, 1), (15, .invokevirtual 315, 3), (18, .ifCond .ne 9, 3), (21, .aload_n 0, 1), (22, .iconst 2, 1), (23, .invokevirtual 263, 3), (26, .ireturn, 1), (27, .aload_n 0, 1)] := dz_sg _ 14 (by decide +kernel)
theorem dX8_envies_14 : decode cX8_envies 14 = .ok (.iload_n 2, 1) := sdX8_envies_14.1
theorem dX8_envies_15 : decode cX8_envies 15 = .ok (.invokevirtual 315, 3) := sdX8_envies_14.2.1
theorem dX8_envies_18 : decode cX8_envies 18 = .ok (.ifCond .ne 9, 3) := sdX8_envies_14.2.2.1
theorem dX8_envies_21 : decode cX8_envies 21 = .ok (.aload_n 0, 1) := sdX8_envies_14.2.2.2.1
theorem dX8_envies_22 : decode cX8_envies 22 = .ok (.iconst 2, 1) := sdX8_envies_14.2.2.2.2.1
theorem dX8_envies_23 : decode cX8_envies 23 = .ok (.invokevirtual 263, 3) := sdX8_envies_14.2.2.2.2.2.1
theorem dX8_envies_26 : decode cX8_envies 26 = .ok (.ireturn, 1) := sdX8_envies_14.2.2.2.2.2.2.1
theorem dX8_envies_27 : decode cX8_envies 27 = .ok (.aload_n 0, 1) := sdX8_envies_14.2.2.2.2.2.2.2.1
theorem sdX8_envies_28 : dz_Seg cX8_envies [(28, .iload_n 1, 1), (29, .invokevirtual 361, 3), (32, .iconst 0, 1), (33, .istore_n 3, 1), (34, .iconst 0, 1), (35, .istore 4, 2), (37, .iload 4, 2), (39, .aload_n 0, 1)] := dz_sg _ 28 (by decide +kernel)
theorem dX8_envies_28 : decode cX8_envies 28 = .ok (.iload_n 1, 1) := sdX8_envies_28.1
theorem dX8_envies_29 : decode cX8_envies 29 = .ok (.invokevirtual 361, 3) := sdX8_envies_28.2.1
theorem dX8_envies_32 : decode cX8_envies 32 = .ok (.iconst 0, 1) := sdX8_envies_28.2.2.1
theorem dX8_envies_33 : decode cX8_envies 33 = .ok (.istore_n 3, 1) := sdX8_envies_28.2.2.2.1
theorem dX8_envies_34 : decode cX8_envies 34 = .ok (.iconst 0, 1) := sdX8_envies_28.2.2.2.2.1
theorem dX8_envies_35 : decode cX8_envies 35 = .ok (.istore 4, 2) := sdX8_envies_28.2.2.2.2.2.1
theorem dX8_envies_37 : decode cX8_envies 37 = .ok (.iload 4, 2) := sdX8_envies_28.2.2.2.2.2.2.1
theorem dX8_envies_39 : decode cX8_envies 39 = .ok (.aload_n 0, 1) := sdX8_envies_28.2.2.2.2.2.2.2.1
theorem sdX8_envies_40 : dz_Seg cX8_envies [(40, .getfield 275, 3), (43, .if_icmp .ge 80, 3), (46, .aload_n 0, 1), (47, .getfield 73, 3), (50, .iload 4, 2), (52, .iaload, 1), (53, .iconst (-1), 1), (54, .if_icmp .eq 63, 3)] := dz_sg _ 40 (by decide +kernel)
theorem dX8_envies_40 : decode cX8_envies 40 = .ok (.getfield 275, 3) := sdX8_envies_40.1
theorem dX8_envies_43 : decode cX8_envies 43 = .ok (.if_icmp .ge 80, 3) := sdX8_envies_40.2.1
theorem dX8_envies_46 : decode cX8_envies 46 = .ok (.aload_n 0, 1) := sdX8_envies_40.2.2.1
theorem dX8_envies_47 : decode cX8_envies 47 = .ok (.getfield 73, 3) := sdX8_envies_40.2.2.2.1
theorem dX8_envies_50 : decode cX8_envies 50 = .ok (.iload 4, 2) := sdX8_envies_40.2.2.2.2.1
theorem dX8_envies_52 : decode cX8_envies 52 = .ok (.iaload, 1) := sdX8_envies_40.2.2.2.2.2.1
theorem dX8_envies_53 : decode cX8_envies 53 = .ok (.iconst (-1), 1) := sdX8_envies_40.2.2.2.2.2.2.1
theorem dX8_envies_54 : decode cX8_envies 54 = .ok (.if_icmp .eq 63, 3) := sdX8_envies_40.2.2.2.2.2.2.2.1
theorem sdX8_envies_57 : dz_Seg cX8_envies [(57, .aload_n 0, 1), (58, .getfield 64, 3), (61, .iload 4, 2), (63, .iaload, 1), (64, .aload_n 0, 1), (65, .getfield 64, 3), (68, .iload_n 2, 1), (69, .iaload, 1)] := dz_sg _ 57 (by decide +kernel)
theorem dX8_envies_57 : decode cX8_envies 57 = .ok (.aload_n 0, 1) := sdX8_envies_57.1
theorem dX8_envies_58 : decode cX8_envies 58 = .ok (.getfield 64, 3) := sdX8_envies_57.2.1
theorem dX8_envies_61 : decode cX8_envies 61 = .ok (.iload 4, 2) := sdX8_envies_57.2.2.1
theorem dX8_envies_63 : decode cX8_envies 63 = .ok (.iaload, 1) := sdX8_envies_57.2.2.2.1
theorem dX8_envies_64 : decode cX8_envies 64 = .ok (.aload_n 0, 1) := sdX8_envies_57.2.2.2.2.1
theorem dX8_envies_65 : decode cX8_envies 65 = .ok (.getfield 64, 3) := sdX8_envies_57.2.2.2.2.2.1
theorem dX8_envies_68 : decode cX8_envies 68 = .ok (.iload_n 2, 1) := sdX8_envies_57.2.2.2.2.2.2.1
theorem dX8_envies_69 : decode cX8_envies 69 = .ok (.iaload, 1) := sdX8_envies_57.2.2.2.2.2.2.2.1
theorem sdX8_envies_70 : dz_Seg cX8_envies [(70, .if_icmp .lt 6, 3), (73, .goto 44, 3), (76, .aload_n 0, 1), (77, .iload_n 2, 1), (78, .aload_n 0, 1), (79, .getfield 73, 3), (82, .iload 4, 2), (84, .iaload, 1)] := dz_sg _ 70 (by decide +kernel)
theorem dX8_envies_70 : decode cX8_envies 70 = .ok (.if_icmp .lt 6, 3) := sdX8_envies_70.1
theorem dX8_envies_73 : decode cX8_envies 73 = .ok (.goto 44, 3) := sdX8_envies_70.2.1
theorem dX8_envies_76 : decode cX8_envies 76 = .ok (.aload_n 0, 1) := sdX8_envies_70.2.2.1
theorem dX8_envies_77 : decode cX8_envies 77 = .ok (.iload_n 2, 1) := sdX8_envies_70.2.2.2.1
theorem dX8_envies_78 : decode cX8_envies 78 = .ok (.aload_n 0, 1) := sdX8_envies_70.2.2.2.2.1
theorem dX8_envies_79 : decode cX8_envies 79 = .ok (.getfield 73, 3) := sdX8_envies_70.2.2.2.2.2.1
theorem dX8_envies_82 : decode cX8_envies 82 = .ok (.iload 4, 2) := sdX8_envies_70.2.2.2.2.2.2.1
theorem dX8_envies_84 : decode cX8_envies 84 = .ok (.iaload, 1) := sdX8_envies_70.2.2.2.2.2.2.2.1
theorem sdX8_envies_85 : dz_Seg cX8_envies [(85, .invokevirtual 310, 3), (88, .istore 5, 2), (90, .iload_n 3, 1), (91, .iload 5, 2), (93, .iconst (-1), 1), (94, .if_icmp .eq 20, 3), (97, .iload 5, 2), (99, .aload_n 0, 1)] := dz_sg _ 85 (by decide +kernel)
theorem dX8_envies_85 : decode cX8_envies 85 = .ok (.invokevirtual 310, 3) := sdX8_envies_85.1
theorem dX8_envies_88 : decode cX8_envies 88 = .ok (.istore 5, 2) := sdX8_envies_85.2.1
theorem dX8_envies_90 : decode cX8_envies 90 = .ok (.iload_n 3, 1) := sdX8_envies_85.2.2.1
theorem dX8_envies_91 : decode cX8_envies 91 = .ok (.iload 5, 2) := sdX8_envies_85.2.2.2.1
theorem dX8_envies_93 : decode cX8_envies 93 = .ok (.iconst (-1), 1) := sdX8_envies_85.2.2.2.2.1
theorem dX8_envies_94 : decode cX8_envies 94 = .ok (.if_icmp .eq 20, 3) := sdX8_envies_85.2.2.2.2.2.1
theorem dX8_envies_97 : decode cX8_envies 97 = .ok (.iload 5, 2) := sdX8_envies_85.2.2.2.2.2.2.1
theorem dX8_envies_99 : decode cX8_envies 99 = .ok (.aload_n 0, 1) := sdX8_envies_85.2.2.2.2.2.2.2.1
theorem sdX8_envies_100 : dz_Seg cX8_envies [(100, .iload_n 2, 1), (101, .invokevirtual 379, 3), (104, .if_icmp .ge 10, 3), (107, .iconst 1, 1), (108, .iload 4, 2), (110, .ishl, 1), (111, .goto 4, 3), (114, .iconst 0, 1)] := dz_sg _ 100 (by decide +kernel)
theorem dX8_envies_100 : decode cX8_envies 100 = .ok (.iload_n 2, 1) := sdX8_envies_100.1
theorem dX8_envies_101 : decode cX8_envies 101 = .ok (.invokevirtual 379, 3) := sdX8_envies_100.2.1
theorem dX8_envies_104 : decode cX8_envies 104 = .ok (.if_icmp .ge 10, 3) := sdX8_envies_100.2.2.1
theorem dX8_envies_107 : decode cX8_envies 107 = .ok (.iconst 1, 1) := sdX8_envies_100.2.2.2.1
theorem dX8_envies_108 : decode cX8_envies 108 = .ok (.iload 4, 2) := sdX8_envies_100.2.2.2.2.1
theorem dX8_envies_110 : decode cX8_envies 110 = .ok (.ishl, 1) := sdX8_envies_100.2.2.2.2.2.1
theorem dX8_envies_111 : decode cX8_envies 111 = .ok (.goto 4, 3) := sdX8_envies_100.2.2.2.2.2.2.1
theorem dX8_envies_114 : decode cX8_envies 114 = .ok (.iconst 0, 1) := sdX8_envies_100.2.2.2.2.2.2.2.1
theorem sdX8_envies_115 : dz_Seg cX8_envies [(115, .ior, 1), (116, .istore_n 3, 1), (117, .iinc 4 1, 3), (120, .goto (-83), 3), (123, .aload_n 0, 1), (124, .iload_n 3, 1), (125, .invokevirtual 272, 3), (128, .ireturn, 1)] := dz_sg _ 115 (by decide +kernel)
theorem dX8_envies_115 : decode cX8_envies 115 = .ok (.ior, 1) := sdX8_envies_115.1
theorem dX8_envies_116 : decode cX8_envies 116 = .ok (.istore_n 3, 1) := sdX8_envies_115.2.1
theorem dX8_envies_117 : decode cX8_envies 117 = .ok (.iinc 4 1, 3) := sdX8_envies_115.2.2.1
theorem dX8_envies_120 : decode cX8_envies 120 = .ok (.goto (-83), 3) := sdX8_envies_115.2.2.2.1
theorem dX8_envies_123 : decode cX8_envies 123 = .ok (.aload_n 0, 1) := sdX8_envies_115.2.2.2.2.1
theorem dX8_envies_124 : decode cX8_envies 124 = .ok (.iload_n 3, 1) := sdX8_envies_115.2.2.2.2.2.1
theorem dX8_envies_125 : decode cX8_envies 125 = .ok (.invokevirtual 272, 3) := sdX8_envies_115.2.2.2.2.2.2.1
theorem dX8_envies_128 : decode cX8_envies 128 = .ok (.ireturn, 1) := sdX8_envies_115.2.2.2.2.2.2.2.1
theorem sdX8_spoils_0 : dz_Seg cX8_spoils [(0, .iload_n 1, 1), (1, .invokestatic 358, 3), (4, .ifCond .ne 9, 3), (7, .aload_n 0, 1), (8, .iconst 1, 1), (9, .invokevirtual 263, 3), (12, .ireturn, 1), (13, .aload_n 0, 1)] := dz_sg _ 0 (by decide +kernel)
theorem dX8_spoils_0 : decode cX8_spoils 0 = .ok (.iload_n 1, 1) := sdX8_spoils_0.1
theorem dX8_spoils_1 : decode cX8_spoils 1 = .ok (.invokestatic 358, 3) := sdX8_spoils_0.2.1
theorem dX8_spoils_4 : decode cX8_spoils 4 = .ok (.ifCond .ne 9, 3) := sdX8_spoils_0.2.2.1
theorem dX8_spoils_7 : decode cX8_spoils 7 = .ok (.aload_n 0, 1) := sdX8_spoils_0.2.2.2.1
theorem dX8_spoils_8 : decode cX8_spoils 8 = .ok (.iconst 1, 1) := sdX8_spoils_0.2.2.2.2.1
theorem dX8_spoils_9 : decode cX8_spoils 9 = .ok (.invokevirtual 263, 3) := sdX8_spoils_0.2.2.2.2.2.1
theorem dX8_spoils_12 : decode cX8_spoils 12 = .ok (.ireturn, 1) := sdX8_spoils_0.2.2.2.2.2.2.1
theorem dX8_spoils_13 : decode cX8_spoils 13 = .ok (.aload_n 0, 1) := sdX8_spoils_0.2.2.2.2.2.2.2.1
theorem sdX8_spoils_14 : dz_Seg cX8_spoils [(14, .iload_n 2, 1), (15, .invokevirtual 315, 3), (18, .ifCond .ne 9, 3), (21, .aload_n 0, 1), (22, .iconst 2, 1), (23, .invokevirtual 263, 3), (26, .ireturn, 1), (27, .aload_n 0, 1)] := dz_sg _ 14 (by decide +kernel)
theorem dX8_spoils_14 : decode cX8_spoils 14 = .ok (.iload_n 2, 1) := sdX8_spoils_14.1
theorem dX8_spoils_15 : decode cX8_spoils 15 = .ok (.invokevirtual 315, 3) := sdX8_spoils_14.2.1
theorem dX8_spoils_18 : decode cX8_spoils 18 = .ok (.ifCond .ne 9, 3) := sdX8_spoils_14.2.2.1
theorem dX8_spoils_21 : decode cX8_spoils 21 = .ok (.aload_n 0, 1) := sdX8_spoils_14.2.2.2.1
theorem dX8_spoils_22 : decode cX8_spoils 22 = .ok (.iconst 2, 1) := sdX8_spoils_14.2.2.2.2.1
theorem dX8_spoils_23 : decode cX8_spoils 23 = .ok (.invokevirtual 263, 3) := sdX8_spoils_14.2.2.2.2.2.1
theorem dX8_spoils_26 : decode cX8_spoils 26 = .ok (.ireturn, 1) := sdX8_spoils_14.2.2.2.2.2.2.1
theorem dX8_spoils_27 : decode cX8_spoils 27 = .ok (.aload_n 0, 1) := sdX8_spoils_14.2.2.2.2.2.2.2.1
theorem sdX8_spoils_28 : dz_Seg cX8_spoils [(28, .iload_n 1, 1), (29, .invokevirtual 361, 3), (32, .iconst 0, 1), (33, .istore_n 3, 1), (34, .iload_n 3, 1), (35, .aload_n 0, 1), (36, .getfield 275, 3), (39, .if_icmp .ge 20, 3)] := dz_sg _ 28 (by decide +kernel)
theorem dX8_spoils_28 : decode cX8_spoils 28 = .ok (.iload_n 1, 1) := sdX8_spoils_28.1
theorem dX8_spoils_29 : decode cX8_spoils 29 = .ok (.invokevirtual 361, 3) := sdX8_spoils_28.2.1
theorem dX8_spoils_32 : decode cX8_spoils 32 = .ok (.iconst 0, 1) := sdX8_spoils_28.2.2.1
theorem dX8_spoils_33 : decode cX8_spoils 33 = .ok (.istore_n 3, 1) := sdX8_spoils_28.2.2.2.1
theorem dX8_spoils_34 : decode cX8_spoils 34 = .ok (.iload_n 3, 1) := sdX8_spoils_28.2.2.2.2.1
theorem dX8_spoils_35 : decode cX8_spoils 35 = .ok (.aload_n 0, 1) := sdX8_spoils_28.2.2.2.2.2.1
theorem dX8_spoils_36 : decode cX8_spoils 36 = .ok (.getfield 275, 3) := sdX8_spoils_28.2.2.2.2.2.2.1
theorem dX8_spoils_39 : decode cX8_spoils 39 = .ok (.if_icmp .ge 20, 3) := sdX8_spoils_28.2.2.2.2.2.2.2.1
theorem sdX8_spoils_42 : dz_Seg cX8_spoils [(42, .aload_n 0, 1), (43, .getfield 85, 3), (46, .iload_n 3, 1), (47, .aload_n 0, 1), (48, .iload_n 3, 1), (49, .invokevirtual 379, 3), (52, .iastore, 1), (53, .iinc 3 1, 3)] := dz_sg _ 42 (by decide +kernel)
theorem dX8_spoils_42 : decode cX8_spoils 42 = .ok (.aload_n 0, 1) := sdX8_spoils_42.1
theorem dX8_spoils_43 : decode cX8_spoils 43 = .ok (.getfield 85, 3) := sdX8_spoils_42.2.1
theorem dX8_spoils_46 : decode cX8_spoils 46 = .ok (.iload_n 3, 1) := sdX8_spoils_42.2.2.1
theorem dX8_spoils_47 : decode cX8_spoils 47 = .ok (.aload_n 0, 1) := sdX8_spoils_42.2.2.2.1
theorem dX8_spoils_48 : decode cX8_spoils 48 = .ok (.iload_n 3, 1) := sdX8_spoils_42.2.2.2.2.1
theorem dX8_spoils_49 : decode cX8_spoils 49 = .ok (.invokevirtual 379, 3) := sdX8_spoils_42.2.2.2.2.2.1
theorem dX8_spoils_52 : decode cX8_spoils 52 = .ok (.iastore, 1) := sdX8_spoils_42.2.2.2.2.2.2.1
theorem dX8_spoils_53 : decode cX8_spoils 53 = .ok (.iinc 3 1, 3) := sdX8_spoils_42.2.2.2.2.2.2.2.1
theorem sdX8_spoils_56 : dz_Seg cX8_spoils [(56, .goto (-22), 3), (59, .aload_n 0, 1), (60, .iload_n 2, 1), (61, .invokevirtual 355, 3), (64, .iconst 0, 1), (65, .istore_n 3, 1), (66, .iconst 0, 1), (67, .istore 4, 2)] := dz_sg _ 56 (by decide +kernel)
theorem dX8_spoils_56 : decode cX8_spoils 56 = .ok (.goto (-22), 3) := sdX8_spoils_56.1
theorem dX8_spoils_59 : decode cX8_spoils 59 = .ok (.aload_n 0, 1) := sdX8_spoils_56.2.1
theorem dX8_spoils_60 : decode cX8_spoils 60 = .ok (.iload_n 2, 1) := sdX8_spoils_56.2.2.1
theorem dX8_spoils_61 : decode cX8_spoils 61 = .ok (.invokevirtual 355, 3) := sdX8_spoils_56.2.2.2.1
theorem dX8_spoils_64 : decode cX8_spoils 64 = .ok (.iconst 0, 1) := sdX8_spoils_56.2.2.2.2.1
theorem dX8_spoils_65 : decode cX8_spoils 65 = .ok (.istore_n 3, 1) := sdX8_spoils_56.2.2.2.2.2.1
theorem dX8_spoils_66 : decode cX8_spoils 66 = .ok (.iconst 0, 1) := sdX8_spoils_56.2.2.2.2.2.2.1
theorem dX8_spoils_67 : decode cX8_spoils 67 = .ok (.istore 4, 2) := sdX8_spoils_56.2.2.2.2.2.2.2.1
theorem sdX8_spoils_69 : dz_Seg cX8_spoils [(69, .iload 4, 2), (71, .aload_n 0, 1), (72, .getfield 275, 3), (75, .if_icmp .ge 42, 3), (78, .iload_n 3, 1), (79, .iload 4, 2), (81, .iload_n 2, 1), (82, .if_icmp .eq 26, 3)] := dz_sg _ 69 (by decide +kernel)
theorem dX8_spoils_69 : decode cX8_spoils 69 = .ok (.iload 4, 2) := sdX8_spoils_69.1
theorem dX8_spoils_71 : decode cX8_spoils 71 = .ok (.aload_n 0, 1) := sdX8_spoils_69.2.1
theorem dX8_spoils_72 : decode cX8_spoils 72 = .ok (.getfield 275, 3) := sdX8_spoils_69.2.2.1
theorem dX8_spoils_75 : decode cX8_spoils 75 = .ok (.if_icmp .ge 42, 3) := sdX8_spoils_69.2.2.2.1
theorem dX8_spoils_78 : decode cX8_spoils 78 = .ok (.iload_n 3, 1) := sdX8_spoils_69.2.2.2.2.1
theorem dX8_spoils_79 : decode cX8_spoils 79 = .ok (.iload 4, 2) := sdX8_spoils_69.2.2.2.2.2.1
theorem dX8_spoils_81 : decode cX8_spoils 81 = .ok (.iload_n 2, 1) := sdX8_spoils_69.2.2.2.2.2.2.1
theorem dX8_spoils_82 : decode cX8_spoils 82 = .ok (.if_icmp .eq 26, 3) := sdX8_spoils_69.2.2.2.2.2.2.2.1
theorem sdX8_spoils_85 : dz_Seg cX8_spoils [(85, .aload_n 0, 1), (86, .iload 4, 2), (88, .invokevirtual 379, 3), (91, .aload_n 0, 1), (92, .getfield 85, 3), (95, .iload 4, 2), (97, .iaload, 1), (98, .if_icmp .ge 10, 3)] := dz_sg _ 85 (by decide +kernel)
theorem dX8_spoils_85 : decode cX8_spoils 85 = .ok (.aload_n 0, 1) := sdX8_spoils_85.1
theorem dX8_spoils_86 : decode cX8_spoils 86 = .ok (.iload 4, 2) := sdX8_spoils_85.2.1
theorem dX8_spoils_88 : decode cX8_spoils 88 = .ok (.invokevirtual 379, 3) := sdX8_spoils_85.2.2.1
theorem dX8_spoils_91 : decode cX8_spoils 91 = .ok (.aload_n 0, 1) := sdX8_spoils_85.2.2.2.1
theorem dX8_spoils_92 : decode cX8_spoils 92 = .ok (.getfield 85, 3) := sdX8_spoils_85.2.2.2.2.1
theorem dX8_spoils_95 : decode cX8_spoils 95 = .ok (.iload 4, 2) := sdX8_spoils_85.2.2.2.2.2.1
theorem dX8_spoils_97 : decode cX8_spoils 97 = .ok (.iaload, 1) := sdX8_spoils_85.2.2.2.2.2.2.1
theorem dX8_spoils_98 : decode cX8_spoils 98 = .ok (.if_icmp .ge 10, 3) := sdX8_spoils_85.2.2.2.2.2.2.2.1
theorem sdX8_spoils_101 : dz_Seg cX8_spoils [(101, .iconst 1, 1), (102, .iload 4, 2), (104, .ishl, 1), (105, .goto 4, 3), (108, .iconst 0, 1), (109, .ior, 1), (110, .istore_n 3, 1), (111, .iinc 4 1, 3)] := dz_sg _ 101 (by decide +kernel)
theorem dX8_spoils_101 : decode cX8_spoils 101 = .ok (.iconst 1, 1) := sdX8_spoils_101.1
theorem dX8_spoils_102 : decode cX8_spoils 102 = .ok (.iload 4, 2) := sdX8_spoils_101.2.1
theorem dX8_spoils_104 : decode cX8_spoils 104 = .ok (.ishl, 1) := sdX8_spoils_101.2.2.1
theorem dX8_spoils_105 : decode cX8_spoils 105 = .ok (.goto 4, 3) := sdX8_spoils_101.2.2.2.1
theorem dX8_spoils_108 : decode cX8_spoils 108 = .ok (.iconst 0, 1) := sdX8_spoils_101.2.2.2.2.1
theorem dX8_spoils_109 : decode cX8_spoils 109 = .ok (.ior, 1) := sdX8_spoils_101.2.2.2.2.2.1
theorem dX8_spoils_110 : decode cX8_spoils 110 = .ok (.istore_n 3, 1) := sdX8_spoils_101.2.2.2.2.2.2.1
theorem dX8_spoils_111 : decode cX8_spoils 111 = .ok (.iinc 4 1, 3) := sdX8_spoils_101.2.2.2.2.2.2.2.1
theorem sdX8_spoils_114 : dz_Seg cX8_spoils [(114, .goto (-45), 3), (117, .aload_n 0, 1), (118, .iload_n 3, 1), (119, .invokevirtual 272, 3), (122, .ireturn, 1)] := dz_sg _ 114 (by decide +kernel)
theorem dX8_spoils_114 : decode cX8_spoils 114 = .ok (.goto (-45), 3) := sdX8_spoils_114.1
theorem dX8_spoils_117 : decode cX8_spoils 117 = .ok (.aload_n 0, 1) := sdX8_spoils_114.2.1
theorem dX8_spoils_118 : decode cX8_spoils 118 = .ok (.iload_n 3, 1) := sdX8_spoils_114.2.2.1
theorem dX8_spoils_119 : decode cX8_spoils 119 = .ok (.invokevirtual 272, 3) := sdX8_spoils_114.2.2.2.1
theorem dX8_spoils_122 : decode cX8_spoils 122 = .ok (.ireturn, 1) := sdX8_spoils_114.2.2.2.2.1
theorem sdX8_behindNow_0 : dz_Seg cX8_behindNow [(0, .iconst 0, 1), (1, .istore_n 2, 1), (2, .aload_n 0, 1), (3, .getfield 49, 3), (6, .iload_n 2, 1), (7, .iaload, 1), (8, .iload_n 1, 1), (9, .invokestatic 240, 3)] := dz_sg _ 0 (by decide +kernel)
theorem dX8_behindNow_0 : decode cX8_behindNow 0 = .ok (.iconst 0, 1) := sdX8_behindNow_0.1
theorem dX8_behindNow_1 : decode cX8_behindNow 1 = .ok (.istore_n 2, 1) := sdX8_behindNow_0.2.1
theorem dX8_behindNow_2 : decode cX8_behindNow 2 = .ok (.aload_n 0, 1) := sdX8_behindNow_0.2.2.1
theorem dX8_behindNow_3 : decode cX8_behindNow 3 = .ok (.getfield 49, 3) := sdX8_behindNow_0.2.2.2.1
theorem dX8_behindNow_6 : decode cX8_behindNow 6 = .ok (.iload_n 2, 1) := sdX8_behindNow_0.2.2.2.2.1
theorem dX8_behindNow_7 : decode cX8_behindNow 7 = .ok (.iaload, 1) := sdX8_behindNow_0.2.2.2.2.2.1
theorem dX8_behindNow_8 : decode cX8_behindNow 8 = .ok (.iload_n 1, 1) := sdX8_behindNow_0.2.2.2.2.2.2.1
theorem dX8_behindNow_9 : decode cX8_behindNow 9 = .ok (.invokestatic 240, 3) := sdX8_behindNow_0.2.2.2.2.2.2.2.1
theorem sdX8_behindNow_12 : dz_Seg cX8_behindNow [(12, .ifCond .ne 9, 3), (15, .iinc 2 1, 3), (18, .goto (-16), 3), (21, .aload_n 0, 1), (22, .getfield 73, 3), (25, .iload_n 2, 1), (26, .iaload, 1), (27, .iconst (-1), 1)] := dz_sg _ 12 (by decide +kernel)
theorem dX8_behindNow_12 : decode cX8_behindNow 12 = .ok (.ifCond .ne 9, 3) := sdX8_behindNow_12.1
theorem dX8_behindNow_15 : decode cX8_behindNow 15 = .ok (.iinc 2 1, 3) := sdX8_behindNow_12.2.1
theorem dX8_behindNow_18 : decode cX8_behindNow 18 = .ok (.goto (-16), 3) := sdX8_behindNow_12.2.2.1
theorem dX8_behindNow_21 : decode cX8_behindNow 21 = .ok (.aload_n 0, 1) := sdX8_behindNow_12.2.2.2.1
theorem dX8_behindNow_22 : decode cX8_behindNow 22 = .ok (.getfield 73, 3) := sdX8_behindNow_12.2.2.2.2.1
theorem dX8_behindNow_25 : decode cX8_behindNow 25 = .ok (.iload_n 2, 1) := sdX8_behindNow_12.2.2.2.2.2.1
theorem dX8_behindNow_26 : decode cX8_behindNow 26 = .ok (.iaload, 1) := sdX8_behindNow_12.2.2.2.2.2.2.1
theorem dX8_behindNow_27 : decode cX8_behindNow 27 = .ok (.iconst (-1), 1) := sdX8_behindNow_12.2.2.2.2.2.2.2.1
theorem sdX8_behindNow_28 : dz_Seg cX8_behindNow [(28, .if_icmp .eq 31, 3), (31, .aload_n 0, 1), (32, .getfield 73, 3), (35, .iload_n 2, 1), (36, .iaload, 1), (37, .aload_n 0, 1), (38, .iload_n 2, 1), (39, .iconst 0, 1)] := dz_sg _ 28 (by decide +kernel)
theorem dX8_behindNow_28 : decode cX8_behindNow 28 = .ok (.if_icmp .eq 31, 3) := sdX8_behindNow_28.1
theorem dX8_behindNow_31 : decode cX8_behindNow 31 = .ok (.aload_n 0, 1) := sdX8_behindNow_28.2.1
theorem dX8_behindNow_32 : decode cX8_behindNow 32 = .ok (.getfield 73, 3) := sdX8_behindNow_28.2.2.1
theorem dX8_behindNow_35 : decode cX8_behindNow 35 = .ok (.iload_n 2, 1) := sdX8_behindNow_28.2.2.2.1
theorem dX8_behindNow_36 : decode cX8_behindNow 36 = .ok (.iaload, 1) := sdX8_behindNow_28.2.2.2.2.1
theorem dX8_behindNow_37 : decode cX8_behindNow 37 = .ok (.aload_n 0, 1) := sdX8_behindNow_28.2.2.2.2.2.1
theorem dX8_behindNow_38 : decode cX8_behindNow 38 = .ok (.iload_n 2, 1) := sdX8_behindNow_28.2.2.2.2.2.2.1
theorem dX8_behindNow_39 : decode cX8_behindNow 39 = .ok (.iconst 0, 1) := sdX8_behindNow_28.2.2.2.2.2.2.2.1
theorem sdX8_behindNow_40 : dz_Seg cX8_behindNow [(40, .invokevirtual 284, 3), (43, .if_icmp .ne 7, 3), (46, .iconst 0, 1), (47, .goto 11, 3), (50, .aload_n 0, 1), (51, .getfield 7, 3), (54, .iconst 0, 1), (55, .iload_n 1, 1)] := dz_sg _ 40 (by decide +kernel)
theorem dX8_behindNow_40 : decode cX8_behindNow 40 = .ok (.invokevirtual 284, 3) := sdX8_behindNow_40.1
theorem dX8_behindNow_43 : decode cX8_behindNow 43 = .ok (.if_icmp .ne 7, 3) := sdX8_behindNow_40.2.1
theorem dX8_behindNow_46 : decode cX8_behindNow 46 = .ok (.iconst 0, 1) := sdX8_behindNow_40.2.2.1
theorem dX8_behindNow_47 : decode cX8_behindNow 47 = .ok (.goto 11, 3) := sdX8_behindNow_40.2.2.2.1
theorem dX8_behindNow_50 : decode cX8_behindNow 50 = .ok (.aload_n 0, 1) := sdX8_behindNow_40.2.2.2.2.1
theorem dX8_behindNow_51 : decode cX8_behindNow 51 = .ok (.getfield 7, 3) := sdX8_behindNow_40.2.2.2.2.2.1
theorem dX8_behindNow_54 : decode cX8_behindNow 54 = .ok (.iconst 0, 1) := sdX8_behindNow_40.2.2.2.2.2.2.1
theorem dX8_behindNow_55 : decode cX8_behindNow 55 = .ok (.iload_n 1, 1) := sdX8_behindNow_40.2.2.2.2.2.2.2.1
theorem sdX8_behindNow_56 : dz_Seg cX8_behindNow [(56, .iadd, 1), (57, .iaload, 1), (58, .ireturn, 1), (59, .aload_n 0, 1), (60, .iload_n 2, 1), (61, .invokevirtual 288, 3), (64, .ifCond .ne 14, 3), (67, .aload_n 0, 1)] := dz_sg _ 56 (by decide +kernel)
theorem dX8_behindNow_56 : decode cX8_behindNow 56 = .ok (.iadd, 1) := sdX8_behindNow_56.1
theorem dX8_behindNow_57 : decode cX8_behindNow 57 = .ok (.iaload, 1) := sdX8_behindNow_56.2.1
theorem dX8_behindNow_58 : decode cX8_behindNow 58 = .ok (.ireturn, 1) := sdX8_behindNow_56.2.2.1
theorem dX8_behindNow_59 : decode cX8_behindNow 59 = .ok (.aload_n 0, 1) := sdX8_behindNow_56.2.2.2.1
theorem dX8_behindNow_60 : decode cX8_behindNow 60 = .ok (.iload_n 2, 1) := sdX8_behindNow_56.2.2.2.2.1
theorem dX8_behindNow_61 : decode cX8_behindNow 61 = .ok (.invokevirtual 288, 3) := sdX8_behindNow_56.2.2.2.2.2.1
theorem dX8_behindNow_64 : decode cX8_behindNow 64 = .ok (.ifCond .ne 14, 3) := sdX8_behindNow_56.2.2.2.2.2.2.1
theorem dX8_behindNow_67 : decode cX8_behindNow 67 = .ok (.aload_n 0, 1) := sdX8_behindNow_56.2.2.2.2.2.2.2.1
theorem sdX8_behindNow_68 : dz_Seg cX8_behindNow [(68, .getfield 7, 3), (71, .iconst 0, 1), (72, .iload_n 1, 1), (73, .iadd, 1), (74, .iaload, 1), (75, .goto 18, 3), (78, .bipush 20, 2), (80, .aload_n 0, 1)] := dz_sg _ 68 (by decide +kernel)
theorem dX8_behindNow_68 : decode cX8_behindNow 68 = .ok (.getfield 7, 3) := sdX8_behindNow_68.1
theorem dX8_behindNow_71 : decode cX8_behindNow 71 = .ok (.iconst 0, 1) := sdX8_behindNow_68.2.1
theorem dX8_behindNow_72 : decode cX8_behindNow 72 = .ok (.iload_n 1, 1) := sdX8_behindNow_68.2.2.1
theorem dX8_behindNow_73 : decode cX8_behindNow 73 = .ok (.iadd, 1) := sdX8_behindNow_68.2.2.2.1
theorem dX8_behindNow_74 : decode cX8_behindNow 74 = .ok (.iaload, 1) := sdX8_behindNow_68.2.2.2.2.1
theorem dX8_behindNow_75 : decode cX8_behindNow 75 = .ok (.goto 18, 3) := sdX8_behindNow_68.2.2.2.2.2.1
theorem dX8_behindNow_78 : decode cX8_behindNow 78 = .ok (.bipush 20, 2) := sdX8_behindNow_68.2.2.2.2.2.2.1
theorem dX8_behindNow_80 : decode cX8_behindNow 80 = .ok (.aload_n 0, 1) := sdX8_behindNow_68.2.2.2.2.2.2.2.1
theorem sdX8_behindNow_81 : dz_Seg cX8_behindNow [(81, .getfield 7, 3), (84, .iconst 0, 1), (85, .iload_n 1, 1), (86, .iadd, 1), (87, .iaload, 1), (88, .iconst 1, 1), (89, .iadd, 1), (90, .invokestatic 366, 3)] := dz_sg _ 81 (by decide +kernel)
theorem dX8_behindNow_81 : decode cX8_behindNow 81 = .ok (.getfield 7, 3) := sdX8_behindNow_81.1
theorem dX8_behindNow_84 : decode cX8_behindNow 84 = .ok (.iconst 0, 1) := sdX8_behindNow_81.2.1
theorem dX8_behindNow_85 : decode cX8_behindNow 85 = .ok (.iload_n 1, 1) := sdX8_behindNow_81.2.2.1
theorem dX8_behindNow_86 : decode cX8_behindNow 86 = .ok (.iadd, 1) := sdX8_behindNow_81.2.2.2.1
theorem dX8_behindNow_87 : decode cX8_behindNow 87 = .ok (.iaload, 1) := sdX8_behindNow_81.2.2.2.2.1
theorem dX8_behindNow_88 : decode cX8_behindNow 88 = .ok (.iconst 1, 1) := sdX8_behindNow_81.2.2.2.2.2.1
theorem dX8_behindNow_89 : decode cX8_behindNow 89 = .ok (.iadd, 1) := sdX8_behindNow_81.2.2.2.2.2.2.1
theorem dX8_behindNow_90 : decode cX8_behindNow 90 = .ok (.invokestatic 366, 3) := sdX8_behindNow_81.2.2.2.2.2.2.2.1
theorem sdX8_behindNow_93 : dz_Seg cX8_behindNow [(93, .ireturn, 1)] := dz_sg _ 93 (by decide +kernel)
theorem dX8_behindNow_93 : decode cX8_behindNow 93 = .ok (.ireturn, 1) := sdX8_behindNow_93.1
theorem sdX8_behind_0 : dz_Seg cX8_behind [(0, .iload_n 1, 1), (1, .invokestatic 358, 3), (4, .ifCond .ne 9, 3), (7, .aload_n 0, 1), (8, .iconst 1, 1), (9, .invokevirtual 263, 3), (12, .ireturn, 1), (13, .aload_n 0, 1)] := dz_sg _ 0 (by decide +kernel)
theorem dX8_behind_0 : decode cX8_behind 0 = .ok (.iload_n 1, 1) := sdX8_behind_0.1
theorem dX8_behind_1 : decode cX8_behind 1 = .ok (.invokestatic 358, 3) := sdX8_behind_0.2.1
theorem dX8_behind_4 : decode cX8_behind 4 = .ok (.ifCond .ne 9, 3) := sdX8_behind_0.2.2.1
theorem dX8_behind_7 : decode cX8_behind 7 = .ok (.aload_n 0, 1) := sdX8_behind_0.2.2.2.1
theorem dX8_behind_8 : decode cX8_behind 8 = .ok (.iconst 1, 1) := sdX8_behind_0.2.2.2.2.1
theorem dX8_behind_9 : decode cX8_behind 9 = .ok (.invokevirtual 263, 3) := sdX8_behind_0.2.2.2.2.2.1
theorem dX8_behind_12 : decode cX8_behind 12 = .ok (.ireturn, 1) := sdX8_behind_0.2.2.2.2.2.2.1
theorem dX8_behind_13 : decode cX8_behind 13 = .ok (.aload_n 0, 1) := sdX8_behind_0.2.2.2.2.2.2.2.1
theorem sdX8_behind_14 : dz_Seg cX8_behind [(14, .iload_n 2, 1), (15, .invokevirtual 293, 3), (18, .ifCond .ne 9, 3), (21, .aload_n 0, 1), (22, .iconst 2, 1), (23, .invokevirtual 263, 3), (26, .ireturn, 1), (27, .aload_n 0, 1)] := dz_sg _ 14 (by decide +kernel)
theorem dX8_behind_14 : decode cX8_behind 14 = .ok (.iload_n 2, 1) := sdX8_behind_14.1
theorem dX8_behind_15 : decode cX8_behind 15 = .ok (.invokevirtual 293, 3) := sdX8_behind_14.2.1
theorem dX8_behind_18 : decode cX8_behind 18 = .ok (.ifCond .ne 9, 3) := sdX8_behind_14.2.2.1
theorem dX8_behind_21 : decode cX8_behind 21 = .ok (.aload_n 0, 1) := sdX8_behind_14.2.2.2.1
theorem dX8_behind_22 : decode cX8_behind 22 = .ok (.iconst 2, 1) := sdX8_behind_14.2.2.2.2.1
theorem dX8_behind_23 : decode cX8_behind 23 = .ok (.invokevirtual 263, 3) := sdX8_behind_14.2.2.2.2.2.1
theorem dX8_behind_26 : decode cX8_behind 26 = .ok (.ireturn, 1) := sdX8_behind_14.2.2.2.2.2.2.1
theorem dX8_behind_27 : decode cX8_behind 27 = .ok (.aload_n 0, 1) := sdX8_behind_14.2.2.2.2.2.2.2.1
theorem sdX8_behind_28 : dz_Seg cX8_behind [(28, .iload_n 1, 1), (29, .invokevirtual 361, 3), (32, .aload_n 0, 1), (33, .aload_n 0, 1), (34, .iload_n 2, 1), (35, .invokevirtual 382, 3), (38, .invokevirtual 272, 3), (41, .ireturn, 1)] := dz_sg _ 28 (by decide +kernel)
theorem dX8_behind_28 : decode cX8_behind 28 = .ok (.iload_n 1, 1) := sdX8_behind_28.1
theorem dX8_behind_29 : decode cX8_behind 29 = .ok (.invokevirtual 361, 3) := sdX8_behind_28.2.1
theorem dX8_behind_32 : decode cX8_behind 32 = .ok (.aload_n 0, 1) := sdX8_behind_28.2.2.1
theorem dX8_behind_33 : decode cX8_behind 33 = .ok (.aload_n 0, 1) := sdX8_behind_28.2.2.2.1
theorem dX8_behind_34 : decode cX8_behind 34 = .ok (.iload_n 2, 1) := sdX8_behind_28.2.2.2.2.1
theorem dX8_behind_35 : decode cX8_behind 35 = .ok (.invokevirtual 382, 3) := sdX8_behind_28.2.2.2.2.2.1
theorem dX8_behind_38 : decode cX8_behind 38 = .ok (.invokevirtual 272, 3) := sdX8_behind_28.2.2.2.2.2.2.1
theorem dX8_behind_41 : decode cX8_behind 41 = .ok (.ireturn, 1) := sdX8_behind_28.2.2.2.2.2.2.2.1
theorem sdX8_hasFirst_0 : dz_Seg cX8_hasFirst [(0, .aload_n 0, 1), (1, .getfield 73, 3), (4, .iload_n 1, 1), (5, .iaload, 1), (6, .iconst (-1), 1), (7, .if_icmp .eq 22, 3), (10, .aload_n 0, 1), (11, .getfield 73, 3)] := dz_sg _ 0 (by decide +kernel)
theorem dX8_hasFirst_0 : decode cX8_hasFirst 0 = .ok (.aload_n 0, 1) := sdX8_hasFirst_0.1
theorem dX8_hasFirst_1 : decode cX8_hasFirst 1 = .ok (.getfield 73, 3) := sdX8_hasFirst_0.2.1
theorem dX8_hasFirst_4 : decode cX8_hasFirst 4 = .ok (.iload_n 1, 1) := sdX8_hasFirst_0.2.2.1
theorem dX8_hasFirst_5 : decode cX8_hasFirst 5 = .ok (.iaload, 1) := sdX8_hasFirst_0.2.2.2.1
theorem dX8_hasFirst_6 : decode cX8_hasFirst 6 = .ok (.iconst (-1), 1) := sdX8_hasFirst_0.2.2.2.2.1
theorem dX8_hasFirst_7 : decode cX8_hasFirst 7 = .ok (.if_icmp .eq 22, 3) := sdX8_hasFirst_0.2.2.2.2.2.1
theorem dX8_hasFirst_10 : decode cX8_hasFirst 10 = .ok (.aload_n 0, 1) := sdX8_hasFirst_0.2.2.2.2.2.2.1
theorem dX8_hasFirst_11 : decode cX8_hasFirst 11 = .ok (.getfield 73, 3) := sdX8_hasFirst_0.2.2.2.2.2.2.2.1
theorem sdX8_hasFirst_14 : dz_Seg cX8_hasFirst [(14, .iload_n 1, 1), (15, .iaload, 1), (16, .aload_n 0, 1), (17, .iload_n 1, 1), (18, .iconst 0, 1), (19, .invokevirtual 284, 3), (22, .if_icmp .ne 7, 3), (25, .iconst 1, 1)] := dz_sg _ 14 (by decide +kernel)
theorem dX8_hasFirst_14 : decode cX8_hasFirst 14 = .ok (.iload_n 1, 1) := sdX8_hasFirst_14.1
theorem dX8_hasFirst_15 : decode cX8_hasFirst 15 = .ok (.iaload, 1) := sdX8_hasFirst_14.2.1
theorem dX8_hasFirst_16 : decode cX8_hasFirst 16 = .ok (.aload_n 0, 1) := sdX8_hasFirst_14.2.2.1
theorem dX8_hasFirst_17 : decode cX8_hasFirst 17 = .ok (.iload_n 1, 1) := sdX8_hasFirst_14.2.2.2.1
theorem dX8_hasFirst_18 : decode cX8_hasFirst 18 = .ok (.iconst 0, 1) := sdX8_hasFirst_14.2.2.2.2.1
theorem dX8_hasFirst_19 : decode cX8_hasFirst 19 = .ok (.invokevirtual 284, 3) := sdX8_hasFirst_14.2.2.2.2.2.1
theorem dX8_hasFirst_22 : decode cX8_hasFirst 22 = .ok (.if_icmp .ne 7, 3) := sdX8_hasFirst_14.2.2.2.2.2.2.1
theorem dX8_hasFirst_25 : decode cX8_hasFirst 25 = .ok (.iconst 1, 1) := sdX8_hasFirst_14.2.2.2.2.2.2.2.1
theorem sdX8_hasFirst_26 : dz_Seg cX8_hasFirst [(26, .goto 4, 3), (29, .iconst 0, 1), (30, .ireturn, 1)] := dz_sg _ 26 (by decide +kernel)
theorem dX8_hasFirst_26 : decode cX8_hasFirst 26 = .ok (.goto 4, 3) := sdX8_hasFirst_26.1
theorem dX8_hasFirst_29 : decode cX8_hasFirst 29 = .ok (.iconst 0, 1) := sdX8_hasFirst_26.2.1
theorem dX8_hasFirst_30 : decode cX8_hasFirst 30 = .ok (.ireturn, 1) := sdX8_hasFirst_26.2.2.1
theorem sdX8_lucky_0 : dz_Seg cX8_lucky [(0, .iload_n 1, 1), (1, .i2l, 1), (2, .lconst 0, 1), (3, .ldc2_w 385, 3), (6, .invokestatic 128, 3), (9, .ifCond .ne 9, 3), (12, .aload_n 0, 1), (13, .iconst 1, 1)] := dz_sg _ 0 (by decide +kernel)
theorem dX8_lucky_0 : decode cX8_lucky 0 = .ok (.iload_n 1, 1) := sdX8_lucky_0.1
theorem dX8_lucky_1 : decode cX8_lucky 1 = .ok (.i2l, 1) := sdX8_lucky_0.2.1
theorem dX8_lucky_2 : decode cX8_lucky 2 = .ok (.lconst 0, 1) := sdX8_lucky_0.2.2.1
theorem dX8_lucky_3 : decode cX8_lucky 3 = .ok (.ldc2_w 385, 3) := sdX8_lucky_0.2.2.2.1
theorem dX8_lucky_6 : decode cX8_lucky 6 = .ok (.invokestatic 128, 3) := sdX8_lucky_0.2.2.2.2.1
theorem dX8_lucky_9 : decode cX8_lucky 9 = .ok (.ifCond .ne 9, 3) := sdX8_lucky_0.2.2.2.2.2.1
theorem dX8_lucky_12 : decode cX8_lucky 12 = .ok (.aload_n 0, 1) := sdX8_lucky_0.2.2.2.2.2.2.1
theorem dX8_lucky_13 : decode cX8_lucky 13 = .ok (.iconst 1, 1) := sdX8_lucky_0.2.2.2.2.2.2.2.1
theorem sdX8_lucky_14 : dz_Seg cX8_lucky [(14, .invokevirtual 263, 3), (17, .ireturn, 1), (18, .aload_n 0, 1), (19, .iload_n 2, 1), (20, .invokevirtual 315, 3), (23, .ifCond .ne 9, 3), (26, .aload_n 0, 1), (27, .iconst 2, 1)] := dz_sg _ 14 (by decide +kernel)
theorem dX8_lucky_14 : decode cX8_lucky 14 = .ok (.invokevirtual 263, 3) := sdX8_lucky_14.1
theorem dX8_lucky_17 : decode cX8_lucky 17 = .ok (.ireturn, 1) := sdX8_lucky_14.2.1
theorem dX8_lucky_18 : decode cX8_lucky 18 = .ok (.aload_n 0, 1) := sdX8_lucky_14.2.2.1
theorem dX8_lucky_19 : decode cX8_lucky 19 = .ok (.iload_n 2, 1) := sdX8_lucky_14.2.2.2.1
theorem dX8_lucky_20 : decode cX8_lucky 20 = .ok (.invokevirtual 315, 3) := sdX8_lucky_14.2.2.2.2.1
theorem dX8_lucky_23 : decode cX8_lucky 23 = .ok (.ifCond .ne 9, 3) := sdX8_lucky_14.2.2.2.2.2.1
theorem dX8_lucky_26 : decode cX8_lucky 26 = .ok (.aload_n 0, 1) := sdX8_lucky_14.2.2.2.2.2.2.1
theorem dX8_lucky_27 : decode cX8_lucky 27 = .ok (.iconst 2, 1) := sdX8_lucky_14.2.2.2.2.2.2.2.1
theorem sdX8_lucky_28 : dz_Seg cX8_lucky [(28, .invokevirtual 263, 3), (31, .ireturn, 1), (32, .iload_n 1, 1), (33, .istore_n 3, 1), (34, .iload_n 3, 1), (35, .iload_n 1, 1), (36, .bipush 50, 2), (38, .iadd, 1)] := dz_sg _ 28 (by decide +kernel)
theorem dX8_lucky_28 : decode cX8_lucky 28 = .ok (.invokevirtual 263, 3) := sdX8_lucky_28.1
theorem dX8_lucky_31 : decode cX8_lucky 31 = .ok (.ireturn, 1) := sdX8_lucky_28.2.1
theorem dX8_lucky_32 : decode cX8_lucky 32 = .ok (.iload_n 1, 1) := sdX8_lucky_28.2.2.1
theorem dX8_lucky_33 : decode cX8_lucky 33 = .ok (.istore_n 3, 1) := sdX8_lucky_28.2.2.2.1
theorem dX8_lucky_34 : decode cX8_lucky 34 = .ok (.iload_n 3, 1) := sdX8_lucky_28.2.2.2.2.1
theorem dX8_lucky_35 : decode cX8_lucky 35 = .ok (.iload_n 1, 1) := sdX8_lucky_28.2.2.2.2.2.1
theorem dX8_lucky_36 : decode cX8_lucky 36 = .ok (.bipush 50, 2) := sdX8_lucky_28.2.2.2.2.2.2.1
theorem dX8_lucky_38 : decode cX8_lucky 38 = .ok (.iadd, 1) := sdX8_lucky_28.2.2.2.2.2.2.2.1
theorem sdX8_lucky_39 : dz_Seg cX8_lucky [(39, .if_icmp .ge 28, 3), (42, .aload_n 0, 1), (43, .iload_n 3, 1), (44, .invokevirtual 361, 3), (47, .aload_n 0, 1), (48, .iload_n 2, 1), (49, .invokevirtual 387, 3), (52, .ifCond .eq 9, 3)] := dz_sg _ 39 (by decide +kernel)
theorem dX8_lucky_39 : decode cX8_lucky 39 = .ok (.if_icmp .ge 28, 3) := sdX8_lucky_39.1
theorem dX8_lucky_42 : decode cX8_lucky 42 = .ok (.aload_n 0, 1) := sdX8_lucky_39.2.1
theorem dX8_lucky_43 : decode cX8_lucky 43 = .ok (.iload_n 3, 1) := sdX8_lucky_39.2.2.1
theorem dX8_lucky_44 : decode cX8_lucky 44 = .ok (.invokevirtual 361, 3) := sdX8_lucky_39.2.2.2.1
theorem dX8_lucky_47 : decode cX8_lucky 47 = .ok (.aload_n 0, 1) := sdX8_lucky_39.2.2.2.2.1
theorem dX8_lucky_48 : decode cX8_lucky 48 = .ok (.iload_n 2, 1) := sdX8_lucky_39.2.2.2.2.2.1
theorem dX8_lucky_49 : decode cX8_lucky 49 = .ok (.invokevirtual 387, 3) := sdX8_lucky_39.2.2.2.2.2.2.1
theorem dX8_lucky_52 : decode cX8_lucky 52 = .ok (.ifCond .eq 9, 3) := sdX8_lucky_39.2.2.2.2.2.2.2.1
theorem sdX8_lucky_55 : dz_Seg cX8_lucky [(55, .aload_n 0, 1), (56, .iload_n 3, 1), (57, .invokevirtual 272, 3), (60, .ireturn, 1), (61, .iinc 3 1, 3), (64, .goto (-30), 3), (67, .aload_n 0, 1), (68, .iconst 5, 1)] := dz_sg _ 55 (by decide +kernel)
theorem dX8_lucky_55 : decode cX8_lucky 55 = .ok (.aload_n 0, 1) := sdX8_lucky_55.1
theorem dX8_lucky_56 : decode cX8_lucky 56 = .ok (.iload_n 3, 1) := sdX8_lucky_55.2.1
theorem dX8_lucky_57 : decode cX8_lucky 57 = .ok (.invokevirtual 272, 3) := sdX8_lucky_55.2.2.1
theorem dX8_lucky_60 : decode cX8_lucky 60 = .ok (.ireturn, 1) := sdX8_lucky_55.2.2.2.1
theorem dX8_lucky_61 : decode cX8_lucky 61 = .ok (.iinc 3 1, 3) := sdX8_lucky_55.2.2.2.2.1
theorem dX8_lucky_64 : decode cX8_lucky 64 = .ok (.goto (-30), 3) := sdX8_lucky_55.2.2.2.2.2.1
theorem dX8_lucky_67 : decode cX8_lucky 67 = .ok (.aload_n 0, 1) := sdX8_lucky_55.2.2.2.2.2.2.1
theorem dX8_lucky_68 : decode cX8_lucky 68 = .ok (.iconst 5, 1) := sdX8_lucky_55.2.2.2.2.2.2.2.1
theorem sdX8_lucky_69 : dz_Seg cX8_lucky [(69, .invokevirtual 263, 3), (72, .ireturn, 1)] := dz_sg _ 69 (by decide +kernel)
theorem dX8_lucky_69 : decode cX8_lucky 69 = .ok (.invokevirtual 263, 3) := sdX8_lucky_69.1
theorem dX8_lucky_72 : decode cX8_lucky 72 = .ok (.ireturn, 1) := sdX8_lucky_69.2.1
theorem sdX8_laysAll_0 : dz_Seg cX8_laysAll [(0, .aload_n 0, 1), (1, .invokevirtual 281, 3), (4, .aload_n 0, 1), (5, .invokevirtual 390, 3), (8, .return_, 1)] := dz_sg _ 0 (by decide +kernel)
theorem dX8_laysAll_0 : decode cX8_laysAll 0 = .ok (.aload_n 0, 1) := sdX8_laysAll_0.1
theorem dX8_laysAll_1 : decode cX8_laysAll 1 = .ok (.invokevirtual 281, 3) := sdX8_laysAll_0.2.1
theorem dX8_laysAll_4 : decode cX8_laysAll 4 = .ok (.aload_n 0, 1) := sdX8_laysAll_0.2.2.1
theorem dX8_laysAll_5 : decode cX8_laysAll 5 = .ok (.invokevirtual 390, 3) := sdX8_laysAll_0.2.2.2.1
theorem dX8_laysAll_8 : decode cX8_laysAll 8 = .ok (.return_, 1) := sdX8_laysAll_0.2.2.2.2.1
theorem sdX8_allOrders_0 : dz_Seg cX8_allOrders [(0, .iconst 0, 1), (1, .istore_n 1, 1), (2, .iload_n 1, 1), (3, .bipush 35, 2), (5, .if_icmp .ge 16, 3), (8, .aload_n 0, 1), (9, .getfield 88, 3), (12, .iload_n 1, 1)] := dz_sg _ 0 (by decide +kernel)
theorem dX8_allOrders_0 : decode cX8_allOrders 0 = .ok (.iconst 0, 1) := sdX8_allOrders_0.1
theorem dX8_allOrders_1 : decode cX8_allOrders 1 = .ok (.istore_n 1, 1) := sdX8_allOrders_0.2.1
theorem dX8_allOrders_2 : decode cX8_allOrders 2 = .ok (.iload_n 1, 1) := sdX8_allOrders_0.2.2.1
theorem dX8_allOrders_3 : decode cX8_allOrders 3 = .ok (.bipush 35, 2) := sdX8_allOrders_0.2.2.2.1
theorem dX8_allOrders_5 : decode cX8_allOrders 5 = .ok (.if_icmp .ge 16, 3) := sdX8_allOrders_0.2.2.2.2.1
theorem dX8_allOrders_8 : decode cX8_allOrders 8 = .ok (.aload_n 0, 1) := sdX8_allOrders_0.2.2.2.2.2.1
theorem dX8_allOrders_9 : decode cX8_allOrders 9 = .ok (.getfield 88, 3) := sdX8_allOrders_0.2.2.2.2.2.2.1
theorem dX8_allOrders_12 : decode cX8_allOrders 12 = .ok (.iload_n 1, 1) := sdX8_allOrders_0.2.2.2.2.2.2.2.1
theorem sdX8_allOrders_13 : dz_Seg cX8_allOrders [(13, .lconst 0, 1), (14, .lastore, 1), (15, .iinc 1 1, 3), (18, .goto (-16), 3), (21, .iconst 0, 1), (22, .istore_n 1, 1), (23, .iload_n 1, 1), (24, .bipush 49, 2)] := dz_sg _ 13 (by decide +kernel)
theorem dX8_allOrders_13 : decode cX8_allOrders 13 = .ok (.lconst 0, 1) := sdX8_allOrders_13.1
theorem dX8_allOrders_14 : decode cX8_allOrders 14 = .ok (.lastore, 1) := sdX8_allOrders_13.2.1
theorem dX8_allOrders_15 : decode cX8_allOrders 15 = .ok (.iinc 1 1, 3) := sdX8_allOrders_13.2.2.1
theorem dX8_allOrders_18 : decode cX8_allOrders 18 = .ok (.goto (-16), 3) := sdX8_allOrders_13.2.2.2.1
theorem dX8_allOrders_21 : decode cX8_allOrders 21 = .ok (.iconst 0, 1) := sdX8_allOrders_13.2.2.2.2.1
theorem dX8_allOrders_22 : decode cX8_allOrders 22 = .ok (.istore_n 1, 1) := sdX8_allOrders_13.2.2.2.2.2.1
theorem dX8_allOrders_23 : decode cX8_allOrders 23 = .ok (.iload_n 1, 1) := sdX8_allOrders_13.2.2.2.2.2.2.1
theorem dX8_allOrders_24 : decode cX8_allOrders 24 = .ok (.bipush 49, 2) := sdX8_allOrders_13.2.2.2.2.2.2.2.1
theorem sdX8_allOrders_26 : dz_Seg cX8_allOrders [(26, .if_icmp .ge 16, 3), (29, .aload_n 0, 1), (30, .getfield 97, 3), (33, .iload_n 1, 1), (34, .lconst 0, 1), (35, .lastore, 1), (36, .iinc 1 1, 3), (39, .goto (-16), 3)] := dz_sg _ 26 (by decide +kernel)
theorem dX8_allOrders_26 : decode cX8_allOrders 26 = .ok (.if_icmp .ge 16, 3) := sdX8_allOrders_26.1
theorem dX8_allOrders_29 : decode cX8_allOrders 29 = .ok (.aload_n 0, 1) := sdX8_allOrders_26.2.1
theorem dX8_allOrders_30 : decode cX8_allOrders 30 = .ok (.getfield 97, 3) := sdX8_allOrders_26.2.2.1
theorem dX8_allOrders_33 : decode cX8_allOrders 33 = .ok (.iload_n 1, 1) := sdX8_allOrders_26.2.2.2.1
theorem dX8_allOrders_34 : decode cX8_allOrders 34 = .ok (.lconst 0, 1) := sdX8_allOrders_26.2.2.2.2.1
theorem dX8_allOrders_35 : decode cX8_allOrders 35 = .ok (.lastore, 1) := sdX8_allOrders_26.2.2.2.2.2.1
theorem dX8_allOrders_36 : decode cX8_allOrders 36 = .ok (.iinc 1 1, 3) := sdX8_allOrders_26.2.2.2.2.2.2.1
theorem dX8_allOrders_39 : decode cX8_allOrders 39 = .ok (.goto (-16), 3) := sdX8_allOrders_26.2.2.2.2.2.2.2.1
theorem sdX8_allOrders_42 : dz_Seg cX8_allOrders [(42, .iconst 0, 1), (43, .istore_n 1, 1), (44, .iload_n 1, 1), (45, .bipush 7, 2), (47, .if_icmp .ge 23, 3), (50, .aload_n 0, 1), (51, .getfield 91, 3), (54, .iload_n 1, 1)] := dz_sg _ 42 (by decide +kernel)
theorem dX8_allOrders_42 : decode cX8_allOrders 42 = .ok (.iconst 0, 1) := sdX8_allOrders_42.1
theorem dX8_allOrders_43 : decode cX8_allOrders 43 = .ok (.istore_n 1, 1) := sdX8_allOrders_42.2.1
theorem dX8_allOrders_44 : decode cX8_allOrders 44 = .ok (.iload_n 1, 1) := sdX8_allOrders_42.2.2.1
theorem dX8_allOrders_45 : decode cX8_allOrders 45 = .ok (.bipush 7, 2) := sdX8_allOrders_42.2.2.2.1
theorem dX8_allOrders_47 : decode cX8_allOrders 47 = .ok (.if_icmp .ge 23, 3) := sdX8_allOrders_42.2.2.2.2.1
theorem dX8_allOrders_50 : decode cX8_allOrders 50 = .ok (.aload_n 0, 1) := sdX8_allOrders_42.2.2.2.2.2.1
theorem dX8_allOrders_51 : decode cX8_allOrders 51 = .ok (.getfield 91, 3) := sdX8_allOrders_42.2.2.2.2.2.2.1
theorem dX8_allOrders_54 : decode cX8_allOrders 54 = .ok (.iload_n 1, 1) := sdX8_allOrders_42.2.2.2.2.2.2.2.1
theorem sdX8_allOrders_55 : dz_Seg cX8_allOrders [(55, .lconst 0, 1), (56, .lastore, 1), (57, .aload_n 0, 1), (58, .getfield 94, 3), (61, .iload_n 1, 1), (62, .lconst 0, 1), (63, .lastore, 1), (64, .iinc 1 1, 3)] := dz_sg _ 55 (by decide +kernel)
theorem dX8_allOrders_55 : decode cX8_allOrders 55 = .ok (.lconst 0, 1) := sdX8_allOrders_55.1
theorem dX8_allOrders_56 : decode cX8_allOrders 56 = .ok (.lastore, 1) := sdX8_allOrders_55.2.1
theorem dX8_allOrders_57 : decode cX8_allOrders 57 = .ok (.aload_n 0, 1) := sdX8_allOrders_55.2.2.1
theorem dX8_allOrders_58 : decode cX8_allOrders 58 = .ok (.getfield 94, 3) := sdX8_allOrders_55.2.2.2.1
theorem dX8_allOrders_61 : decode cX8_allOrders 61 = .ok (.iload_n 1, 1) := sdX8_allOrders_55.2.2.2.2.1
theorem dX8_allOrders_62 : decode cX8_allOrders 62 = .ok (.lconst 0, 1) := sdX8_allOrders_55.2.2.2.2.2.1
theorem dX8_allOrders_63 : decode cX8_allOrders 63 = .ok (.lastore, 1) := sdX8_allOrders_55.2.2.2.2.2.2.1
theorem dX8_allOrders_64 : decode cX8_allOrders 64 = .ok (.iinc 1 1, 3) := sdX8_allOrders_55.2.2.2.2.2.2.2.1
theorem sdX8_allOrders_67 : dz_Seg cX8_allOrders [(67, .goto (-23), 3), (70, .iconst 0, 1), (71, .istore_n 1, 1), (72, .iload_n 1, 1), (73, .iconst 5, 1), (74, .if_icmp .ge 16, 3), (77, .aload_n 0, 1), (78, .getfield 100, 3)] := dz_sg _ 67 (by decide +kernel)
theorem dX8_allOrders_67 : decode cX8_allOrders 67 = .ok (.goto (-23), 3) := sdX8_allOrders_67.1
theorem dX8_allOrders_70 : decode cX8_allOrders 70 = .ok (.iconst 0, 1) := sdX8_allOrders_67.2.1
theorem dX8_allOrders_71 : decode cX8_allOrders 71 = .ok (.istore_n 1, 1) := sdX8_allOrders_67.2.2.1
theorem dX8_allOrders_72 : decode cX8_allOrders 72 = .ok (.iload_n 1, 1) := sdX8_allOrders_67.2.2.2.1
theorem dX8_allOrders_73 : decode cX8_allOrders 73 = .ok (.iconst 5, 1) := sdX8_allOrders_67.2.2.2.2.1
theorem dX8_allOrders_74 : decode cX8_allOrders 74 = .ok (.if_icmp .ge 16, 3) := sdX8_allOrders_67.2.2.2.2.2.1
theorem dX8_allOrders_77 : decode cX8_allOrders 77 = .ok (.aload_n 0, 1) := sdX8_allOrders_67.2.2.2.2.2.2.1
theorem dX8_allOrders_78 : decode cX8_allOrders 78 = .ok (.getfield 100, 3) := sdX8_allOrders_67.2.2.2.2.2.2.2.1
theorem sdX8_allOrders_81 : dz_Seg cX8_allOrders [(81, .iload_n 1, 1), (82, .lconst 0, 1), (83, .lastore, 1), (84, .iinc 1 1, 3), (87, .goto (-15), 3), (90, .iconst 0, 1), (91, .istore_n 1, 1), (92, .iload_n 1, 1)] := dz_sg _ 81 (by decide +kernel)
theorem dX8_allOrders_81 : decode cX8_allOrders 81 = .ok (.iload_n 1, 1) := sdX8_allOrders_81.1
theorem dX8_allOrders_82 : decode cX8_allOrders 82 = .ok (.lconst 0, 1) := sdX8_allOrders_81.2.1
theorem dX8_allOrders_83 : decode cX8_allOrders 83 = .ok (.lastore, 1) := sdX8_allOrders_81.2.2.1
theorem dX8_allOrders_84 : decode cX8_allOrders 84 = .ok (.iinc 1 1, 3) := sdX8_allOrders_81.2.2.2.1
theorem dX8_allOrders_87 : decode cX8_allOrders 87 = .ok (.goto (-15), 3) := sdX8_allOrders_81.2.2.2.2.1
theorem dX8_allOrders_90 : decode cX8_allOrders 90 = .ok (.iconst 0, 1) := sdX8_allOrders_81.2.2.2.2.2.1
theorem dX8_allOrders_91 : decode cX8_allOrders 91 = .ok (.istore_n 1, 1) := sdX8_allOrders_81.2.2.2.2.2.2.1
theorem dX8_allOrders_92 : decode cX8_allOrders 92 = .ok (.iload_n 1, 1) := sdX8_allOrders_81.2.2.2.2.2.2.2.1
theorem sdX8_allOrders_93 : dz_Seg cX8_allOrders [(93, .sipush 128, 3), (96, .if_icmp .ge 16, 3), (99, .aload_n 0, 1), (100, .getfield 103, 3), (103, .iload_n 1, 1), (104, .iconst 0, 1), (105, .bastore, 1), (106, .iinc 1 1, 3)] := dz_sg _ 93 (by decide +kernel)
theorem dX8_allOrders_93 : decode cX8_allOrders 93 = .ok (.sipush 128, 3) := sdX8_allOrders_93.1
theorem dX8_allOrders_96 : decode cX8_allOrders 96 = .ok (.if_icmp .ge 16, 3) := sdX8_allOrders_93.2.1
theorem dX8_allOrders_99 : decode cX8_allOrders 99 = .ok (.aload_n 0, 1) := sdX8_allOrders_93.2.2.1
theorem dX8_allOrders_100 : decode cX8_allOrders 100 = .ok (.getfield 103, 3) := sdX8_allOrders_93.2.2.2.1
theorem dX8_allOrders_103 : decode cX8_allOrders 103 = .ok (.iload_n 1, 1) := sdX8_allOrders_93.2.2.2.2.1
theorem dX8_allOrders_104 : decode cX8_allOrders 104 = .ok (.iconst 0, 1) := sdX8_allOrders_93.2.2.2.2.2.1
theorem dX8_allOrders_105 : decode cX8_allOrders 105 = .ok (.bastore, 1) := sdX8_allOrders_93.2.2.2.2.2.2.1
theorem dX8_allOrders_106 : decode cX8_allOrders 106 = .ok (.iinc 1 1, 3) := sdX8_allOrders_93.2.2.2.2.2.2.2.1
theorem sdX8_allOrders_109 : dz_Seg cX8_allOrders [(109, .goto (-17), 3), (112, .aload_n 0, 1), (113, .lconst 0, 1), (114, .putfield 393, 3), (117, .aload_n 0, 1), (118, .iconst 1, 1), (119, .aload_n 0, 1), (120, .getfield 275, 3)] := dz_sg _ 109 (by decide +kernel)
theorem dX8_allOrders_109 : decode cX8_allOrders 109 = .ok (.goto (-17), 3) := sdX8_allOrders_109.1
theorem dX8_allOrders_112 : decode cX8_allOrders 112 = .ok (.aload_n 0, 1) := sdX8_allOrders_109.2.1
theorem dX8_allOrders_113 : decode cX8_allOrders 113 = .ok (.lconst 0, 1) := sdX8_allOrders_109.2.2.1
theorem dX8_allOrders_114 : decode cX8_allOrders 114 = .ok (.putfield 393, 3) := sdX8_allOrders_109.2.2.2.1
theorem dX8_allOrders_117 : decode cX8_allOrders 117 = .ok (.aload_n 0, 1) := sdX8_allOrders_109.2.2.2.2.1
theorem dX8_allOrders_118 : decode cX8_allOrders 118 = .ok (.iconst 1, 1) := sdX8_allOrders_109.2.2.2.2.2.1
theorem dX8_allOrders_119 : decode cX8_allOrders 119 = .ok (.aload_n 0, 1) := sdX8_allOrders_109.2.2.2.2.2.2.1
theorem dX8_allOrders_120 : decode cX8_allOrders 120 = .ok (.getfield 275, 3) := sdX8_allOrders_109.2.2.2.2.2.2.2.1
theorem sdX8_allOrders_123 : dz_Seg cX8_allOrders [(123, .ishl, 1), (124, .iconst 1, 1), (125, .isub, 1), (126, .putfield 396, 3), (129, .aload_n 0, 1), (130, .iconst 0, 1), (131, .putfield 399, 3), (134, .aload_n 0, 1)] := dz_sg _ 123 (by decide +kernel)
theorem dX8_allOrders_123 : decode cX8_allOrders 123 = .ok (.ishl, 1) := sdX8_allOrders_123.1
theorem dX8_allOrders_124 : decode cX8_allOrders 124 = .ok (.iconst 1, 1) := sdX8_allOrders_123.2.1
theorem dX8_allOrders_125 : decode cX8_allOrders 125 = .ok (.isub, 1) := sdX8_allOrders_123.2.2.1
theorem dX8_allOrders_126 : decode cX8_allOrders 126 = .ok (.putfield 396, 3) := sdX8_allOrders_123.2.2.2.1
theorem dX8_allOrders_129 : decode cX8_allOrders 129 = .ok (.aload_n 0, 1) := sdX8_allOrders_123.2.2.2.2.1
theorem dX8_allOrders_130 : decode cX8_allOrders 130 = .ok (.iconst 0, 1) := sdX8_allOrders_123.2.2.2.2.2.1
theorem dX8_allOrders_131 : decode cX8_allOrders 131 = .ok (.putfield 399, 3) := sdX8_allOrders_123.2.2.2.2.2.2.1
theorem dX8_allOrders_134 : decode cX8_allOrders 134 = .ok (.aload_n 0, 1) := sdX8_allOrders_123.2.2.2.2.2.2.2.1
theorem sdX8_allOrders_135 : dz_Seg cX8_allOrders [(135, .sipush 1000, 3), (138, .putfield 402, 3), (141, .aload_n 0, 1), (142, .iconst 0, 1), (143, .putfield 405, 3), (146, .aload_n 0, 1), (147, .iconst 0, 1), (148, .iconst 0, 1)] := dz_sg _ 135 (by decide +kernel)
theorem dX8_allOrders_135 : decode cX8_allOrders 135 = .ok (.sipush 1000, 3) := sdX8_allOrders_135.1
theorem dX8_allOrders_138 : decode cX8_allOrders 138 = .ok (.putfield 402, 3) := sdX8_allOrders_135.2.1
theorem dX8_allOrders_141 : decode cX8_allOrders 141 = .ok (.aload_n 0, 1) := sdX8_allOrders_135.2.2.1
theorem dX8_allOrders_142 : decode cX8_allOrders 142 = .ok (.iconst 0, 1) := sdX8_allOrders_135.2.2.2.1
theorem dX8_allOrders_143 : decode cX8_allOrders 143 = .ok (.putfield 405, 3) := sdX8_allOrders_135.2.2.2.2.1
theorem dX8_allOrders_146 : decode cX8_allOrders 146 = .ok (.aload_n 0, 1) := sdX8_allOrders_135.2.2.2.2.2.1
theorem dX8_allOrders_147 : decode cX8_allOrders 147 = .ok (.iconst 0, 1) := sdX8_allOrders_135.2.2.2.2.2.2.1
theorem dX8_allOrders_148 : decode cX8_allOrders 148 = .ok (.iconst 0, 1) := sdX8_allOrders_135.2.2.2.2.2.2.2.1
theorem sdX8_allOrders_149 : dz_Seg cX8_allOrders [(149, .ldc2_w 408, 3), (152, .invokevirtual 410, 3), (155, .return_, 1)] := dz_sg _ 149 (by decide +kernel)
theorem dX8_allOrders_149 : decode cX8_allOrders 149 = .ok (.ldc2_w 408, 3) := sdX8_allOrders_149.1
theorem dX8_allOrders_152 : decode cX8_allOrders 152 = .ok (.invokevirtual 410, 3) := sdX8_allOrders_149.2.1
theorem dX8_allOrders_155 : decode cX8_allOrders 155 = .ok (.return_, 1) := sdX8_allOrders_149.2.2.1
theorem sdX8_goesOn_0 : dz_Seg cX8_goesOn [(0, .iload_n 1, 1), (1, .aload_n 0, 1), (2, .getfield 275, 3), (5, .if_icmp .ne 14, 3), (8, .aload_n 0, 1), (9, .iconst (-1), 1), (10, .invokevirtual 355, 3), (13, .aload_n 0, 1)] := dz_sg _ 0 (by decide +kernel)
theorem dX8_goesOn_0 : decode cX8_goesOn 0 = .ok (.iload_n 1, 1) := sdX8_goesOn_0.1
theorem dX8_goesOn_1 : decode cX8_goesOn 1 = .ok (.aload_n 0, 1) := sdX8_goesOn_0.2.1
theorem dX8_goesOn_2 : decode cX8_goesOn 2 = .ok (.getfield 275, 3) := sdX8_goesOn_0.2.2.1
theorem dX8_goesOn_5 : decode cX8_goesOn 5 = .ok (.if_icmp .ne 14, 3) := sdX8_goesOn_0.2.2.2.1
theorem dX8_goesOn_8 : decode cX8_goesOn 8 = .ok (.aload_n 0, 1) := sdX8_goesOn_0.2.2.2.2.1
theorem dX8_goesOn_9 : decode cX8_goesOn 9 = .ok (.iconst (-1), 1) := sdX8_goesOn_0.2.2.2.2.2.1
theorem dX8_goesOn_10 : decode cX8_goesOn 10 = .ok (.invokevirtual 355, 3) := sdX8_goesOn_0.2.2.2.2.2.2.1
theorem dX8_goesOn_13 : decode cX8_goesOn 13 = .ok (.aload_n 0, 1) := sdX8_goesOn_0.2.2.2.2.2.2.2.1
theorem sdX8_goesOn_14 : dz_Seg cX8_goesOn [(14, .lload_n 3, 1), (15, .invokevirtual 414, 3), (18, .return_, 1), (19, .lconst 0, 1), (20, .lstore 5, 2), (22, .iconst 0, 1), (23, .istore 7, 2), (25, .iload 7, 2)] := dz_sg _ 14 (by decide +kernel)
theorem dX8_goesOn_14 : decode cX8_goesOn 14 = .ok (.lload_n 3, 1) := sdX8_goesOn_14.1
theorem dX8_goesOn_15 : decode cX8_goesOn 15 = .ok (.invokevirtual 414, 3) := sdX8_goesOn_14.2.1
theorem dX8_goesOn_18 : decode cX8_goesOn 18 = .ok (.return_, 1) := sdX8_goesOn_14.2.2.1
theorem dX8_goesOn_19 : decode cX8_goesOn 19 = .ok (.lconst 0, 1) := sdX8_goesOn_14.2.2.2.1
theorem dX8_goesOn_20 : decode cX8_goesOn 20 = .ok (.lstore 5, 2) := sdX8_goesOn_14.2.2.2.2.1
theorem dX8_goesOn_22 : decode cX8_goesOn 22 = .ok (.iconst 0, 1) := sdX8_goesOn_14.2.2.2.2.2.1
theorem dX8_goesOn_23 : decode cX8_goesOn 23 = .ok (.istore 7, 2) := sdX8_goesOn_14.2.2.2.2.2.2.1
theorem dX8_goesOn_25 : decode cX8_goesOn 25 = .ok (.iload 7, 2) := sdX8_goesOn_14.2.2.2.2.2.2.2.1
theorem sdX8_goesOn_27 : dz_Seg cX8_goesOn [(27, .aload_n 0, 1), (28, .getfield 275, 3), (31, .if_icmp .ge 35, 3), (34, .lload 5, 2), (36, .iload_n 2, 1), (37, .iload 7, 2), (39, .invokestatic 240, 3), (42, .ifCond .eq 7, 3)] := dz_sg _ 27 (by decide +kernel)
theorem dX8_goesOn_27 : decode cX8_goesOn 27 = .ok (.aload_n 0, 1) := sdX8_goesOn_27.1
theorem dX8_goesOn_28 : decode cX8_goesOn 28 = .ok (.getfield 275, 3) := sdX8_goesOn_27.2.1
theorem dX8_goesOn_31 : decode cX8_goesOn 31 = .ok (.if_icmp .ge 35, 3) := sdX8_goesOn_27.2.2.1
theorem dX8_goesOn_34 : decode cX8_goesOn 34 = .ok (.lload 5, 2) := sdX8_goesOn_27.2.2.2.1
theorem dX8_goesOn_36 : decode cX8_goesOn 36 = .ok (.iload_n 2, 1) := sdX8_goesOn_27.2.2.2.2.1
theorem dX8_goesOn_37 : decode cX8_goesOn 37 = .ok (.iload 7, 2) := sdX8_goesOn_27.2.2.2.2.2.1
theorem dX8_goesOn_39 : decode cX8_goesOn 39 = .ok (.invokestatic 240, 3) := sdX8_goesOn_27.2.2.2.2.2.2.1
theorem dX8_goesOn_42 : decode cX8_goesOn 42 = .ok (.ifCond .eq 7, 3) := sdX8_goesOn_27.2.2.2.2.2.2.2.1
theorem sdX8_goesOn_45 : dz_Seg cX8_goesOn [(45, .lconst 0, 1), (46, .goto 11, 3), (49, .aload_n 0, 1), (50, .getfield 67, 3), (53, .iload 7, 2), (55, .iaload, 1), (56, .i2l, 1), (57, .ladd, 1)] := dz_sg _ 45 (by decide +kernel)
theorem dX8_goesOn_45 : decode cX8_goesOn 45 = .ok (.lconst 0, 1) := sdX8_goesOn_45.1
theorem dX8_goesOn_46 : decode cX8_goesOn 46 = .ok (.goto 11, 3) := sdX8_goesOn_45.2.1
theorem dX8_goesOn_49 : decode cX8_goesOn 49 = .ok (.aload_n 0, 1) := sdX8_goesOn_45.2.2.1
theorem dX8_goesOn_50 : decode cX8_goesOn 50 = .ok (.getfield 67, 3) := sdX8_goesOn_45.2.2.2.1
theorem dX8_goesOn_53 : decode cX8_goesOn 53 = .ok (.iload 7, 2) := sdX8_goesOn_45.2.2.2.2.1
theorem dX8_goesOn_55 : decode cX8_goesOn 55 = .ok (.iaload, 1) := sdX8_goesOn_45.2.2.2.2.2.1
theorem dX8_goesOn_56 : decode cX8_goesOn 56 = .ok (.i2l, 1) := sdX8_goesOn_45.2.2.2.2.2.2.1
theorem dX8_goesOn_57 : decode cX8_goesOn 57 = .ok (.ladd, 1) := sdX8_goesOn_45.2.2.2.2.2.2.2.1
theorem sdX8_goesOn_58 : dz_Seg cX8_goesOn [(58, .lstore 5, 2), (60, .iinc 7 1, 3), (63, .goto (-38), 3), (66, .iconst 0, 1), (67, .istore 7, 2), (69, .iload 7, 2), (71, .aload_n 0, 1), (72, .getfield 275, 3)] := dz_sg _ 58 (by decide +kernel)
theorem dX8_goesOn_58 : decode cX8_goesOn 58 = .ok (.lstore 5, 2) := sdX8_goesOn_58.1
theorem dX8_goesOn_60 : decode cX8_goesOn 60 = .ok (.iinc 7 1, 3) := sdX8_goesOn_58.2.1
theorem dX8_goesOn_63 : decode cX8_goesOn 63 = .ok (.goto (-38), 3) := sdX8_goesOn_58.2.2.1
theorem dX8_goesOn_66 : decode cX8_goesOn 66 = .ok (.iconst 0, 1) := sdX8_goesOn_58.2.2.2.1
theorem dX8_goesOn_67 : decode cX8_goesOn 67 = .ok (.istore 7, 2) := sdX8_goesOn_58.2.2.2.2.1
theorem dX8_goesOn_69 : decode cX8_goesOn 69 = .ok (.iload 7, 2) := sdX8_goesOn_58.2.2.2.2.2.1
theorem dX8_goesOn_71 : decode cX8_goesOn 71 = .ok (.aload_n 0, 1) := sdX8_goesOn_58.2.2.2.2.2.2.1
theorem dX8_goesOn_72 : decode cX8_goesOn 72 = .ok (.getfield 275, 3) := sdX8_goesOn_58.2.2.2.2.2.2.2.1
theorem sdX8_goesOn_75 : dz_Seg cX8_goesOn [(75, .if_icmp .ge 55, 3), (78, .iload_n 2, 1), (79, .iload 7, 2), (81, .invokestatic 240, 3), (84, .ifCond .eq 6, 3), (87, .goto 37, 3), (90, .aload_n 0, 1), (91, .getfield 70, 3)] := dz_sg _ 75 (by decide +kernel)
theorem dX8_goesOn_75 : decode cX8_goesOn 75 = .ok (.if_icmp .ge 55, 3) := sdX8_goesOn_75.1
theorem dX8_goesOn_78 : decode cX8_goesOn 78 = .ok (.iload_n 2, 1) := sdX8_goesOn_75.2.1
theorem dX8_goesOn_79 : decode cX8_goesOn 79 = .ok (.iload 7, 2) := sdX8_goesOn_75.2.2.1
theorem dX8_goesOn_81 : decode cX8_goesOn 81 = .ok (.invokestatic 240, 3) := sdX8_goesOn_75.2.2.2.1
theorem dX8_goesOn_84 : decode cX8_goesOn 84 = .ok (.ifCond .eq 6, 3) := sdX8_goesOn_75.2.2.2.2.1
theorem dX8_goesOn_87 : decode cX8_goesOn 87 = .ok (.goto 37, 3) := sdX8_goesOn_75.2.2.2.2.2.1
theorem dX8_goesOn_90 : decode cX8_goesOn 90 = .ok (.aload_n 0, 1) := sdX8_goesOn_75.2.2.2.2.2.2.1
theorem dX8_goesOn_91 : decode cX8_goesOn 91 = .ok (.getfield 70, 3) := sdX8_goesOn_75.2.2.2.2.2.2.2.1
theorem sdX8_goesOn_94 : dz_Seg cX8_goesOn [(94, .iload_n 1, 1), (95, .iload 7, 2), (97, .iastore, 1), (98, .aload_n 0, 1), (99, .iload_n 1, 1), (100, .iconst 1, 1), (101, .iadd, 1), (102, .iload_n 2, 1)] := dz_sg _ 94 (by decide +kernel)
theorem dX8_goesOn_94 : decode cX8_goesOn 94 = .ok (.iload_n 1, 1) := sdX8_goesOn_94.1
theorem dX8_goesOn_95 : decode cX8_goesOn 95 = .ok (.iload 7, 2) := sdX8_goesOn_94.2.1
theorem dX8_goesOn_97 : decode cX8_goesOn 97 = .ok (.iastore, 1) := sdX8_goesOn_94.2.2.1
theorem dX8_goesOn_98 : decode cX8_goesOn 98 = .ok (.aload_n 0, 1) := sdX8_goesOn_94.2.2.2.1
theorem dX8_goesOn_99 : decode cX8_goesOn 99 = .ok (.iload_n 1, 1) := sdX8_goesOn_94.2.2.2.2.1
theorem dX8_goesOn_100 : decode cX8_goesOn 100 = .ok (.iconst 1, 1) := sdX8_goesOn_94.2.2.2.2.2.1
theorem dX8_goesOn_101 : decode cX8_goesOn 101 = .ok (.iadd, 1) := sdX8_goesOn_94.2.2.2.2.2.2.1
theorem dX8_goesOn_102 : decode cX8_goesOn 102 = .ok (.iload_n 2, 1) := sdX8_goesOn_94.2.2.2.2.2.2.2.1
theorem sdX8_goesOn_103 : dz_Seg cX8_goesOn [(103, .iconst 1, 1), (104, .iload 7, 2), (106, .ishl, 1), (107, .ior, 1), (108, .lload_n 3, 1), (109, .aload_n 0, 1), (110, .getfield 67, 3), (113, .iload 7, 2)] := dz_sg _ 103 (by decide +kernel)
theorem dX8_goesOn_103 : decode cX8_goesOn 103 = .ok (.iconst 1, 1) := sdX8_goesOn_103.1
theorem dX8_goesOn_104 : decode cX8_goesOn 104 = .ok (.iload 7, 2) := sdX8_goesOn_103.2.1
theorem dX8_goesOn_106 : decode cX8_goesOn 106 = .ok (.ishl, 1) := sdX8_goesOn_103.2.2.1
theorem dX8_goesOn_107 : decode cX8_goesOn 107 = .ok (.ior, 1) := sdX8_goesOn_103.2.2.2.1
theorem dX8_goesOn_108 : decode cX8_goesOn 108 = .ok (.lload_n 3, 1) := sdX8_goesOn_103.2.2.2.2.1
theorem dX8_goesOn_109 : decode cX8_goesOn 109 = .ok (.aload_n 0, 1) := sdX8_goesOn_103.2.2.2.2.2.1
theorem dX8_goesOn_110 : decode cX8_goesOn 110 = .ok (.getfield 67, 3) := sdX8_goesOn_103.2.2.2.2.2.2.1
theorem dX8_goesOn_113 : decode cX8_goesOn 113 = .ok (.iload 7, 2) := sdX8_goesOn_103.2.2.2.2.2.2.2.1
theorem sdX8_goesOn_115 : dz_Seg cX8_goesOn [(115, .iaload, 1), (116, .i2l, 1), (117, .lmul, 1), (118, .lload 5, 2), (120, .ldiv, 1), (121, .invokevirtual 410, 3), (124, .iinc 7 1, 3), (127, .goto (-58), 3)] := dz_sg _ 115 (by decide +kernel)
theorem dX8_goesOn_115 : decode cX8_goesOn 115 = .ok (.iaload, 1) := sdX8_goesOn_115.1
theorem dX8_goesOn_116 : decode cX8_goesOn 116 = .ok (.i2l, 1) := sdX8_goesOn_115.2.1
theorem dX8_goesOn_117 : decode cX8_goesOn 117 = .ok (.lmul, 1) := sdX8_goesOn_115.2.2.1
theorem dX8_goesOn_118 : decode cX8_goesOn 118 = .ok (.lload 5, 2) := sdX8_goesOn_115.2.2.2.1
theorem dX8_goesOn_120 : decode cX8_goesOn 120 = .ok (.ldiv, 1) := sdX8_goesOn_115.2.2.2.2.1
theorem dX8_goesOn_121 : decode cX8_goesOn 121 = .ok (.invokevirtual 410, 3) := sdX8_goesOn_115.2.2.2.2.2.1
theorem dX8_goesOn_124 : decode cX8_goesOn 124 = .ok (.iinc 7 1, 3) := sdX8_goesOn_115.2.2.2.2.2.2.1
theorem dX8_goesOn_127 : decode cX8_goesOn 127 = .ok (.goto (-58), 3) := sdX8_goesOn_115.2.2.2.2.2.2.2.1
theorem sdX8_goesOn_130 : dz_Seg cX8_goesOn [(130, .return_, 1)] := dz_sg _ 130 (by decide +kernel)
theorem dX8_goesOn_130 : decode cX8_goesOn 130 = .ok (.return_, 1) := sdX8_goesOn_130.1
theorem sdX8_adds_0 : dz_Seg cX8_adds [(0, .iconst 0, 1), (1, .istore_n 3, 1), (2, .iconst 0, 1), (3, .istore 4, 2), (5, .iload 4, 2), (7, .aload_n 0, 1), (8, .getfield 275, 3), (11, .if_icmp .ge 176, 3)] := dz_sg _ 0 (by decide +kernel)
theorem dX8_adds_0 : decode cX8_adds 0 = .ok (.iconst 0, 1) := sdX8_adds_0.1
theorem dX8_adds_1 : decode cX8_adds 1 = .ok (.istore_n 3, 1) := sdX8_adds_0.2.1
theorem dX8_adds_2 : decode cX8_adds 2 = .ok (.iconst 0, 1) := sdX8_adds_0.2.2.1
theorem dX8_adds_3 : decode cX8_adds 3 = .ok (.istore 4, 2) := sdX8_adds_0.2.2.2.1
theorem dX8_adds_5 : decode cX8_adds 5 = .ok (.iload 4, 2) := sdX8_adds_0.2.2.2.2.1
theorem dX8_adds_7 : decode cX8_adds 7 = .ok (.aload_n 0, 1) := sdX8_adds_0.2.2.2.2.2.1
theorem dX8_adds_8 : decode cX8_adds 8 = .ok (.getfield 275, 3) := sdX8_adds_0.2.2.2.2.2.2.1
theorem dX8_adds_11 : decode cX8_adds 11 = .ok (.if_icmp .ge 176, 3) := sdX8_adds_0.2.2.2.2.2.2.2.1
theorem sdX8_adds_14 : dz_Seg cX8_adds [(14, .aload_n 0, 1), (15, .getfield 73, 3), (18, .iload 4, 2), (20, .iaload, 1), (21, .iconst (-1), 1), (22, .if_icmp .ne 6, 3), (25, .goto 156, 3), (28, .iload_n 3, 1)] := dz_sg _ 14 (by decide +kernel)
theorem dX8_adds_14 : decode cX8_adds 14 = .ok (.aload_n 0, 1) := sdX8_adds_14.1
theorem dX8_adds_15 : decode cX8_adds 15 = .ok (.getfield 73, 3) := sdX8_adds_14.2.1
theorem dX8_adds_18 : decode cX8_adds 18 = .ok (.iload 4, 2) := sdX8_adds_14.2.2.1
theorem dX8_adds_20 : decode cX8_adds 20 = .ok (.iaload, 1) := sdX8_adds_14.2.2.2.1
theorem dX8_adds_21 : decode cX8_adds 21 = .ok (.iconst (-1), 1) := sdX8_adds_14.2.2.2.2.1
theorem dX8_adds_22 : decode cX8_adds 22 = .ok (.if_icmp .ne 6, 3) := sdX8_adds_14.2.2.2.2.2.1
theorem dX8_adds_25 : decode cX8_adds 25 = .ok (.goto 156, 3) := sdX8_adds_14.2.2.2.2.2.2.1
theorem dX8_adds_28 : decode cX8_adds 28 = .ok (.iload_n 3, 1) := sdX8_adds_14.2.2.2.2.2.2.2.1
theorem sdX8_adds_29 : dz_Seg cX8_adds [(29, .iconst 1, 1), (30, .iload 4, 2), (32, .ishl, 1), (33, .ior, 1), (34, .istore_n 3, 1), (35, .aload_n 0, 1), (36, .getfield 88, 3), (39, .iconst 5, 1)] := dz_sg _ 29 (by decide +kernel)
theorem dX8_adds_29 : decode cX8_adds 29 = .ok (.iconst 1, 1) := sdX8_adds_29.1
theorem dX8_adds_30 : decode cX8_adds 30 = .ok (.iload 4, 2) := sdX8_adds_29.2.1
theorem dX8_adds_32 : decode cX8_adds 32 = .ok (.ishl, 1) := sdX8_adds_29.2.2.1
theorem dX8_adds_33 : decode cX8_adds 33 = .ok (.ior, 1) := sdX8_adds_29.2.2.2.1
theorem dX8_adds_34 : decode cX8_adds 34 = .ok (.istore_n 3, 1) := sdX8_adds_29.2.2.2.2.1
theorem dX8_adds_35 : decode cX8_adds 35 = .ok (.aload_n 0, 1) := sdX8_adds_29.2.2.2.2.2.1
theorem dX8_adds_36 : decode cX8_adds 36 = .ok (.getfield 88, 3) := sdX8_adds_29.2.2.2.2.2.2.1
theorem dX8_adds_39 : decode cX8_adds 39 = .ok (.iconst 5, 1) := sdX8_adds_29.2.2.2.2.2.2.2.1
theorem sdX8_adds_40 : dz_Seg cX8_adds [(40, .iload 4, 2), (42, .imul, 1), (43, .aload_n 0, 1), (44, .getfield 73, 3), (47, .iload 4, 2), (49, .iaload, 1), (50, .iadd, 1), (51, .dup2, 1)] := dz_sg _ 40 (by decide +kernel)
theorem dX8_adds_40 : decode cX8_adds 40 = .ok (.iload 4, 2) := sdX8_adds_40.1
theorem dX8_adds_42 : decode cX8_adds 42 = .ok (.imul, 1) := sdX8_adds_40.2.1
theorem dX8_adds_43 : decode cX8_adds 43 = .ok (.aload_n 0, 1) := sdX8_adds_40.2.2.1
theorem dX8_adds_44 : decode cX8_adds 44 = .ok (.getfield 73, 3) := sdX8_adds_40.2.2.2.1
theorem dX8_adds_47 : decode cX8_adds 47 = .ok (.iload 4, 2) := sdX8_adds_40.2.2.2.2.1
theorem dX8_adds_49 : decode cX8_adds 49 = .ok (.iaload, 1) := sdX8_adds_40.2.2.2.2.2.1
theorem dX8_adds_50 : decode cX8_adds 50 = .ok (.iadd, 1) := sdX8_adds_40.2.2.2.2.2.2.1
theorem dX8_adds_51 : decode cX8_adds 51 = .ok (.dup2, 1) := sdX8_adds_40.2.2.2.2.2.2.2.1
theorem sdX8_adds_52 : dz_Seg cX8_adds [(52, .laload, 1), (53, .lload_n 1, 1), (54, .ladd, 1), (55, .lastore, 1), (56, .aload_n 0, 1), (57, .getfield 91, 3), (60, .iload 4, 2), (62, .dup2, 1)] := dz_sg _ 52 (by decide +kernel)
theorem dX8_adds_52 : decode cX8_adds 52 = .ok (.laload, 1) := sdX8_adds_52.1
theorem dX8_adds_53 : decode cX8_adds 53 = .ok (.lload_n 1, 1) := sdX8_adds_52.2.1
theorem dX8_adds_54 : decode cX8_adds 54 = .ok (.ladd, 1) := sdX8_adds_52.2.2.1
theorem dX8_adds_55 : decode cX8_adds 55 = .ok (.lastore, 1) := sdX8_adds_52.2.2.2.1
theorem dX8_adds_56 : decode cX8_adds 56 = .ok (.aload_n 0, 1) := sdX8_adds_52.2.2.2.2.1
theorem dX8_adds_57 : decode cX8_adds 57 = .ok (.getfield 91, 3) := sdX8_adds_52.2.2.2.2.2.1
theorem dX8_adds_60 : decode cX8_adds 60 = .ok (.iload 4, 2) := sdX8_adds_52.2.2.2.2.2.2.1
theorem dX8_adds_62 : decode cX8_adds 62 = .ok (.dup2, 1) := sdX8_adds_52.2.2.2.2.2.2.2.1
theorem sdX8_adds_63 : dz_Seg cX8_adds [(63, .laload, 1), (64, .aload_n 0, 1), (65, .iload 4, 2), (67, .invokevirtual 387, 3), (70, .ifCond .eq 7, 3), (73, .lload_n 1, 1), (74, .goto 4, 3), (77, .lconst 0, 1)] := dz_sg _ 63 (by decide +kernel)
theorem dX8_adds_63 : decode cX8_adds 63 = .ok (.laload, 1) := sdX8_adds_63.1
theorem dX8_adds_64 : decode cX8_adds 64 = .ok (.aload_n 0, 1) := sdX8_adds_63.2.1
theorem dX8_adds_65 : decode cX8_adds 65 = .ok (.iload 4, 2) := sdX8_adds_63.2.2.1
theorem dX8_adds_67 : decode cX8_adds 67 = .ok (.invokevirtual 387, 3) := sdX8_adds_63.2.2.2.1
theorem dX8_adds_70 : decode cX8_adds 70 = .ok (.ifCond .eq 7, 3) := sdX8_adds_63.2.2.2.2.1
theorem dX8_adds_73 : decode cX8_adds 73 = .ok (.lload_n 1, 1) := sdX8_adds_63.2.2.2.2.2.1
theorem dX8_adds_74 : decode cX8_adds 74 = .ok (.goto 4, 3) := sdX8_adds_63.2.2.2.2.2.2.1
theorem dX8_adds_77 : decode cX8_adds 77 = .ok (.lconst 0, 1) := sdX8_adds_63.2.2.2.2.2.2.2.1
theorem sdX8_adds_78 : dz_Seg cX8_adds [(78, .ladd, 1), (79, .lastore, 1), (80, .aload_n 0, 1), (81, .getfield 94, 3), (84, .iload 4, 2), (86, .dup2, 1), (87, .laload, 1), (88, .aload_n 0, 1)] := dz_sg _ 78 (by decide +kernel)
theorem dX8_adds_78 : decode cX8_adds 78 = .ok (.ladd, 1) := sdX8_adds_78.1
theorem dX8_adds_79 : decode cX8_adds 79 = .ok (.lastore, 1) := sdX8_adds_78.2.1
theorem dX8_adds_80 : decode cX8_adds 80 = .ok (.aload_n 0, 1) := sdX8_adds_78.2.2.1
theorem dX8_adds_81 : decode cX8_adds 81 = .ok (.getfield 94, 3) := sdX8_adds_78.2.2.2.1
theorem dX8_adds_84 : decode cX8_adds 84 = .ok (.iload 4, 2) := sdX8_adds_78.2.2.2.2.1
theorem dX8_adds_86 : decode cX8_adds 86 = .ok (.dup2, 1) := sdX8_adds_78.2.2.2.2.2.1
theorem dX8_adds_87 : decode cX8_adds 87 = .ok (.laload, 1) := sdX8_adds_78.2.2.2.2.2.2.1
theorem dX8_adds_88 : decode cX8_adds 88 = .ok (.aload_n 0, 1) := sdX8_adds_78.2.2.2.2.2.2.2.1
theorem sdX8_adds_89 : dz_Seg cX8_adds [(89, .getfield 76, 3), (92, .iload 4, 2), (94, .iaload, 1), (95, .iconst 1, 1), (96, .if_icmp .ne 7, 3), (99, .lload_n 1, 1), (100, .goto 4, 3), (103, .lconst 0, 1)] := dz_sg _ 89 (by decide +kernel)
theorem dX8_adds_89 : decode cX8_adds 89 = .ok (.getfield 76, 3) := sdX8_adds_89.1
theorem dX8_adds_92 : decode cX8_adds 92 = .ok (.iload 4, 2) := sdX8_adds_89.2.1
theorem dX8_adds_94 : decode cX8_adds 94 = .ok (.iaload, 1) := sdX8_adds_89.2.2.1
theorem dX8_adds_95 : decode cX8_adds 95 = .ok (.iconst 1, 1) := sdX8_adds_89.2.2.2.1
theorem dX8_adds_96 : decode cX8_adds 96 = .ok (.if_icmp .ne 7, 3) := sdX8_adds_89.2.2.2.2.1
theorem dX8_adds_99 : decode cX8_adds 99 = .ok (.lload_n 1, 1) := sdX8_adds_89.2.2.2.2.2.1
theorem dX8_adds_100 : decode cX8_adds 100 = .ok (.goto 4, 3) := sdX8_adds_89.2.2.2.2.2.2.1
theorem dX8_adds_103 : decode cX8_adds 103 = .ok (.lconst 0, 1) := sdX8_adds_89.2.2.2.2.2.2.2.1
theorem sdX8_adds_104 : dz_Seg cX8_adds [(104, .ladd, 1), (105, .lastore, 1), (106, .aload_n 0, 1), (107, .getfield 100, 3), (110, .aload_n 0, 1), (111, .getfield 73, 3), (114, .iload 4, 2), (116, .iaload, 1)] := dz_sg _ 104 (by decide +kernel)
theorem dX8_adds_104 : decode cX8_adds 104 = .ok (.ladd, 1) := sdX8_adds_104.1
theorem dX8_adds_105 : decode cX8_adds 105 = .ok (.lastore, 1) := sdX8_adds_104.2.1
theorem dX8_adds_106 : decode cX8_adds 106 = .ok (.aload_n 0, 1) := sdX8_adds_104.2.2.1
theorem dX8_adds_107 : decode cX8_adds 107 = .ok (.getfield 100, 3) := sdX8_adds_104.2.2.2.1
theorem dX8_adds_110 : decode cX8_adds 110 = .ok (.aload_n 0, 1) := sdX8_adds_104.2.2.2.2.1
theorem dX8_adds_111 : decode cX8_adds 111 = .ok (.getfield 73, 3) := sdX8_adds_104.2.2.2.2.2.1
theorem dX8_adds_114 : decode cX8_adds 114 = .ok (.iload 4, 2) := sdX8_adds_104.2.2.2.2.2.2.1
theorem dX8_adds_116 : decode cX8_adds 116 = .ok (.iaload, 1) := sdX8_adds_104.2.2.2.2.2.2.2.1
theorem sdX8_adds_117 : dz_Seg cX8_adds [(117, .dup2, 1), (118, .laload, 1), (119, .lload_n 1, 1), (120, .aload_n 0, 1), (121, .getfield 58, 3), (124, .iload 4, 2), (126, .iaload, 1), (127, .i2l, 1)] := dz_sg _ 117 (by decide +kernel)
theorem dX8_adds_117 : decode cX8_adds 117 = .ok (.dup2, 1) := sdX8_adds_117.1
theorem dX8_adds_118 : decode cX8_adds 118 = .ok (.laload, 1) := sdX8_adds_117.2.1
theorem dX8_adds_119 : decode cX8_adds 119 = .ok (.lload_n 1, 1) := sdX8_adds_117.2.2.1
theorem dX8_adds_120 : decode cX8_adds 120 = .ok (.aload_n 0, 1) := sdX8_adds_117.2.2.2.1
theorem dX8_adds_121 : decode cX8_adds 121 = .ok (.getfield 58, 3) := sdX8_adds_117.2.2.2.2.1
theorem dX8_adds_124 : decode cX8_adds 124 = .ok (.iload 4, 2) := sdX8_adds_117.2.2.2.2.2.1
theorem dX8_adds_126 : decode cX8_adds 126 = .ok (.iaload, 1) := sdX8_adds_117.2.2.2.2.2.2.1
theorem dX8_adds_127 : decode cX8_adds 127 = .ok (.i2l, 1) := sdX8_adds_117.2.2.2.2.2.2.2.1
theorem sdX8_adds_128 : dz_Seg cX8_adds [(128, .lmul, 1), (129, .ladd, 1), (130, .lastore, 1), (131, .iconst 0, 1), (132, .istore 5, 2), (134, .iload 5, 2), (136, .aload_n 0, 1), (137, .getfield 275, 3)] := dz_sg _ 128 (by decide +kernel)
theorem dX8_adds_128 : decode cX8_adds 128 = .ok (.lmul, 1) := sdX8_adds_128.1
theorem dX8_adds_129 : decode cX8_adds 129 = .ok (.ladd, 1) := sdX8_adds_128.2.1
theorem dX8_adds_130 : decode cX8_adds 130 = .ok (.lastore, 1) := sdX8_adds_128.2.2.1
theorem dX8_adds_131 : decode cX8_adds 131 = .ok (.iconst 0, 1) := sdX8_adds_128.2.2.2.1
theorem dX8_adds_132 : decode cX8_adds 132 = .ok (.istore 5, 2) := sdX8_adds_128.2.2.2.2.1
theorem dX8_adds_134 : decode cX8_adds 134 = .ok (.iload 5, 2) := sdX8_adds_128.2.2.2.2.2.1
theorem dX8_adds_136 : decode cX8_adds 136 = .ok (.aload_n 0, 1) := sdX8_adds_128.2.2.2.2.2.2.1
theorem dX8_adds_137 : decode cX8_adds 137 = .ok (.getfield 275, 3) := sdX8_adds_128.2.2.2.2.2.2.2.1
theorem sdX8_adds_140 : dz_Seg cX8_adds [(140, .if_icmp .ge 41, 3), (143, .aload_n 0, 1), (144, .getfield 97, 3), (147, .bipush 7, 2), (149, .iload 4, 2), (151, .imul, 1), (152, .iload 5, 2), (154, .iadd, 1)] := dz_sg _ 140 (by decide +kernel)
theorem dX8_adds_140 : decode cX8_adds 140 = .ok (.if_icmp .ge 41, 3) := sdX8_adds_140.1
theorem dX8_adds_143 : decode cX8_adds 143 = .ok (.aload_n 0, 1) := sdX8_adds_140.2.1
theorem dX8_adds_144 : decode cX8_adds 144 = .ok (.getfield 97, 3) := sdX8_adds_140.2.2.1
theorem dX8_adds_147 : decode cX8_adds 147 = .ok (.bipush 7, 2) := sdX8_adds_140.2.2.2.1
theorem dX8_adds_149 : decode cX8_adds 149 = .ok (.iload 4, 2) := sdX8_adds_140.2.2.2.2.1
theorem dX8_adds_151 : decode cX8_adds 151 = .ok (.imul, 1) := sdX8_adds_140.2.2.2.2.2.1
theorem dX8_adds_152 : decode cX8_adds 152 = .ok (.iload 5, 2) := sdX8_adds_140.2.2.2.2.2.2.1
theorem dX8_adds_154 : decode cX8_adds 154 = .ok (.iadd, 1) := sdX8_adds_140.2.2.2.2.2.2.2.1
theorem sdX8_adds_155 : dz_Seg cX8_adds [(155, .dup2, 1), (156, .laload, 1), (157, .aload_n 0, 1), (158, .getfield 73, 3), (161, .iload 5, 2), (163, .iaload, 1), (164, .iconst (-1), 1), (165, .if_icmp .ne 7, 3)] := dz_sg _ 155 (by decide +kernel)
theorem dX8_adds_155 : decode cX8_adds 155 = .ok (.dup2, 1) := sdX8_adds_155.1
theorem dX8_adds_156 : decode cX8_adds 156 = .ok (.laload, 1) := sdX8_adds_155.2.1
theorem dX8_adds_157 : decode cX8_adds 157 = .ok (.aload_n 0, 1) := sdX8_adds_155.2.2.1
theorem dX8_adds_158 : decode cX8_adds 158 = .ok (.getfield 73, 3) := sdX8_adds_155.2.2.2.1
theorem dX8_adds_161 : decode cX8_adds 161 = .ok (.iload 5, 2) := sdX8_adds_155.2.2.2.2.1
theorem dX8_adds_163 : decode cX8_adds 163 = .ok (.iaload, 1) := sdX8_adds_155.2.2.2.2.2.1
theorem dX8_adds_164 : decode cX8_adds 164 = .ok (.iconst (-1), 1) := sdX8_adds_155.2.2.2.2.2.2.1
theorem dX8_adds_165 : decode cX8_adds 165 = .ok (.if_icmp .ne 7, 3) := sdX8_adds_155.2.2.2.2.2.2.2.1
theorem sdX8_adds_168 : dz_Seg cX8_adds [(168, .lconst 0, 1), (169, .goto 4, 3), (172, .lload_n 1, 1), (173, .ladd, 1), (174, .lastore, 1), (175, .iinc 5 1, 3), (178, .goto (-44), 3), (181, .iinc 4 1, 3)] := dz_sg _ 168 (by decide +kernel)
theorem dX8_adds_168 : decode cX8_adds 168 = .ok (.lconst 0, 1) := sdX8_adds_168.1
theorem dX8_adds_169 : decode cX8_adds 169 = .ok (.goto 4, 3) := sdX8_adds_168.2.1
theorem dX8_adds_172 : decode cX8_adds 172 = .ok (.lload_n 1, 1) := sdX8_adds_168.2.2.1
theorem dX8_adds_173 : decode cX8_adds 173 = .ok (.ladd, 1) := sdX8_adds_168.2.2.2.1
theorem dX8_adds_174 : decode cX8_adds 174 = .ok (.lastore, 1) := sdX8_adds_168.2.2.2.2.1
theorem dX8_adds_175 : decode cX8_adds 175 = .ok (.iinc 5 1, 3) := sdX8_adds_168.2.2.2.2.2.1
theorem dX8_adds_178 : decode cX8_adds 178 = .ok (.goto (-44), 3) := sdX8_adds_168.2.2.2.2.2.2.1
theorem dX8_adds_181 : decode cX8_adds 181 = .ok (.iinc 4 1, 3) := sdX8_adds_168.2.2.2.2.2.2.2.1
theorem sdX8_adds_184 : dz_Seg cX8_adds [(184, .goto (-179), 3), (187, .aload_n 0, 1), (188, .dup, 1), (189, .getfield 393, 3), (192, .aload_n 0, 1), (193, .getfield 418, 3), (196, .iload_n 3, 1), (197, .iconst (-1), 1)] := dz_sg _ 184 (by decide +kernel)
theorem dX8_adds_184 : decode cX8_adds 184 = .ok (.goto (-179), 3) := sdX8_adds_184.1
theorem dX8_adds_187 : decode cX8_adds 187 = .ok (.aload_n 0, 1) := sdX8_adds_184.2.1
theorem dX8_adds_188 : decode cX8_adds 188 = .ok (.dup, 1) := sdX8_adds_184.2.2.1
theorem dX8_adds_189 : decode cX8_adds 189 = .ok (.getfield 393, 3) := sdX8_adds_184.2.2.2.1
theorem dX8_adds_192 : decode cX8_adds 192 = .ok (.aload_n 0, 1) := sdX8_adds_184.2.2.2.2.1
theorem dX8_adds_193 : decode cX8_adds 193 = .ok (.getfield 418, 3) := sdX8_adds_184.2.2.2.2.2.1
theorem dX8_adds_196 : decode cX8_adds 196 = .ok (.iload_n 3, 1) := sdX8_adds_184.2.2.2.2.2.2.1
theorem dX8_adds_197 : decode cX8_adds 197 = .ok (.iconst (-1), 1) := sdX8_adds_184.2.2.2.2.2.2.2.1
theorem sdX8_adds_198 : dz_Seg cX8_adds [(198, .ixor, 1), (199, .iand, 1), (200, .ifCond .ne 7, 3), (203, .lload_n 1, 1), (204, .goto 4, 3), (207, .lconst 0, 1), (208, .ladd, 1), (209, .putfield 393, 3)] := dz_sg _ 198 (by decide +kernel)
theorem dX8_adds_198 : decode cX8_adds 198 = .ok (.ixor, 1) := sdX8_adds_198.1
theorem dX8_adds_199 : decode cX8_adds 199 = .ok (.iand, 1) := sdX8_adds_198.2.1
theorem dX8_adds_200 : decode cX8_adds 200 = .ok (.ifCond .ne 7, 3) := sdX8_adds_198.2.2.1
theorem dX8_adds_203 : decode cX8_adds 203 = .ok (.lload_n 1, 1) := sdX8_adds_198.2.2.2.1
theorem dX8_adds_204 : decode cX8_adds 204 = .ok (.goto 4, 3) := sdX8_adds_198.2.2.2.2.1
theorem dX8_adds_207 : decode cX8_adds 207 = .ok (.lconst 0, 1) := sdX8_adds_198.2.2.2.2.2.1
theorem dX8_adds_208 : decode cX8_adds 208 = .ok (.ladd, 1) := sdX8_adds_198.2.2.2.2.2.2.1
theorem dX8_adds_209 : decode cX8_adds 209 = .ok (.putfield 393, 3) := sdX8_adds_198.2.2.2.2.2.2.2.1
theorem sdX8_adds_212 : dz_Seg cX8_adds [(212, .aload_n 0, 1), (213, .dup, 1), (214, .getfield 396, 3), (217, .iload_n 3, 1), (218, .iand, 1), (219, .putfield 396, 3), (222, .aload_n 0, 1), (223, .dup, 1)] := dz_sg _ 212 (by decide +kernel)
theorem dX8_adds_212 : decode cX8_adds 212 = .ok (.aload_n 0, 1) := sdX8_adds_212.1
theorem dX8_adds_213 : decode cX8_adds 213 = .ok (.dup, 1) := sdX8_adds_212.2.1
theorem dX8_adds_214 : decode cX8_adds 214 = .ok (.getfield 396, 3) := sdX8_adds_212.2.2.1
theorem dX8_adds_217 : decode cX8_adds 217 = .ok (.iload_n 3, 1) := sdX8_adds_212.2.2.2.1
theorem dX8_adds_218 : decode cX8_adds 218 = .ok (.iand, 1) := sdX8_adds_212.2.2.2.2.1
theorem dX8_adds_219 : decode cX8_adds 219 = .ok (.putfield 396, 3) := sdX8_adds_212.2.2.2.2.2.1
theorem dX8_adds_222 : decode cX8_adds 222 = .ok (.aload_n 0, 1) := sdX8_adds_212.2.2.2.2.2.2.1
theorem dX8_adds_223 : decode cX8_adds 223 = .ok (.dup, 1) := sdX8_adds_212.2.2.2.2.2.2.2.1
theorem sdX8_adds_224 : dz_Seg cX8_adds [(224, .getfield 399, 3), (227, .iload_n 3, 1), (228, .ior, 1), (229, .putfield 399, 3), (232, .aload_n 0, 1), (233, .getfield 103, 3), (236, .iload_n 3, 1), (237, .iconst 1, 1)] := dz_sg _ 224 (by decide +kernel)
theorem dX8_adds_224 : decode cX8_adds 224 = .ok (.getfield 399, 3) := sdX8_adds_224.1
theorem dX8_adds_227 : decode cX8_adds 227 = .ok (.iload_n 3, 1) := sdX8_adds_224.2.1
theorem dX8_adds_228 : decode cX8_adds 228 = .ok (.ior, 1) := sdX8_adds_224.2.2.1
theorem dX8_adds_229 : decode cX8_adds 229 = .ok (.putfield 399, 3) := sdX8_adds_224.2.2.2.1
theorem dX8_adds_232 : decode cX8_adds 232 = .ok (.aload_n 0, 1) := sdX8_adds_224.2.2.2.2.1
theorem dX8_adds_233 : decode cX8_adds 233 = .ok (.getfield 103, 3) := sdX8_adds_224.2.2.2.2.2.1
theorem dX8_adds_236 : decode cX8_adds 236 = .ok (.iload_n 3, 1) := sdX8_adds_224.2.2.2.2.2.2.1
theorem dX8_adds_237 : decode cX8_adds 237 = .ok (.iconst 1, 1) := sdX8_adds_224.2.2.2.2.2.2.2.1
theorem sdX8_adds_238 : dz_Seg cX8_adds [(238, .bastore, 1), (239, .aload_n 0, 1), (240, .aload_n 0, 1), (241, .getfield 402, 3), (244, .aload_n 0, 1), (245, .invokevirtual 421, 3), (248, .invokestatic 366, 3), (251, .putfield 402, 3)] := dz_sg _ 238 (by decide +kernel)
theorem dX8_adds_238 : decode cX8_adds 238 = .ok (.bastore, 1) := sdX8_adds_238.1
theorem dX8_adds_239 : decode cX8_adds 239 = .ok (.aload_n 0, 1) := sdX8_adds_238.2.1
theorem dX8_adds_240 : decode cX8_adds 240 = .ok (.aload_n 0, 1) := sdX8_adds_238.2.2.1
theorem dX8_adds_241 : decode cX8_adds 241 = .ok (.getfield 402, 3) := sdX8_adds_238.2.2.2.1
theorem dX8_adds_244 : decode cX8_adds 244 = .ok (.aload_n 0, 1) := sdX8_adds_238.2.2.2.2.1
theorem dX8_adds_245 : decode cX8_adds 245 = .ok (.invokevirtual 421, 3) := sdX8_adds_238.2.2.2.2.2.1
theorem dX8_adds_248 : decode cX8_adds 248 = .ok (.invokestatic 366, 3) := sdX8_adds_238.2.2.2.2.2.2.1
theorem dX8_adds_251 : decode cX8_adds 251 = .ok (.putfield 402, 3) := sdX8_adds_238.2.2.2.2.2.2.2.1
theorem sdX8_adds_254 : dz_Seg cX8_adds [(254, .aload_n 0, 1), (255, .aload_n 0, 1), (256, .getfield 405, 3), (259, .aload_n 0, 1), (260, .invokevirtual 421, 3), (263, .invokestatic 424, 3), (266, .putfield 405, 3), (269, .return_, 1)] := dz_sg _ 254 (by decide +kernel)
theorem dX8_adds_254 : decode cX8_adds 254 = .ok (.aload_n 0, 1) := sdX8_adds_254.1
theorem dX8_adds_255 : decode cX8_adds 255 = .ok (.aload_n 0, 1) := sdX8_adds_254.2.1
theorem dX8_adds_256 : decode cX8_adds 256 = .ok (.getfield 405, 3) := sdX8_adds_254.2.2.1
theorem dX8_adds_259 : decode cX8_adds 259 = .ok (.aload_n 0, 1) := sdX8_adds_254.2.2.2.1
theorem dX8_adds_260 : decode cX8_adds 260 = .ok (.invokevirtual 421, 3) := sdX8_adds_254.2.2.2.2.1
theorem dX8_adds_263 : decode cX8_adds 263 = .ok (.invokestatic 424, 3) := sdX8_adds_254.2.2.2.2.2.1
theorem dX8_adds_266 : decode cX8_adds 266 = .ok (.putfield 405, 3) := sdX8_adds_254.2.2.2.2.2.2.1
theorem dX8_adds_269 : decode cX8_adds 269 = .ok (.return_, 1) := sdX8_adds_254.2.2.2.2.2.2.2.1
theorem sdX8_areMany_0 : dz_Seg cX8_areMany [(0, .aload_n 0, 1), (1, .invokevirtual 281, 3), (4, .aload_n 0, 1), (5, .getfield 275, 3), (8, .bipush 7, 2), (10, .if_icmp .le 7, 3), (13, .iconst 1, 1), (14, .goto 4, 3)] := dz_sg _ 0 (by decide +kernel)
theorem dX8_areMany_0 : decode cX8_areMany 0 = .ok (.aload_n 0, 1) := sdX8_areMany_0.1
theorem dX8_areMany_1 : decode cX8_areMany 1 = .ok (.invokevirtual 281, 3) := sdX8_areMany_0.2.1
theorem dX8_areMany_4 : decode cX8_areMany 4 = .ok (.aload_n 0, 1) := sdX8_areMany_0.2.2.1
theorem dX8_areMany_5 : decode cX8_areMany 5 = .ok (.getfield 275, 3) := sdX8_areMany_0.2.2.2.1
theorem dX8_areMany_8 : decode cX8_areMany 8 = .ok (.bipush 7, 2) := sdX8_areMany_0.2.2.2.2.1
theorem dX8_areMany_10 : decode cX8_areMany 10 = .ok (.if_icmp .le 7, 3) := sdX8_areMany_0.2.2.2.2.2.1
theorem dX8_areMany_13 : decode cX8_areMany 13 = .ok (.iconst 1, 1) := sdX8_areMany_0.2.2.2.2.2.2.1
theorem dX8_areMany_14 : decode cX8_areMany 14 = .ok (.goto 4, 3) := sdX8_areMany_0.2.2.2.2.2.2.2.1
theorem sdX8_areMany_17 : dz_Seg cX8_areMany [(17, .iconst 0, 1), (18, .ireturn, 1)] := dz_sg _ 17 (by decide +kernel)
theorem dX8_areMany_17 : decode cX8_areMany 17 = .ok (.iconst 0, 1) := sdX8_areMany_17.1
theorem dX8_areMany_18 : decode cX8_areMany 18 = .ok (.ireturn, 1) := sdX8_areMany_17.2.1
theorem sdX8_chanceOf_0 : dz_Seg cX8_chanceOf [(0, .lconst 0, 1), (1, .lstore_n 2, 1), (2, .iconst 0, 1), (3, .istore 4, 2), (5, .iload 4, 2), (7, .aload_n 0, 1), (8, .getfield 125, 3), (11, .if_icmp .ge 23, 3)] := dz_sg _ 0 (by decide +kernel)
theorem dX8_chanceOf_0 : decode cX8_chanceOf 0 = .ok (.lconst 0, 1) := sdX8_chanceOf_0.1
theorem dX8_chanceOf_1 : decode cX8_chanceOf 1 = .ok (.lstore_n 2, 1) := sdX8_chanceOf_0.2.1
theorem dX8_chanceOf_2 : decode cX8_chanceOf 2 = .ok (.iconst 0, 1) := sdX8_chanceOf_0.2.2.1
theorem dX8_chanceOf_3 : decode cX8_chanceOf 3 = .ok (.istore 4, 2) := sdX8_chanceOf_0.2.2.2.1
theorem dX8_chanceOf_5 : decode cX8_chanceOf 5 = .ok (.iload 4, 2) := sdX8_chanceOf_0.2.2.2.2.1
theorem dX8_chanceOf_7 : decode cX8_chanceOf 7 = .ok (.aload_n 0, 1) := sdX8_chanceOf_0.2.2.2.2.2.1
theorem dX8_chanceOf_8 : decode cX8_chanceOf 8 = .ok (.getfield 125, 3) := sdX8_chanceOf_0.2.2.2.2.2.2.1
theorem dX8_chanceOf_11 : decode cX8_chanceOf 11 = .ok (.if_icmp .ge 23, 3) := sdX8_chanceOf_0.2.2.2.2.2.2.2.1
theorem sdX8_chanceOf_14 : dz_Seg cX8_chanceOf [(14, .lload_n 2, 1), (15, .aload_n 0, 1), (16, .getfield 88, 3), (19, .iconst 5, 1), (20, .iload_n 1, 1), (21, .imul, 1), (22, .iload 4, 2), (24, .iadd, 1)] := dz_sg _ 14 (by decide +kernel)
theorem dX8_chanceOf_14 : decode cX8_chanceOf 14 = .ok (.lload_n 2, 1) := sdX8_chanceOf_14.1
theorem dX8_chanceOf_15 : decode cX8_chanceOf 15 = .ok (.aload_n 0, 1) := sdX8_chanceOf_14.2.1
theorem dX8_chanceOf_16 : decode cX8_chanceOf 16 = .ok (.getfield 88, 3) := sdX8_chanceOf_14.2.2.1
theorem dX8_chanceOf_19 : decode cX8_chanceOf 19 = .ok (.iconst 5, 1) := sdX8_chanceOf_14.2.2.2.1
theorem dX8_chanceOf_20 : decode cX8_chanceOf 20 = .ok (.iload_n 1, 1) := sdX8_chanceOf_14.2.2.2.2.1
theorem dX8_chanceOf_21 : decode cX8_chanceOf 21 = .ok (.imul, 1) := sdX8_chanceOf_14.2.2.2.2.2.1
theorem dX8_chanceOf_22 : decode cX8_chanceOf 22 = .ok (.iload 4, 2) := sdX8_chanceOf_14.2.2.2.2.2.2.1
theorem dX8_chanceOf_24 : decode cX8_chanceOf 24 = .ok (.iadd, 1) := sdX8_chanceOf_14.2.2.2.2.2.2.2.1
theorem sdX8_chanceOf_25 : dz_Seg cX8_chanceOf [(25, .laload, 1), (26, .ladd, 1), (27, .lstore_n 2, 1), (28, .iinc 4 1, 3), (31, .goto (-26), 3), (34, .lload_n 2, 1), (35, .lreturn, 1)] := dz_sg _ 25 (by decide +kernel)
theorem dX8_chanceOf_25 : decode cX8_chanceOf 25 = .ok (.laload, 1) := sdX8_chanceOf_25.1
theorem dX8_chanceOf_26 : decode cX8_chanceOf 26 = .ok (.ladd, 1) := sdX8_chanceOf_25.2.1
theorem dX8_chanceOf_27 : decode cX8_chanceOf 27 = .ok (.lstore_n 2, 1) := sdX8_chanceOf_25.2.2.1
theorem dX8_chanceOf_28 : decode cX8_chanceOf 28 = .ok (.iinc 4 1, 3) := sdX8_chanceOf_25.2.2.2.1
theorem dX8_chanceOf_31 : decode cX8_chanceOf 31 = .ok (.goto (-26), 3) := sdX8_chanceOf_25.2.2.2.2.1
theorem dX8_chanceOf_34 : decode cX8_chanceOf 34 = .ok (.lload_n 2, 1) := sdX8_chanceOf_25.2.2.2.2.2.1
theorem dX8_chanceOf_35 : decode cX8_chanceOf 35 = .ok (.lreturn, 1) := sdX8_chanceOf_25.2.2.2.2.2.2.1
theorem sdX8_chance_0 : dz_Seg cX8_chance [(0, .iload_n 2, 1), (1, .i2l, 1), (2, .lconst 0, 1), (3, .ldc2_w 427, 3), (6, .invokestatic 128, 3), (9, .ifCond .ne 10, 3), (12, .aload_n 0, 1), (13, .iconst 1, 1)] := dz_sg _ 0 (by decide +kernel)
theorem dX8_chance_0 : decode cX8_chance 0 = .ok (.iload_n 2, 1) := sdX8_chance_0.1
theorem dX8_chance_1 : decode cX8_chance 1 = .ok (.i2l, 1) := sdX8_chance_0.2.1
theorem dX8_chance_2 : decode cX8_chance 2 = .ok (.lconst 0, 1) := sdX8_chance_0.2.2.1
theorem dX8_chance_3 : decode cX8_chance 3 = .ok (.ldc2_w 427, 3) := sdX8_chance_0.2.2.2.1
theorem dX8_chance_6 : decode cX8_chance 6 = .ok (.invokestatic 128, 3) := sdX8_chance_0.2.2.2.2.1
theorem dX8_chance_9 : decode cX8_chance 9 = .ok (.ifCond .ne 10, 3) := sdX8_chance_0.2.2.2.2.2.1
theorem dX8_chance_12 : decode cX8_chance 12 = .ok (.aload_n 0, 1) := sdX8_chance_0.2.2.2.2.2.2.1
theorem dX8_chance_13 : decode cX8_chance 13 = .ok (.iconst 1, 1) := sdX8_chance_0.2.2.2.2.2.2.2.1
theorem sdX8_chance_14 : dz_Seg cX8_chance [(14, .invokevirtual 263, 3), (17, .i2l, 1), (18, .lreturn, 1), (19, .aload_n 0, 1), (20, .iload_n 1, 1), (21, .invokevirtual 315, 3), (24, .ifCond .ne 10, 3), (27, .aload_n 0, 1)] := dz_sg _ 14 (by decide +kernel)
theorem dX8_chance_14 : decode cX8_chance 14 = .ok (.invokevirtual 263, 3) := sdX8_chance_14.1
theorem dX8_chance_17 : decode cX8_chance 17 = .ok (.i2l, 1) := sdX8_chance_14.2.1
theorem dX8_chance_18 : decode cX8_chance 18 = .ok (.lreturn, 1) := sdX8_chance_14.2.2.1
theorem dX8_chance_19 : decode cX8_chance 19 = .ok (.aload_n 0, 1) := sdX8_chance_14.2.2.2.1
theorem dX8_chance_20 : decode cX8_chance 20 = .ok (.iload_n 1, 1) := sdX8_chance_14.2.2.2.2.1
theorem dX8_chance_21 : decode cX8_chance 21 = .ok (.invokevirtual 315, 3) := sdX8_chance_14.2.2.2.2.2.1
theorem dX8_chance_24 : decode cX8_chance 24 = .ok (.ifCond .ne 10, 3) := sdX8_chance_14.2.2.2.2.2.2.1
theorem dX8_chance_27 : decode cX8_chance 27 = .ok (.aload_n 0, 1) := sdX8_chance_14.2.2.2.2.2.2.2.1
theorem sdX8_chance_28 : dz_Seg cX8_chance [(28, .iconst 2, 1), (29, .invokevirtual 263, 3), (32, .i2l, 1), (33, .lreturn, 1), (34, .aload_n 0, 1), (35, .invokevirtual 429, 3), (38, .ifCond .eq 10, 3), (41, .aload_n 0, 1)] := dz_sg _ 28 (by decide +kernel)
theorem dX8_chance_28 : decode cX8_chance 28 = .ok (.iconst 2, 1) := sdX8_chance_28.1
theorem dX8_chance_29 : decode cX8_chance 29 = .ok (.invokevirtual 263, 3) := sdX8_chance_28.2.1
theorem dX8_chance_32 : decode cX8_chance 32 = .ok (.i2l, 1) := sdX8_chance_28.2.2.1
theorem dX8_chance_33 : decode cX8_chance 33 = .ok (.lreturn, 1) := sdX8_chance_28.2.2.2.1
theorem dX8_chance_34 : decode cX8_chance 34 = .ok (.aload_n 0, 1) := sdX8_chance_28.2.2.2.2.1
theorem dX8_chance_35 : decode cX8_chance 35 = .ok (.invokevirtual 429, 3) := sdX8_chance_28.2.2.2.2.2.1
theorem dX8_chance_38 : decode cX8_chance 38 = .ok (.ifCond .eq 10, 3) := sdX8_chance_28.2.2.2.2.2.2.1
theorem dX8_chance_41 : decode cX8_chance 41 = .ok (.aload_n 0, 1) := sdX8_chance_28.2.2.2.2.2.2.2.1
theorem sdX8_chance_42 : dz_Seg cX8_chance [(42, .iconst 3, 1), (43, .invokevirtual 263, 3), (46, .i2l, 1), (47, .lreturn, 1), (48, .aload_n 0, 1), (49, .invokevirtual 432, 3), (52, .aload_n 0, 1), (53, .iload_n 2, 1)] := dz_sg _ 42 (by decide +kernel)
theorem dX8_chance_42 : decode cX8_chance 42 = .ok (.iconst 3, 1) := sdX8_chance_42.1
theorem dX8_chance_43 : decode cX8_chance 43 = .ok (.invokevirtual 263, 3) := sdX8_chance_42.2.1
theorem dX8_chance_46 : decode cX8_chance 46 = .ok (.i2l, 1) := sdX8_chance_42.2.2.1
theorem dX8_chance_47 : decode cX8_chance 47 = .ok (.lreturn, 1) := sdX8_chance_42.2.2.2.1
theorem dX8_chance_48 : decode cX8_chance 48 = .ok (.aload_n 0, 1) := sdX8_chance_42.2.2.2.2.1
theorem dX8_chance_49 : decode cX8_chance 49 = .ok (.invokevirtual 432, 3) := sdX8_chance_42.2.2.2.2.2.1
theorem dX8_chance_52 : decode cX8_chance 52 = .ok (.aload_n 0, 1) := sdX8_chance_42.2.2.2.2.2.2.1
theorem dX8_chance_53 : decode cX8_chance 53 = .ok (.iload_n 2, 1) := sdX8_chance_42.2.2.2.2.2.2.2.1
theorem sdX8_chance_54 : dz_Seg cX8_chance [(54, .ifCond .ne 11, 3), (57, .aload_n 0, 1), (58, .iload_n 1, 1), (59, .invokevirtual 435, 3), (62, .goto 23, 3), (65, .iload_n 2, 1), (66, .iconst 1, 1), (67, .if_icmp .ne 12, 3)] := dz_sg _ 54 (by decide +kernel)
theorem dX8_chance_54 : decode cX8_chance 54 = .ok (.ifCond .ne 11, 3) := sdX8_chance_54.1
theorem dX8_chance_57 : decode cX8_chance 57 = .ok (.aload_n 0, 1) := sdX8_chance_54.2.1
theorem dX8_chance_58 : decode cX8_chance 58 = .ok (.iload_n 1, 1) := sdX8_chance_54.2.2.1
theorem dX8_chance_59 : decode cX8_chance 59 = .ok (.invokevirtual 435, 3) := sdX8_chance_54.2.2.2.1
theorem dX8_chance_62 : decode cX8_chance 62 = .ok (.goto 23, 3) := sdX8_chance_54.2.2.2.2.1
theorem dX8_chance_65 : decode cX8_chance 65 = .ok (.iload_n 2, 1) := sdX8_chance_54.2.2.2.2.2.1
theorem dX8_chance_66 : decode cX8_chance 66 = .ok (.iconst 1, 1) := sdX8_chance_54.2.2.2.2.2.2.1
theorem dX8_chance_67 : decode cX8_chance 67 = .ok (.if_icmp .ne 12, 3) := sdX8_chance_54.2.2.2.2.2.2.2.1
theorem sdX8_chance_70 : dz_Seg cX8_chance [(70, .aload_n 0, 1), (71, .getfield 91, 3), (74, .iload_n 1, 1), (75, .laload, 1), (76, .goto 9, 3), (79, .aload_n 0, 1), (80, .getfield 94, 3), (83, .iload_n 1, 1)] := dz_sg _ 70 (by decide +kernel)
theorem dX8_chance_70 : decode cX8_chance 70 = .ok (.aload_n 0, 1) := sdX8_chance_70.1
theorem dX8_chance_71 : decode cX8_chance 71 = .ok (.getfield 91, 3) := sdX8_chance_70.2.1
theorem dX8_chance_74 : decode cX8_chance 74 = .ok (.iload_n 1, 1) := sdX8_chance_70.2.2.1
theorem dX8_chance_75 : decode cX8_chance 75 = .ok (.laload, 1) := sdX8_chance_70.2.2.2.1
theorem dX8_chance_76 : decode cX8_chance 76 = .ok (.goto 9, 3) := sdX8_chance_70.2.2.2.2.1
theorem dX8_chance_79 : decode cX8_chance 79 = .ok (.aload_n 0, 1) := sdX8_chance_70.2.2.2.2.2.1
theorem dX8_chance_80 : decode cX8_chance 80 = .ok (.getfield 94, 3) := sdX8_chance_70.2.2.2.2.2.2.1
theorem dX8_chance_83 : decode cX8_chance 83 = .ok (.iload_n 1, 1) := sdX8_chance_70.2.2.2.2.2.2.2.1
theorem sdX8_chance_84 : dz_Seg cX8_chance [(84, .laload, 1), (85, .invokevirtual 438, 3), (88, .lreturn, 1)] := dz_sg _ 84 (by decide +kernel)
theorem dX8_chance_84 : decode cX8_chance 84 = .ok (.laload, 1) := sdX8_chance_84.1
theorem dX8_chance_85 : decode cX8_chance 85 = .ok (.invokevirtual 438, 3) := sdX8_chance_84.2.1
theorem dX8_chance_88 : decode cX8_chance 88 = .ok (.lreturn, 1) := sdX8_chance_84.2.2.1
theorem sdX8_at_0 : dz_Seg cX8_at [(0, .aload_n 0, 1), (1, .iload_n 1, 1), (2, .invokevirtual 315, 3), (5, .ifCond .eq 11, 3), (8, .aload_n 0, 1), (9, .iload_n 2, 1), (10, .invokevirtual 301, 3), (13, .ifCond .ne 10, 3)] := dz_sg _ 0 (by decide +kernel)
theorem dX8_at_0 : decode cX8_at 0 = .ok (.aload_n 0, 1) := sdX8_at_0.1
theorem dX8_at_1 : decode cX8_at 1 = .ok (.iload_n 1, 1) := sdX8_at_0.2.1
theorem dX8_at_2 : decode cX8_at 2 = .ok (.invokevirtual 315, 3) := sdX8_at_0.2.2.1
theorem dX8_at_5 : decode cX8_at 5 = .ok (.ifCond .eq 11, 3) := sdX8_at_0.2.2.2.1
theorem dX8_at_8 : decode cX8_at 8 = .ok (.aload_n 0, 1) := sdX8_at_0.2.2.2.2.1
theorem dX8_at_9 : decode cX8_at 9 = .ok (.iload_n 2, 1) := sdX8_at_0.2.2.2.2.2.1
theorem dX8_at_10 : decode cX8_at 10 = .ok (.invokevirtual 301, 3) := sdX8_at_0.2.2.2.2.2.2.1
theorem dX8_at_13 : decode cX8_at 13 = .ok (.ifCond .ne 10, 3) := sdX8_at_0.2.2.2.2.2.2.2.1
theorem sdX8_at_16 : dz_Seg cX8_at [(16, .aload_n 0, 1), (17, .iconst 2, 1), (18, .invokevirtual 263, 3), (21, .i2l, 1), (22, .lreturn, 1), (23, .aload_n 0, 1), (24, .invokevirtual 429, 3), (27, .ifCond .eq 10, 3)] := dz_sg _ 16 (by decide +kernel)
theorem dX8_at_16 : decode cX8_at 16 = .ok (.aload_n 0, 1) := sdX8_at_16.1
theorem dX8_at_17 : decode cX8_at 17 = .ok (.iconst 2, 1) := sdX8_at_16.2.1
theorem dX8_at_18 : decode cX8_at 18 = .ok (.invokevirtual 263, 3) := sdX8_at_16.2.2.1
theorem dX8_at_21 : decode cX8_at 21 = .ok (.i2l, 1) := sdX8_at_16.2.2.2.1
theorem dX8_at_22 : decode cX8_at 22 = .ok (.lreturn, 1) := sdX8_at_16.2.2.2.2.1
theorem dX8_at_23 : decode cX8_at 23 = .ok (.aload_n 0, 1) := sdX8_at_16.2.2.2.2.2.1
theorem dX8_at_24 : decode cX8_at 24 = .ok (.invokevirtual 429, 3) := sdX8_at_16.2.2.2.2.2.2.1
theorem dX8_at_27 : decode cX8_at 27 = .ok (.ifCond .eq 10, 3) := sdX8_at_16.2.2.2.2.2.2.2.1
theorem sdX8_at_30 : dz_Seg cX8_at [(30, .aload_n 0, 1), (31, .iconst 3, 1), (32, .invokevirtual 263, 3), (35, .i2l, 1), (36, .lreturn, 1), (37, .aload_n 0, 1), (38, .invokevirtual 432, 3), (41, .aload_n 0, 1)] := dz_sg _ 30 (by decide +kernel)
theorem dX8_at_30 : decode cX8_at 30 = .ok (.aload_n 0, 1) := sdX8_at_30.1
theorem dX8_at_31 : decode cX8_at 31 = .ok (.iconst 3, 1) := sdX8_at_30.2.1
theorem dX8_at_32 : decode cX8_at 32 = .ok (.invokevirtual 263, 3) := sdX8_at_30.2.2.1
theorem dX8_at_35 : decode cX8_at 35 = .ok (.i2l, 1) := sdX8_at_30.2.2.2.1
theorem dX8_at_36 : decode cX8_at 36 = .ok (.lreturn, 1) := sdX8_at_30.2.2.2.2.1
theorem dX8_at_37 : decode cX8_at 37 = .ok (.aload_n 0, 1) := sdX8_at_30.2.2.2.2.2.1
theorem dX8_at_38 : decode cX8_at 38 = .ok (.invokevirtual 432, 3) := sdX8_at_30.2.2.2.2.2.2.1
theorem dX8_at_41 : decode cX8_at 41 = .ok (.aload_n 0, 1) := sdX8_at_30.2.2.2.2.2.2.2.1
theorem sdX8_at_42 : dz_Seg cX8_at [(42, .aload_n 0, 1), (43, .getfield 88, 3), (46, .iconst 5, 1), (47, .iload_n 1, 1), (48, .imul, 1), (49, .iload_n 2, 1), (50, .iadd, 1), (51, .laload, 1)] := dz_sg _ 42 (by decide +kernel)
theorem dX8_at_42 : decode cX8_at 42 = .ok (.aload_n 0, 1) := sdX8_at_42.1
theorem dX8_at_43 : decode cX8_at 43 = .ok (.getfield 88, 3) := sdX8_at_42.2.1
theorem dX8_at_46 : decode cX8_at 46 = .ok (.iconst 5, 1) := sdX8_at_42.2.2.1
theorem dX8_at_47 : decode cX8_at 47 = .ok (.iload_n 1, 1) := sdX8_at_42.2.2.2.1
theorem dX8_at_48 : decode cX8_at 48 = .ok (.imul, 1) := sdX8_at_42.2.2.2.2.1
theorem dX8_at_49 : decode cX8_at 49 = .ok (.iload_n 2, 1) := sdX8_at_42.2.2.2.2.2.1
theorem dX8_at_50 : decode cX8_at 50 = .ok (.iadd, 1) := sdX8_at_42.2.2.2.2.2.2.1
theorem dX8_at_51 : decode cX8_at 51 = .ok (.laload, 1) := sdX8_at_42.2.2.2.2.2.2.2.1
theorem sdX8_at_52 : dz_Seg cX8_at [(52, .invokevirtual 438, 3), (55, .lreturn, 1)] := dz_sg _ 52 (by decide +kernel)
theorem dX8_at_52 : decode cX8_at 52 = .ok (.invokevirtual 438, 3) := sdX8_at_52.1
theorem dX8_at_55 : decode cX8_at 55 = .ok (.lreturn, 1) := sdX8_at_52.2.1
theorem sdX8_both_0 : dz_Seg cX8_both [(0, .aload_n 0, 1), (1, .iload_n 1, 1), (2, .invokevirtual 315, 3), (5, .ifCond .eq 11, 3), (8, .aload_n 0, 1), (9, .iload_n 2, 1), (10, .invokevirtual 315, 3), (13, .ifCond .ne 10, 3)] := dz_sg _ 0 (by decide +kernel)
theorem dX8_both_0 : decode cX8_both 0 = .ok (.aload_n 0, 1) := sdX8_both_0.1
theorem dX8_both_1 : decode cX8_both 1 = .ok (.iload_n 1, 1) := sdX8_both_0.2.1
theorem dX8_both_2 : decode cX8_both 2 = .ok (.invokevirtual 315, 3) := sdX8_both_0.2.2.1
theorem dX8_both_5 : decode cX8_both 5 = .ok (.ifCond .eq 11, 3) := sdX8_both_0.2.2.2.1
theorem dX8_both_8 : decode cX8_both 8 = .ok (.aload_n 0, 1) := sdX8_both_0.2.2.2.2.1
theorem dX8_both_9 : decode cX8_both 9 = .ok (.iload_n 2, 1) := sdX8_both_0.2.2.2.2.2.1
theorem dX8_both_10 : decode cX8_both 10 = .ok (.invokevirtual 315, 3) := sdX8_both_0.2.2.2.2.2.2.1
theorem dX8_both_13 : decode cX8_both 13 = .ok (.ifCond .ne 10, 3) := sdX8_both_0.2.2.2.2.2.2.2.1
theorem sdX8_both_16 : dz_Seg cX8_both [(16, .aload_n 0, 1), (17, .iconst 2, 1), (18, .invokevirtual 263, 3), (21, .i2l, 1), (22, .lreturn, 1), (23, .iload_n 1, 1), (24, .iload_n 2, 1), (25, .if_icmp .ne 10, 3)] := dz_sg _ 16 (by decide +kernel)
theorem dX8_both_16 : decode cX8_both 16 = .ok (.aload_n 0, 1) := sdX8_both_16.1
theorem dX8_both_17 : decode cX8_both 17 = .ok (.iconst 2, 1) := sdX8_both_16.2.1
theorem dX8_both_18 : decode cX8_both 18 = .ok (.invokevirtual 263, 3) := sdX8_both_16.2.2.1
theorem dX8_both_21 : decode cX8_both 21 = .ok (.i2l, 1) := sdX8_both_16.2.2.2.1
theorem dX8_both_22 : decode cX8_both 22 = .ok (.lreturn, 1) := sdX8_both_16.2.2.2.2.1
theorem dX8_both_23 : decode cX8_both 23 = .ok (.iload_n 1, 1) := sdX8_both_16.2.2.2.2.2.1
theorem dX8_both_24 : decode cX8_both 24 = .ok (.iload_n 2, 1) := sdX8_both_16.2.2.2.2.2.2.1
theorem dX8_both_25 : decode cX8_both 25 = .ok (.if_icmp .ne 10, 3) := sdX8_both_16.2.2.2.2.2.2.2.1
theorem sdX8_both_28 : dz_Seg cX8_both [(28, .aload_n 0, 1), (29, .iconst 4, 1), (30, .invokevirtual 263, 3), (33, .i2l, 1), (34, .lreturn, 1), (35, .aload_n 0, 1), (36, .invokevirtual 429, 3), (39, .ifCond .eq 10, 3)] := dz_sg _ 28 (by decide +kernel)
theorem dX8_both_28 : decode cX8_both 28 = .ok (.aload_n 0, 1) := sdX8_both_28.1
theorem dX8_both_29 : decode cX8_both 29 = .ok (.iconst 4, 1) := sdX8_both_28.2.1
theorem dX8_both_30 : decode cX8_both 30 = .ok (.invokevirtual 263, 3) := sdX8_both_28.2.2.1
theorem dX8_both_33 : decode cX8_both 33 = .ok (.i2l, 1) := sdX8_both_28.2.2.2.1
theorem dX8_both_34 : decode cX8_both 34 = .ok (.lreturn, 1) := sdX8_both_28.2.2.2.2.1
theorem dX8_both_35 : decode cX8_both 35 = .ok (.aload_n 0, 1) := sdX8_both_28.2.2.2.2.2.1
theorem dX8_both_36 : decode cX8_both 36 = .ok (.invokevirtual 429, 3) := sdX8_both_28.2.2.2.2.2.2.1
theorem dX8_both_39 : decode cX8_both 39 = .ok (.ifCond .eq 10, 3) := sdX8_both_28.2.2.2.2.2.2.2.1
theorem sdX8_both_42 : dz_Seg cX8_both [(42, .aload_n 0, 1), (43, .iconst 3, 1), (44, .invokevirtual 263, 3), (47, .i2l, 1), (48, .lreturn, 1), (49, .aload_n 0, 1), (50, .invokevirtual 432, 3), (53, .aload_n 0, 1)] := dz_sg _ 42 (by decide +kernel)
theorem dX8_both_42 : decode cX8_both 42 = .ok (.aload_n 0, 1) := sdX8_both_42.1
theorem dX8_both_43 : decode cX8_both 43 = .ok (.iconst 3, 1) := sdX8_both_42.2.1
theorem dX8_both_44 : decode cX8_both 44 = .ok (.invokevirtual 263, 3) := sdX8_both_42.2.2.1
theorem dX8_both_47 : decode cX8_both 47 = .ok (.i2l, 1) := sdX8_both_42.2.2.2.1
theorem dX8_both_48 : decode cX8_both 48 = .ok (.lreturn, 1) := sdX8_both_42.2.2.2.2.1
theorem dX8_both_49 : decode cX8_both 49 = .ok (.aload_n 0, 1) := sdX8_both_42.2.2.2.2.2.1
theorem dX8_both_50 : decode cX8_both 50 = .ok (.invokevirtual 432, 3) := sdX8_both_42.2.2.2.2.2.2.1
theorem dX8_both_53 : decode cX8_both 53 = .ok (.aload_n 0, 1) := sdX8_both_42.2.2.2.2.2.2.2.1
theorem sdX8_both_54 : dz_Seg cX8_both [(54, .aload_n 0, 1), (55, .getfield 97, 3), (58, .bipush 7, 2), (60, .iload_n 1, 1), (61, .imul, 1), (62, .iload_n 2, 1), (63, .iadd, 1), (64, .laload, 1)] := dz_sg _ 54 (by decide +kernel)
theorem dX8_both_54 : decode cX8_both 54 = .ok (.aload_n 0, 1) := sdX8_both_54.1
theorem dX8_both_55 : decode cX8_both 55 = .ok (.getfield 97, 3) := sdX8_both_54.2.1
theorem dX8_both_58 : decode cX8_both 58 = .ok (.bipush 7, 2) := sdX8_both_54.2.2.1
theorem dX8_both_60 : decode cX8_both 60 = .ok (.iload_n 1, 1) := sdX8_both_54.2.2.2.1
theorem dX8_both_61 : decode cX8_both 61 = .ok (.imul, 1) := sdX8_both_54.2.2.2.2.1
theorem dX8_both_62 : decode cX8_both 62 = .ok (.iload_n 2, 1) := sdX8_both_54.2.2.2.2.2.1
theorem dX8_both_63 : decode cX8_both 63 = .ok (.iadd, 1) := sdX8_both_54.2.2.2.2.2.2.1
theorem dX8_both_64 : decode cX8_both 64 = .ok (.laload, 1) := sdX8_both_54.2.2.2.2.2.2.2.1
theorem sdX8_both_65 : dz_Seg cX8_both [(65, .invokevirtual 438, 3), (68, .lreturn, 1)] := dz_sg _ 65 (by decide +kernel)
theorem dX8_both_65 : decode cX8_both 65 = .ok (.invokevirtual 438, 3) := sdX8_both_65.1
theorem dX8_both_68 : decode cX8_both 68 = .ok (.lreturn, 1) := sdX8_both_65.2.1
theorem sdX8_sure_0 : dz_Seg cX8_sure [(0, .iload_n 1, 1), (1, .i2l, 1), (2, .lconst 0, 1), (3, .lconst 1, 1), (4, .invokestatic 128, 3), (7, .ifCond .ne 9, 3), (10, .aload_n 0, 1), (11, .iconst 1, 1)] := dz_sg _ 0 (by decide +kernel)
theorem dX8_sure_0 : decode cX8_sure 0 = .ok (.iload_n 1, 1) := sdX8_sure_0.1
theorem dX8_sure_1 : decode cX8_sure 1 = .ok (.i2l, 1) := sdX8_sure_0.2.1
theorem dX8_sure_2 : decode cX8_sure 2 = .ok (.lconst 0, 1) := sdX8_sure_0.2.2.1
theorem dX8_sure_3 : decode cX8_sure 3 = .ok (.lconst 1, 1) := sdX8_sure_0.2.2.2.1
theorem dX8_sure_4 : decode cX8_sure 4 = .ok (.invokestatic 128, 3) := sdX8_sure_0.2.2.2.2.1
theorem dX8_sure_7 : decode cX8_sure 7 = .ok (.ifCond .ne 9, 3) := sdX8_sure_0.2.2.2.2.2.1
theorem dX8_sure_10 : decode cX8_sure 10 = .ok (.aload_n 0, 1) := sdX8_sure_0.2.2.2.2.2.2.1
theorem dX8_sure_11 : decode cX8_sure 11 = .ok (.iconst 1, 1) := sdX8_sure_0.2.2.2.2.2.2.2.1
theorem sdX8_sure_12 : dz_Seg cX8_sure [(12, .invokevirtual 263, 3), (15, .ireturn, 1), (16, .aload_n 0, 1), (17, .invokevirtual 429, 3), (20, .ifCond .eq 9, 3), (23, .aload_n 0, 1), (24, .iconst 3, 1), (25, .invokevirtual 263, 3)] := dz_sg _ 12 (by decide +kernel)
theorem dX8_sure_12 : decode cX8_sure 12 = .ok (.invokevirtual 263, 3) := sdX8_sure_12.1
theorem dX8_sure_15 : decode cX8_sure 15 = .ok (.ireturn, 1) := sdX8_sure_12.2.1
theorem dX8_sure_16 : decode cX8_sure 16 = .ok (.aload_n 0, 1) := sdX8_sure_12.2.2.1
theorem dX8_sure_17 : decode cX8_sure 17 = .ok (.invokevirtual 429, 3) := sdX8_sure_12.2.2.2.1
theorem dX8_sure_20 : decode cX8_sure 20 = .ok (.ifCond .eq 9, 3) := sdX8_sure_12.2.2.2.2.1
theorem dX8_sure_23 : decode cX8_sure 23 = .ok (.aload_n 0, 1) := sdX8_sure_12.2.2.2.2.2.1
theorem dX8_sure_24 : decode cX8_sure 24 = .ok (.iconst 3, 1) := sdX8_sure_12.2.2.2.2.2.2.1
theorem dX8_sure_25 : decode cX8_sure 25 = .ok (.invokevirtual 263, 3) := sdX8_sure_12.2.2.2.2.2.2.2.1
theorem sdX8_sure_28 : dz_Seg cX8_sure [(28, .ireturn, 1), (29, .aload_n 0, 1), (30, .invokevirtual 432, 3), (33, .aload_n 0, 1), (34, .iload_n 1, 1), (35, .ifCond .ne 10, 3), (38, .aload_n 0, 1), (39, .getfield 396, 3)] := dz_sg _ 28 (by decide +kernel)
theorem dX8_sure_28 : decode cX8_sure 28 = .ok (.ireturn, 1) := sdX8_sure_28.1
theorem dX8_sure_29 : decode cX8_sure 29 = .ok (.aload_n 0, 1) := sdX8_sure_28.2.1
theorem dX8_sure_30 : decode cX8_sure 30 = .ok (.invokevirtual 432, 3) := sdX8_sure_28.2.2.1
theorem dX8_sure_33 : decode cX8_sure 33 = .ok (.aload_n 0, 1) := sdX8_sure_28.2.2.2.1
theorem dX8_sure_34 : decode cX8_sure 34 = .ok (.iload_n 1, 1) := sdX8_sure_28.2.2.2.2.1
theorem dX8_sure_35 : decode cX8_sure 35 = .ok (.ifCond .ne 10, 3) := sdX8_sure_28.2.2.2.2.2.1
theorem dX8_sure_38 : decode cX8_sure 38 = .ok (.aload_n 0, 1) := sdX8_sure_28.2.2.2.2.2.2.1
theorem dX8_sure_39 : decode cX8_sure 39 = .ok (.getfield 396, 3) := sdX8_sure_28.2.2.2.2.2.2.2.1
theorem sdX8_sure_42 : dz_Seg cX8_sure [(42, .goto 18, 3), (45, .iconst 1, 1), (46, .aload_n 0, 1), (47, .getfield 275, 3), (50, .ishl, 1), (51, .iconst 1, 1), (52, .isub, 1), (53, .aload_n 0, 1)] := dz_sg _ 42 (by decide +kernel)
theorem dX8_sure_42 : decode cX8_sure 42 = .ok (.goto 18, 3) := sdX8_sure_42.1
theorem dX8_sure_45 : decode cX8_sure 45 = .ok (.iconst 1, 1) := sdX8_sure_42.2.1
theorem dX8_sure_46 : decode cX8_sure 46 = .ok (.aload_n 0, 1) := sdX8_sure_42.2.2.1
theorem dX8_sure_47 : decode cX8_sure 47 = .ok (.getfield 275, 3) := sdX8_sure_42.2.2.2.1
theorem dX8_sure_50 : decode cX8_sure 50 = .ok (.ishl, 1) := sdX8_sure_42.2.2.2.2.1
theorem dX8_sure_51 : decode cX8_sure 51 = .ok (.iconst 1, 1) := sdX8_sure_42.2.2.2.2.2.1
theorem dX8_sure_52 : decode cX8_sure 52 = .ok (.isub, 1) := sdX8_sure_42.2.2.2.2.2.2.1
theorem dX8_sure_53 : decode cX8_sure 53 = .ok (.aload_n 0, 1) := sdX8_sure_42.2.2.2.2.2.2.2.1
theorem sdX8_sure_54 : dz_Seg cX8_sure [(54, .getfield 399, 3), (57, .iconst (-1), 1), (58, .ixor, 1), (59, .iand, 1), (60, .invokevirtual 272, 3), (63, .ireturn, 1)] := dz_sg _ 54 (by decide +kernel)
theorem dX8_sure_54 : decode cX8_sure 54 = .ok (.getfield 399, 3) := sdX8_sure_54.1
theorem dX8_sure_57 : decode cX8_sure 57 = .ok (.iconst (-1), 1) := sdX8_sure_54.2.1
theorem dX8_sure_58 : decode cX8_sure 58 = .ok (.ixor, 1) := sdX8_sure_54.2.2.1
theorem dX8_sure_59 : decode cX8_sure 59 = .ok (.iand, 1) := sdX8_sure_54.2.2.2.1
theorem dX8_sure_60 : decode cX8_sure 60 = .ok (.invokevirtual 272, 3) := sdX8_sure_54.2.2.2.2.1
theorem dX8_sure_63 : decode cX8_sure 63 = .ok (.ireturn, 1) := sdX8_sure_54.2.2.2.2.2.1
theorem sdX8_mean_0 : dz_Seg cX8_mean [(0, .aload_n 0, 1), (1, .iload_n 1, 1), (2, .invokevirtual 301, 3), (5, .ifCond .ne 10, 3), (8, .aload_n 0, 1), (9, .iconst 2, 1), (10, .invokevirtual 263, 3), (13, .i2l, 1)] := dz_sg _ 0 (by decide +kernel)
theorem dX8_mean_0 : decode cX8_mean 0 = .ok (.aload_n 0, 1) := sdX8_mean_0.1
theorem dX8_mean_1 : decode cX8_mean 1 = .ok (.iload_n 1, 1) := sdX8_mean_0.2.1
theorem dX8_mean_2 : decode cX8_mean 2 = .ok (.invokevirtual 301, 3) := sdX8_mean_0.2.2.1
theorem dX8_mean_5 : decode cX8_mean 5 = .ok (.ifCond .ne 10, 3) := sdX8_mean_0.2.2.2.1
theorem dX8_mean_8 : decode cX8_mean 8 = .ok (.aload_n 0, 1) := sdX8_mean_0.2.2.2.2.1
theorem dX8_mean_9 : decode cX8_mean 9 = .ok (.iconst 2, 1) := sdX8_mean_0.2.2.2.2.2.1
theorem dX8_mean_10 : decode cX8_mean 10 = .ok (.invokevirtual 263, 3) := sdX8_mean_0.2.2.2.2.2.2.1
theorem dX8_mean_13 : decode cX8_mean 13 = .ok (.i2l, 1) := sdX8_mean_0.2.2.2.2.2.2.2.1
theorem sdX8_mean_14 : dz_Seg cX8_mean [(14, .lreturn, 1), (15, .aload_n 0, 1), (16, .invokevirtual 429, 3), (19, .ifCond .eq 10, 3), (22, .aload_n 0, 1), (23, .iconst 3, 1), (24, .invokevirtual 263, 3), (27, .i2l, 1)] := dz_sg _ 14 (by decide +kernel)
theorem dX8_mean_14 : decode cX8_mean 14 = .ok (.lreturn, 1) := sdX8_mean_14.1
theorem dX8_mean_15 : decode cX8_mean 15 = .ok (.aload_n 0, 1) := sdX8_mean_14.2.1
theorem dX8_mean_16 : decode cX8_mean 16 = .ok (.invokevirtual 429, 3) := sdX8_mean_14.2.2.1
theorem dX8_mean_19 : decode cX8_mean 19 = .ok (.ifCond .eq 10, 3) := sdX8_mean_14.2.2.2.1
theorem dX8_mean_22 : decode cX8_mean 22 = .ok (.aload_n 0, 1) := sdX8_mean_14.2.2.2.2.1
theorem dX8_mean_23 : decode cX8_mean 23 = .ok (.iconst 3, 1) := sdX8_mean_14.2.2.2.2.2.1
theorem dX8_mean_24 : decode cX8_mean 24 = .ok (.invokevirtual 263, 3) := sdX8_mean_14.2.2.2.2.2.2.1
theorem dX8_mean_27 : decode cX8_mean 27 = .ok (.i2l, 1) := sdX8_mean_14.2.2.2.2.2.2.2.1
theorem sdX8_mean_28 : dz_Seg cX8_mean [(28, .lreturn, 1), (29, .aload_n 0, 1), (30, .invokevirtual 432, 3), (33, .aload_n 0, 1), (34, .aload_n 0, 1), (35, .getfield 100, 3), (38, .iload_n 1, 1), (39, .laload, 1)] := dz_sg _ 28 (by decide +kernel)
theorem dX8_mean_28 : decode cX8_mean 28 = .ok (.lreturn, 1) := sdX8_mean_28.1
theorem dX8_mean_29 : decode cX8_mean 29 = .ok (.aload_n 0, 1) := sdX8_mean_28.2.1
theorem dX8_mean_30 : decode cX8_mean 30 = .ok (.invokevirtual 432, 3) := sdX8_mean_28.2.2.1
theorem dX8_mean_33 : decode cX8_mean 33 = .ok (.aload_n 0, 1) := sdX8_mean_28.2.2.2.1
theorem dX8_mean_34 : decode cX8_mean 34 = .ok (.aload_n 0, 1) := sdX8_mean_28.2.2.2.2.1
theorem dX8_mean_35 : decode cX8_mean 35 = .ok (.getfield 100, 3) := sdX8_mean_28.2.2.2.2.2.1
theorem dX8_mean_38 : decode cX8_mean 38 = .ok (.iload_n 1, 1) := sdX8_mean_28.2.2.2.2.2.2.1
theorem dX8_mean_39 : decode cX8_mean 39 = .ok (.laload, 1) := sdX8_mean_28.2.2.2.2.2.2.2.1
theorem sdX8_mean_40 : dz_Seg cX8_mean [(40, .invokevirtual 438, 3), (43, .lreturn, 1)] := dz_sg _ 40 (by decide +kernel)
theorem dX8_mean_40 : decode cX8_mean 40 = .ok (.invokevirtual 438, 3) := sdX8_mean_40.1
theorem dX8_mean_43 : decode cX8_mean 43 = .ok (.lreturn, 1) := sdX8_mean_40.2.1
theorem sdX8_given_0 : dz_Seg cX8_given [(0, .iload_n 1, 1), (1, .i2l, 1), (2, .lconst 0, 1), (3, .lconst 1, 1), (4, .invokestatic 128, 3), (7, .ifCond .ne 9, 3), (10, .aload_n 0, 1), (11, .iconst 1, 1)] := dz_sg _ 0 (by decide +kernel)
theorem dX8_given_0 : decode cX8_given 0 = .ok (.iload_n 1, 1) := sdX8_given_0.1
theorem dX8_given_1 : decode cX8_given 1 = .ok (.i2l, 1) := sdX8_given_0.2.1
theorem dX8_given_2 : decode cX8_given 2 = .ok (.lconst 0, 1) := sdX8_given_0.2.2.1
theorem dX8_given_3 : decode cX8_given 3 = .ok (.lconst 1, 1) := sdX8_given_0.2.2.2.1
theorem dX8_given_4 : decode cX8_given 4 = .ok (.invokestatic 128, 3) := sdX8_given_0.2.2.2.2.1
theorem dX8_given_7 : decode cX8_given 7 = .ok (.ifCond .ne 9, 3) := sdX8_given_0.2.2.2.2.2.1
theorem dX8_given_10 : decode cX8_given 10 = .ok (.aload_n 0, 1) := sdX8_given_0.2.2.2.2.2.2.1
theorem dX8_given_11 : decode cX8_given 11 = .ok (.iconst 1, 1) := sdX8_given_0.2.2.2.2.2.2.2.1
theorem sdX8_given_12 : dz_Seg cX8_given [(12, .invokevirtual 263, 3), (15, .ireturn, 1), (16, .aload_n 0, 1), (17, .invokevirtual 429, 3), (20, .ifCond .eq 9, 3), (23, .aload_n 0, 1), (24, .iconst 3, 1), (25, .invokevirtual 263, 3)] := dz_sg _ 12 (by decide +kernel)
theorem dX8_given_12 : decode cX8_given 12 = .ok (.invokevirtual 263, 3) := sdX8_given_12.1
theorem dX8_given_15 : decode cX8_given 15 = .ok (.ireturn, 1) := sdX8_given_12.2.1
theorem dX8_given_16 : decode cX8_given 16 = .ok (.aload_n 0, 1) := sdX8_given_12.2.2.1
theorem dX8_given_17 : decode cX8_given 17 = .ok (.invokevirtual 429, 3) := sdX8_given_12.2.2.2.1
theorem dX8_given_20 : decode cX8_given 20 = .ok (.ifCond .eq 9, 3) := sdX8_given_12.2.2.2.2.1
theorem dX8_given_23 : decode cX8_given 23 = .ok (.aload_n 0, 1) := sdX8_given_12.2.2.2.2.2.1
theorem dX8_given_24 : decode cX8_given 24 = .ok (.iconst 3, 1) := sdX8_given_12.2.2.2.2.2.2.1
theorem dX8_given_25 : decode cX8_given 25 = .ok (.invokevirtual 263, 3) := sdX8_given_12.2.2.2.2.2.2.2.1
theorem sdX8_given_28 : dz_Seg cX8_given [(28, .ireturn, 1), (29, .aload_n 0, 1), (30, .invokevirtual 432, 3), (33, .aload_n 0, 1), (34, .iload_n 1, 1), (35, .ifCond .ne 10, 3), (38, .aload_n 0, 1), (39, .getfield 402, 3)] := dz_sg _ 28 (by decide +kernel)
theorem dX8_given_28 : decode cX8_given 28 = .ok (.ireturn, 1) := sdX8_given_28.1
theorem dX8_given_29 : decode cX8_given 29 = .ok (.aload_n 0, 1) := sdX8_given_28.2.1
theorem dX8_given_30 : decode cX8_given 30 = .ok (.invokevirtual 432, 3) := sdX8_given_28.2.2.1
theorem dX8_given_33 : decode cX8_given 33 = .ok (.aload_n 0, 1) := sdX8_given_28.2.2.2.1
theorem dX8_given_34 : decode cX8_given 34 = .ok (.iload_n 1, 1) := sdX8_given_28.2.2.2.2.1
theorem dX8_given_35 : decode cX8_given 35 = .ok (.ifCond .ne 10, 3) := sdX8_given_28.2.2.2.2.2.1
theorem dX8_given_38 : decode cX8_given 38 = .ok (.aload_n 0, 1) := sdX8_given_28.2.2.2.2.2.2.1
theorem dX8_given_39 : decode cX8_given 39 = .ok (.getfield 402, 3) := sdX8_given_28.2.2.2.2.2.2.2.1
theorem sdX8_given_42 : dz_Seg cX8_given [(42, .goto 7, 3), (45, .aload_n 0, 1), (46, .getfield 405, 3), (49, .invokevirtual 272, 3), (52, .ireturn, 1)] := dz_sg _ 42 (by decide +kernel)
theorem dX8_given_42 : decode cX8_given 42 = .ok (.goto 7, 3) := sdX8_given_42.1
theorem dX8_given_45 : decode cX8_given 45 = .ok (.aload_n 0, 1) := sdX8_given_42.2.1
theorem dX8_given_46 : decode cX8_given 46 = .ok (.getfield 405, 3) := sdX8_given_42.2.2.1
theorem dX8_given_49 : decode cX8_given 49 = .ok (.invokevirtual 272, 3) := sdX8_given_42.2.2.2.1
theorem dX8_given_52 : decode cX8_given 52 = .ok (.ireturn, 1) := sdX8_given_42.2.2.2.2.1
theorem sdX8_ends_0 : dz_Seg cX8_ends [(0, .aload_n 0, 1), (1, .invokevirtual 429, 3), (4, .ifCond .eq 9, 3), (7, .aload_n 0, 1), (8, .iconst 3, 1), (9, .invokevirtual 263, 3), (12, .ireturn, 1), (13, .aload_n 0, 1)] := dz_sg _ 0 (by decide +kernel)
theorem dX8_ends_0 : decode cX8_ends 0 = .ok (.aload_n 0, 1) := sdX8_ends_0.1
theorem dX8_ends_1 : decode cX8_ends 1 = .ok (.invokevirtual 429, 3) := sdX8_ends_0.2.1
theorem dX8_ends_4 : decode cX8_ends 4 = .ok (.ifCond .eq 9, 3) := sdX8_ends_0.2.2.1
theorem dX8_ends_7 : decode cX8_ends 7 = .ok (.aload_n 0, 1) := sdX8_ends_0.2.2.2.1
theorem dX8_ends_8 : decode cX8_ends 8 = .ok (.iconst 3, 1) := sdX8_ends_0.2.2.2.2.1
theorem dX8_ends_9 : decode cX8_ends 9 = .ok (.invokevirtual 263, 3) := sdX8_ends_0.2.2.2.2.2.1
theorem dX8_ends_12 : decode cX8_ends 12 = .ok (.ireturn, 1) := sdX8_ends_0.2.2.2.2.2.2.1
theorem dX8_ends_13 : decode cX8_ends 13 = .ok (.aload_n 0, 1) := sdX8_ends_0.2.2.2.2.2.2.2.1
theorem sdX8_ends_14 : dz_Seg cX8_ends [(14, .invokevirtual 432, 3), (17, .iconst 0, 1), (18, .istore_n 1, 1), (19, .iconst 0, 1), (20, .istore_n 2, 1), (21, .iload_n 2, 1), (22, .sipush 128, 3), (25, .if_icmp .ge 26, 3)] := dz_sg _ 14 (by decide +kernel)
theorem dX8_ends_14 : decode cX8_ends 14 = .ok (.invokevirtual 432, 3) := sdX8_ends_14.1
theorem dX8_ends_17 : decode cX8_ends 17 = .ok (.iconst 0, 1) := sdX8_ends_14.2.1
theorem dX8_ends_18 : decode cX8_ends 18 = .ok (.istore_n 1, 1) := sdX8_ends_14.2.2.1
theorem dX8_ends_19 : decode cX8_ends 19 = .ok (.iconst 0, 1) := sdX8_ends_14.2.2.2.1
theorem dX8_ends_20 : decode cX8_ends 20 = .ok (.istore_n 2, 1) := sdX8_ends_14.2.2.2.2.1
theorem dX8_ends_21 : decode cX8_ends 21 = .ok (.iload_n 2, 1) := sdX8_ends_14.2.2.2.2.2.1
theorem dX8_ends_22 : decode cX8_ends 22 = .ok (.sipush 128, 3) := sdX8_ends_14.2.2.2.2.2.2.1
theorem dX8_ends_25 : decode cX8_ends 25 = .ok (.if_icmp .ge 26, 3) := sdX8_ends_14.2.2.2.2.2.2.2.1
theorem sdX8_ends_28 : dz_Seg cX8_ends [(28, .iload_n 1, 1), (29, .aload_n 0, 1), (30, .getfield 103, 3), (33, .iload_n 2, 1), (34, .baload, 1), (35, .ifCond .eq 7, 3), (38, .iconst 1, 1), (39, .goto 4, 3)] := dz_sg _ 28 (by decide +kernel)
theorem dX8_ends_28 : decode cX8_ends 28 = .ok (.iload_n 1, 1) := sdX8_ends_28.1
theorem dX8_ends_29 : decode cX8_ends 29 = .ok (.aload_n 0, 1) := sdX8_ends_28.2.1
theorem dX8_ends_30 : decode cX8_ends 30 = .ok (.getfield 103, 3) := sdX8_ends_28.2.2.1
theorem dX8_ends_33 : decode cX8_ends 33 = .ok (.iload_n 2, 1) := sdX8_ends_28.2.2.2.1
theorem dX8_ends_34 : decode cX8_ends 34 = .ok (.baload, 1) := sdX8_ends_28.2.2.2.2.1
theorem dX8_ends_35 : decode cX8_ends 35 = .ok (.ifCond .eq 7, 3) := sdX8_ends_28.2.2.2.2.2.1
theorem dX8_ends_38 : decode cX8_ends 38 = .ok (.iconst 1, 1) := sdX8_ends_28.2.2.2.2.2.2.1
theorem dX8_ends_39 : decode cX8_ends 39 = .ok (.goto 4, 3) := sdX8_ends_28.2.2.2.2.2.2.2.1
theorem sdX8_ends_42 : dz_Seg cX8_ends [(42, .iconst 0, 1), (43, .iadd, 1), (44, .istore_n 1, 1), (45, .iinc 2 1, 3), (48, .goto (-27), 3), (51, .aload_n 0, 1), (52, .iload_n 1, 1), (53, .invokevirtual 272, 3)] := dz_sg _ 42 (by decide +kernel)
theorem dX8_ends_42 : decode cX8_ends 42 = .ok (.iconst 0, 1) := sdX8_ends_42.1
theorem dX8_ends_43 : decode cX8_ends 43 = .ok (.iadd, 1) := sdX8_ends_42.2.1
theorem dX8_ends_44 : decode cX8_ends 44 = .ok (.istore_n 1, 1) := sdX8_ends_42.2.2.1
theorem dX8_ends_45 : decode cX8_ends 45 = .ok (.iinc 2 1, 3) := sdX8_ends_42.2.2.2.1
theorem dX8_ends_48 : decode cX8_ends 48 = .ok (.goto (-27), 3) := sdX8_ends_42.2.2.2.2.1
theorem dX8_ends_51 : decode cX8_ends 51 = .ok (.aload_n 0, 1) := sdX8_ends_42.2.2.2.2.2.1
theorem dX8_ends_52 : decode cX8_ends 52 = .ok (.iload_n 1, 1) := sdX8_ends_42.2.2.2.2.2.2.1
theorem dX8_ends_53 : decode cX8_ends 53 = .ok (.invokevirtual 272, 3) := sdX8_ends_42.2.2.2.2.2.2.2.1
theorem sdX8_ends_56 : dz_Seg cX8_ends [(56, .ireturn, 1)] := dz_sg _ 56 (by decide +kernel)
theorem dX8_ends_56 : decode cX8_ends 56 = .ok (.ireturn, 1) := sdX8_ends_56.1
theorem sdX8_putsAside_0 : dz_Seg cX8_putsAside [(0, .iconst 0, 1), (1, .istore_n 1, 1), (2, .iload_n 1, 1), (3, .bipush 82, 2), (5, .if_icmp .ge 21, 3), (8, .aload_n 0, 1), (9, .getfield 16, 3), (12, .iload_n 1, 1)] := dz_sg _ 0 (by decide +kernel)
theorem dX8_putsAside_0 : decode cX8_putsAside 0 = .ok (.iconst 0, 1) := sdX8_putsAside_0.1
theorem dX8_putsAside_1 : decode cX8_putsAside 1 = .ok (.istore_n 1, 1) := sdX8_putsAside_0.2.1
theorem dX8_putsAside_2 : decode cX8_putsAside 2 = .ok (.iload_n 1, 1) := sdX8_putsAside_0.2.2.1
theorem dX8_putsAside_3 : decode cX8_putsAside 3 = .ok (.bipush 82, 2) := sdX8_putsAside_0.2.2.2.1
theorem dX8_putsAside_5 : decode cX8_putsAside 5 = .ok (.if_icmp .ge 21, 3) := sdX8_putsAside_0.2.2.2.2.1
theorem dX8_putsAside_8 : decode cX8_putsAside 8 = .ok (.aload_n 0, 1) := sdX8_putsAside_0.2.2.2.2.2.1
theorem dX8_putsAside_9 : decode cX8_putsAside 9 = .ok (.getfield 16, 3) := sdX8_putsAside_0.2.2.2.2.2.2.1
theorem dX8_putsAside_12 : decode cX8_putsAside 12 = .ok (.iload_n 1, 1) := sdX8_putsAside_0.2.2.2.2.2.2.2.1
theorem sdX8_putsAside_13 : dz_Seg cX8_putsAside [(13, .aload_n 0, 1), (14, .getfield 7, 3), (17, .iload_n 1, 1), (18, .iaload, 1), (19, .iastore, 1), (20, .iinc 1 1, 3), (23, .goto (-21), 3), (26, .return_, 1)] := dz_sg _ 13 (by decide +kernel)
theorem dX8_putsAside_13 : decode cX8_putsAside 13 = .ok (.aload_n 0, 1) := sdX8_putsAside_13.1
theorem dX8_putsAside_14 : decode cX8_putsAside 14 = .ok (.getfield 7, 3) := sdX8_putsAside_13.2.1
theorem dX8_putsAside_17 : decode cX8_putsAside 17 = .ok (.iload_n 1, 1) := sdX8_putsAside_13.2.2.1
theorem dX8_putsAside_18 : decode cX8_putsAside 18 = .ok (.iaload, 1) := sdX8_putsAside_13.2.2.2.1
theorem dX8_putsAside_19 : decode cX8_putsAside 19 = .ok (.iastore, 1) := sdX8_putsAside_13.2.2.2.2.1
theorem dX8_putsAside_20 : decode cX8_putsAside 20 = .ok (.iinc 1 1, 3) := sdX8_putsAside_13.2.2.2.2.2.1
theorem dX8_putsAside_23 : decode cX8_putsAside 23 = .ok (.goto (-21), 3) := sdX8_putsAside_13.2.2.2.2.2.2.1
theorem dX8_putsAside_26 : decode cX8_putsAside 26 = .ok (.return_, 1) := sdX8_putsAside_13.2.2.2.2.2.2.2.1
theorem sdX8_takesBack_0 : dz_Seg cX8_takesBack [(0, .iconst 0, 1), (1, .istore_n 1, 1), (2, .iload_n 1, 1), (3, .bipush 82, 2), (5, .if_icmp .ge 21, 3), (8, .aload_n 0, 1), (9, .getfield 7, 3), (12, .iload_n 1, 1)] := dz_sg _ 0 (by decide +kernel)
theorem dX8_takesBack_0 : decode cX8_takesBack 0 = .ok (.iconst 0, 1) := sdX8_takesBack_0.1
theorem dX8_takesBack_1 : decode cX8_takesBack 1 = .ok (.istore_n 1, 1) := sdX8_takesBack_0.2.1
theorem dX8_takesBack_2 : decode cX8_takesBack 2 = .ok (.iload_n 1, 1) := sdX8_takesBack_0.2.2.1
theorem dX8_takesBack_3 : decode cX8_takesBack 3 = .ok (.bipush 82, 2) := sdX8_takesBack_0.2.2.2.1
theorem dX8_takesBack_5 : decode cX8_takesBack 5 = .ok (.if_icmp .ge 21, 3) := sdX8_takesBack_0.2.2.2.2.1
theorem dX8_takesBack_8 : decode cX8_takesBack 8 = .ok (.aload_n 0, 1) := sdX8_takesBack_0.2.2.2.2.2.1
theorem dX8_takesBack_9 : decode cX8_takesBack 9 = .ok (.getfield 7, 3) := sdX8_takesBack_0.2.2.2.2.2.2.1
theorem dX8_takesBack_12 : decode cX8_takesBack 12 = .ok (.iload_n 1, 1) := sdX8_takesBack_0.2.2.2.2.2.2.2.1
theorem sdX8_takesBack_13 : dz_Seg cX8_takesBack [(13, .aload_n 0, 1), (14, .getfield 16, 3), (17, .iload_n 1, 1), (18, .iaload, 1), (19, .iastore, 1), (20, .iinc 1 1, 3), (23, .goto (-21), 3), (26, .return_, 1)] := dz_sg _ 13 (by decide +kernel)
theorem dX8_takesBack_13 : decode cX8_takesBack 13 = .ok (.aload_n 0, 1) := sdX8_takesBack_13.1
theorem dX8_takesBack_14 : decode cX8_takesBack 14 = .ok (.getfield 16, 3) := sdX8_takesBack_13.2.1
theorem dX8_takesBack_17 : decode cX8_takesBack 17 = .ok (.iload_n 1, 1) := sdX8_takesBack_13.2.2.1
theorem dX8_takesBack_18 : decode cX8_takesBack 18 = .ok (.iaload, 1) := sdX8_takesBack_13.2.2.2.1
theorem dX8_takesBack_19 : decode cX8_takesBack 19 = .ok (.iastore, 1) := sdX8_takesBack_13.2.2.2.2.1
theorem dX8_takesBack_20 : decode cX8_takesBack 20 = .ok (.iinc 1 1, 3) := sdX8_takesBack_13.2.2.2.2.2.1
theorem dX8_takesBack_23 : decode cX8_takesBack 23 = .ok (.goto (-21), 3) := sdX8_takesBack_13.2.2.2.2.2.2.1
theorem dX8_takesBack_26 : decode cX8_takesBack 26 = .ok (.return_, 1) := sdX8_takesBack_13.2.2.2.2.2.2.2.1
theorem sdX8_need_0 : dz_Seg cX8_need [(0, .iload_n 2, 1), (1, .i2l, 1), (2, .lconst 0, 1), (3, .ldc2_w 442, 3), (6, .invokestatic 128, 3), (9, .ifCond .ne 9, 3), (12, .aload_n 0, 1), (13, .iconst 1, 1)] := dz_sg _ 0 (by decide +kernel)
theorem dX8_need_0 : decode cX8_need 0 = .ok (.iload_n 2, 1) := sdX8_need_0.1
theorem dX8_need_1 : decode cX8_need 1 = .ok (.i2l, 1) := sdX8_need_0.2.1
theorem dX8_need_2 : decode cX8_need 2 = .ok (.lconst 0, 1) := sdX8_need_0.2.2.1
theorem dX8_need_3 : decode cX8_need 3 = .ok (.ldc2_w 442, 3) := sdX8_need_0.2.2.2.1
theorem dX8_need_6 : decode cX8_need 6 = .ok (.invokestatic 128, 3) := sdX8_need_0.2.2.2.2.1
theorem dX8_need_9 : decode cX8_need 9 = .ok (.ifCond .ne 9, 3) := sdX8_need_0.2.2.2.2.2.1
theorem dX8_need_12 : decode cX8_need 12 = .ok (.aload_n 0, 1) := sdX8_need_0.2.2.2.2.2.2.1
theorem dX8_need_13 : decode cX8_need 13 = .ok (.iconst 1, 1) := sdX8_need_0.2.2.2.2.2.2.2.1
theorem sdX8_need_14 : dz_Seg cX8_need [(14, .invokevirtual 263, 3), (17, .ireturn, 1), (18, .aload_n 0, 1), (19, .iload_n 1, 1), (20, .invokevirtual 293, 3), (23, .ifCond .ne 9, 3), (26, .aload_n 0, 1), (27, .iconst 2, 1)] := dz_sg _ 14 (by decide +kernel)
theorem dX8_need_14 : decode cX8_need 14 = .ok (.invokevirtual 263, 3) := sdX8_need_14.1
theorem dX8_need_17 : decode cX8_need 17 = .ok (.ireturn, 1) := sdX8_need_14.2.1
theorem dX8_need_18 : decode cX8_need 18 = .ok (.aload_n 0, 1) := sdX8_need_14.2.2.1
theorem dX8_need_19 : decode cX8_need 19 = .ok (.iload_n 1, 1) := sdX8_need_14.2.2.2.1
theorem dX8_need_20 : decode cX8_need 20 = .ok (.invokevirtual 293, 3) := sdX8_need_14.2.2.2.2.1
theorem dX8_need_23 : decode cX8_need 23 = .ok (.ifCond .ne 9, 3) := sdX8_need_14.2.2.2.2.2.1
theorem dX8_need_26 : decode cX8_need 26 = .ok (.aload_n 0, 1) := sdX8_need_14.2.2.2.2.2.2.1
theorem dX8_need_27 : decode cX8_need 27 = .ok (.iconst 2, 1) := sdX8_need_14.2.2.2.2.2.2.2.1
theorem sdX8_need_28 : dz_Seg cX8_need [(28, .invokevirtual 263, 3), (31, .ireturn, 1), (32, .aload_n 0, 1), (33, .getfield 7, 3), (36, .bipush 10, 2), (38, .iload_n 1, 1), (39, .iadd, 1), (40, .iaload, 1)] := dz_sg _ 28 (by decide +kernel)
theorem dX8_need_28 : decode cX8_need 28 = .ok (.invokevirtual 263, 3) := sdX8_need_28.1
theorem dX8_need_31 : decode cX8_need 31 = .ok (.ireturn, 1) := sdX8_need_28.2.1
theorem dX8_need_32 : decode cX8_need 32 = .ok (.aload_n 0, 1) := sdX8_need_28.2.2.1
theorem dX8_need_33 : decode cX8_need 33 = .ok (.getfield 7, 3) := sdX8_need_28.2.2.2.1
theorem dX8_need_36 : decode cX8_need 36 = .ok (.bipush 10, 2) := sdX8_need_28.2.2.2.2.1
theorem dX8_need_38 : decode cX8_need 38 = .ok (.iload_n 1, 1) := sdX8_need_28.2.2.2.2.2.1
theorem dX8_need_39 : decode cX8_need 39 = .ok (.iadd, 1) := sdX8_need_28.2.2.2.2.2.2.1
theorem dX8_need_40 : decode cX8_need 40 = .ok (.iaload, 1) := sdX8_need_28.2.2.2.2.2.2.2.1
theorem sdX8_need_41 : dz_Seg cX8_need [(41, .iconst (-1), 1), (42, .if_icmp .eq 10, 3), (45, .aload_n 0, 1), (46, .bipush 7, 2), (48, .invokevirtual 263, 3), (51, .ireturn, 1), (52, .aload_n 0, 1), (53, .invokevirtual 429, 3)] := dz_sg _ 41 (by decide +kernel)
theorem dX8_need_41 : decode cX8_need 41 = .ok (.iconst (-1), 1) := sdX8_need_41.1
theorem dX8_need_42 : decode cX8_need 42 = .ok (.if_icmp .eq 10, 3) := sdX8_need_41.2.1
theorem dX8_need_45 : decode cX8_need 45 = .ok (.aload_n 0, 1) := sdX8_need_41.2.2.1
theorem dX8_need_46 : decode cX8_need 46 = .ok (.bipush 7, 2) := sdX8_need_41.2.2.2.1
theorem dX8_need_48 : decode cX8_need 48 = .ok (.invokevirtual 263, 3) := sdX8_need_41.2.2.2.2.1
theorem dX8_need_51 : decode cX8_need 51 = .ok (.ireturn, 1) := sdX8_need_41.2.2.2.2.2.1
theorem dX8_need_52 : decode cX8_need 52 = .ok (.aload_n 0, 1) := sdX8_need_41.2.2.2.2.2.2.1
theorem dX8_need_53 : decode cX8_need 53 = .ok (.invokevirtual 429, 3) := sdX8_need_41.2.2.2.2.2.2.2.1
theorem sdX8_need_56 : dz_Seg cX8_need [(56, .ifCond .eq 9, 3), (59, .aload_n 0, 1), (60, .iconst 3, 1), (61, .invokevirtual 263, 3), (64, .ireturn, 1), (65, .aload_n 0, 1), (66, .iload_n 1, 1), (67, .invokevirtual 296, 3)] := dz_sg _ 56 (by decide +kernel)
theorem dX8_need_56 : decode cX8_need 56 = .ok (.ifCond .eq 9, 3) := sdX8_need_56.1
theorem dX8_need_59 : decode cX8_need 59 = .ok (.aload_n 0, 1) := sdX8_need_56.2.1
theorem dX8_need_60 : decode cX8_need 60 = .ok (.iconst 3, 1) := sdX8_need_56.2.2.1
theorem dX8_need_61 : decode cX8_need 61 = .ok (.invokevirtual 263, 3) := sdX8_need_56.2.2.2.1
theorem dX8_need_64 : decode cX8_need 64 = .ok (.ireturn, 1) := sdX8_need_56.2.2.2.2.1
theorem dX8_need_65 : decode cX8_need 65 = .ok (.aload_n 0, 1) := sdX8_need_56.2.2.2.2.2.1
theorem dX8_need_66 : decode cX8_need 66 = .ok (.iload_n 1, 1) := sdX8_need_56.2.2.2.2.2.2.1
theorem dX8_need_67 : decode cX8_need 67 = .ok (.invokevirtual 296, 3) := sdX8_need_56.2.2.2.2.2.2.2.1
theorem sdX8_need_70 : dz_Seg cX8_need [(70, .istore_n 3, 1), (71, .aload_n 0, 1), (72, .invokevirtual 444, 3), (75, .iconst (-1), 1), (76, .istore 4, 2), (78, .iconst 0, 1), (79, .istore 5, 2), (81, .iload 5, 2)] := dz_sg _ 70 (by decide +kernel)
theorem dX8_need_70 : decode cX8_need 70 = .ok (.istore_n 3, 1) := sdX8_need_70.1
theorem dX8_need_71 : decode cX8_need 71 = .ok (.aload_n 0, 1) := sdX8_need_70.2.1
theorem dX8_need_72 : decode cX8_need 72 = .ok (.invokevirtual 444, 3) := sdX8_need_70.2.2.1
theorem dX8_need_75 : decode cX8_need 75 = .ok (.iconst (-1), 1) := sdX8_need_70.2.2.2.1
theorem dX8_need_76 : decode cX8_need 76 = .ok (.istore 4, 2) := sdX8_need_70.2.2.2.2.1
theorem dX8_need_78 : decode cX8_need 78 = .ok (.iconst 0, 1) := sdX8_need_70.2.2.2.2.2.1
theorem dX8_need_79 : decode cX8_need 79 = .ok (.istore 5, 2) := sdX8_need_70.2.2.2.2.2.2.1
theorem dX8_need_81 : decode cX8_need 81 = .ok (.iload 5, 2) := sdX8_need_70.2.2.2.2.2.2.2.1
theorem sdX8_need_83 : dz_Seg cX8_need [(83, .bipush 20, 2), (85, .if_icmp .gt 52, 3), (88, .iload 4, 2), (90, .iconst (-1), 1), (91, .if_icmp .ne 46, 3), (94, .aload_n 0, 1), (95, .getfield 7, 3), (98, .iconst 0, 1)] := dz_sg _ 83 (by decide +kernel)
theorem dX8_need_83 : decode cX8_need 83 = .ok (.bipush 20, 2) := sdX8_need_83.1
theorem dX8_need_85 : decode cX8_need 85 = .ok (.if_icmp .gt 52, 3) := sdX8_need_83.2.1
theorem dX8_need_88 : decode cX8_need 88 = .ok (.iload 4, 2) := sdX8_need_83.2.2.1
theorem dX8_need_90 : decode cX8_need 90 = .ok (.iconst (-1), 1) := sdX8_need_83.2.2.2.1
theorem dX8_need_91 : decode cX8_need 91 = .ok (.if_icmp .ne 46, 3) := sdX8_need_83.2.2.2.2.1
theorem dX8_need_94 : decode cX8_need 94 = .ok (.aload_n 0, 1) := sdX8_need_83.2.2.2.2.2.1
theorem dX8_need_95 : decode cX8_need 95 = .ok (.getfield 7, 3) := sdX8_need_83.2.2.2.2.2.2.1
theorem dX8_need_98 : decode cX8_need 98 = .ok (.iconst 0, 1) := sdX8_need_83.2.2.2.2.2.2.2.1
theorem sdX8_need_99 : dz_Seg cX8_need [(99, .iload_n 1, 1), (100, .iadd, 1), (101, .iload 5, 2), (103, .iastore, 1), (104, .aload_n 0, 1), (105, .invokevirtual 432, 3), (108, .aload_n 0, 1), (109, .iload_n 3, 1)] := dz_sg _ 99 (by decide +kernel)
theorem dX8_need_99 : decode cX8_need 99 = .ok (.iload_n 1, 1) := sdX8_need_99.1
theorem dX8_need_100 : decode cX8_need 100 = .ok (.iadd, 1) := sdX8_need_99.2.1
theorem dX8_need_101 : decode cX8_need 101 = .ok (.iload 5, 2) := sdX8_need_99.2.2.1
theorem dX8_need_103 : decode cX8_need 103 = .ok (.iastore, 1) := sdX8_need_99.2.2.2.1
theorem dX8_need_104 : decode cX8_need 104 = .ok (.aload_n 0, 1) := sdX8_need_99.2.2.2.2.1
theorem dX8_need_105 : decode cX8_need 105 = .ok (.invokevirtual 432, 3) := sdX8_need_99.2.2.2.2.2.1
theorem dX8_need_108 : decode cX8_need 108 = .ok (.aload_n 0, 1) := sdX8_need_99.2.2.2.2.2.2.1
theorem dX8_need_109 : decode cX8_need 109 = .ok (.iload_n 3, 1) := sdX8_need_99.2.2.2.2.2.2.2.1
theorem sdX8_need_110 : dz_Seg cX8_need [(110, .invokevirtual 435, 3), (113, .ldc2_w 447, 3), (116, .ldiv, 1), (117, .iload_n 2, 1), (118, .i2l, 1), (119, .lcmp, 1), (120, .ifCond .lt 8, 3), (123, .iload 5, 2)] := dz_sg _ 110 (by decide +kernel)
theorem dX8_need_110 : decode cX8_need 110 = .ok (.invokevirtual 435, 3) := sdX8_need_110.1
theorem dX8_need_113 : decode cX8_need 113 = .ok (.ldc2_w 447, 3) := sdX8_need_110.2.1
theorem dX8_need_116 : decode cX8_need 116 = .ok (.ldiv, 1) := sdX8_need_110.2.2.1
theorem dX8_need_117 : decode cX8_need 117 = .ok (.iload_n 2, 1) := sdX8_need_110.2.2.2.1
theorem dX8_need_118 : decode cX8_need 118 = .ok (.i2l, 1) := sdX8_need_110.2.2.2.2.1
theorem dX8_need_119 : decode cX8_need 119 = .ok (.lcmp, 1) := sdX8_need_110.2.2.2.2.2.1
theorem dX8_need_120 : decode cX8_need 120 = .ok (.ifCond .lt 8, 3) := sdX8_need_110.2.2.2.2.2.2.1
theorem dX8_need_123 : decode cX8_need 123 = .ok (.iload 5, 2) := sdX8_need_110.2.2.2.2.2.2.2.1
theorem sdX8_need_125 : dz_Seg cX8_need [(125, .goto 4, 3), (128, .iconst (-1), 1), (129, .istore 4, 2), (131, .iinc 5 1, 3), (134, .goto (-53), 3), (137, .aload_n 0, 1), (138, .invokevirtual 449, 3), (141, .iload 4, 2)] := dz_sg _ 125 (by decide +kernel)
theorem dX8_need_125 : decode cX8_need 125 = .ok (.goto 4, 3) := sdX8_need_125.1
theorem dX8_need_128 : decode cX8_need 128 = .ok (.iconst (-1), 1) := sdX8_need_125.2.1
theorem dX8_need_129 : decode cX8_need 129 = .ok (.istore 4, 2) := sdX8_need_125.2.2.1
theorem dX8_need_131 : decode cX8_need 131 = .ok (.iinc 5 1, 3) := sdX8_need_125.2.2.2.1
theorem dX8_need_134 : decode cX8_need 134 = .ok (.goto (-53), 3) := sdX8_need_125.2.2.2.2.1
theorem dX8_need_137 : decode cX8_need 137 = .ok (.aload_n 0, 1) := sdX8_need_125.2.2.2.2.2.1
theorem dX8_need_138 : decode cX8_need 138 = .ok (.invokevirtual 449, 3) := sdX8_need_125.2.2.2.2.2.2.1
theorem dX8_need_141 : decode cX8_need 141 = .ok (.iload 4, 2) := sdX8_need_125.2.2.2.2.2.2.2.1
theorem sdX8_need_143 : dz_Seg cX8_need [(143, .iconst (-1), 1), (144, .if_icmp .ne 11, 3), (147, .aload_n 0, 1), (148, .iconst 5, 1), (149, .invokevirtual 263, 3), (152, .goto 9, 3), (155, .aload_n 0, 1), (156, .iload 4, 2)] := dz_sg _ 143 (by decide +kernel)
theorem dX8_need_143 : decode cX8_need 143 = .ok (.iconst (-1), 1) := sdX8_need_143.1
theorem dX8_need_144 : decode cX8_need 144 = .ok (.if_icmp .ne 11, 3) := sdX8_need_143.2.1
theorem dX8_need_147 : decode cX8_need 147 = .ok (.aload_n 0, 1) := sdX8_need_143.2.2.1
theorem dX8_need_148 : decode cX8_need 148 = .ok (.iconst 5, 1) := sdX8_need_143.2.2.2.1
theorem dX8_need_149 : decode cX8_need 149 = .ok (.invokevirtual 263, 3) := sdX8_need_143.2.2.2.2.1
theorem dX8_need_152 : decode cX8_need 152 = .ok (.goto 9, 3) := sdX8_need_143.2.2.2.2.2.1
theorem dX8_need_155 : decode cX8_need 155 = .ok (.aload_n 0, 1) := sdX8_need_143.2.2.2.2.2.2.1
theorem dX8_need_156 : decode cX8_need 156 = .ok (.iload 4, 2) := sdX8_need_143.2.2.2.2.2.2.2.1
theorem sdX8_need_158 : dz_Seg cX8_need [(158, .invokevirtual 272, 3), (161, .ireturn, 1)] := dz_sg _ 158 (by decide +kernel)
theorem dX8_need_158 : decode cX8_need 158 = .ok (.invokevirtual 272, 3) := sdX8_need_158.1
theorem dX8_need_161 : decode cX8_need 161 = .ok (.ireturn, 1) := sdX8_need_158.2.1
theorem sdX8_wisest_0 : dz_Seg cX8_wisest [(0, .aload_n 0, 1), (1, .invokevirtual 444, 3), (4, .iconst (-1), 1), (5, .istore_n 2, 1), (6, .aload_n 0, 1), (7, .ldc2_w 452, 3), (10, .putfield 454, 3), (13, .iconst 0, 1)] := dz_sg _ 0 (by decide +kernel)
theorem dX8_wisest_0 : decode cX8_wisest 0 = .ok (.aload_n 0, 1) := sdX8_wisest_0.1
theorem dX8_wisest_1 : decode cX8_wisest 1 = .ok (.invokevirtual 444, 3) := sdX8_wisest_0.2.1
theorem dX8_wisest_4 : decode cX8_wisest 4 = .ok (.iconst (-1), 1) := sdX8_wisest_0.2.2.1
theorem dX8_wisest_5 : decode cX8_wisest 5 = .ok (.istore_n 2, 1) := sdX8_wisest_0.2.2.2.1
theorem dX8_wisest_6 : decode cX8_wisest 6 = .ok (.aload_n 0, 1) := sdX8_wisest_0.2.2.2.2.1
theorem dX8_wisest_7 : decode cX8_wisest 7 = .ok (.ldc2_w 452, 3) := sdX8_wisest_0.2.2.2.2.2.1
theorem dX8_wisest_10 : decode cX8_wisest 10 = .ok (.putfield 454, 3) := sdX8_wisest_0.2.2.2.2.2.2.1
theorem dX8_wisest_13 : decode cX8_wisest 13 = .ok (.iconst 0, 1) := sdX8_wisest_0.2.2.2.2.2.2.2.1
theorem sdX8_wisest_14 : dz_Seg cX8_wisest [(14, .istore_n 3, 1), (15, .iload_n 3, 1), (16, .aload_n 0, 1), (17, .getfield 125, 3), (20, .if_icmp .ge 76, 3), (23, .iconst 0, 1), (24, .istore 4, 2), (26, .iload 4, 2)] := dz_sg _ 14 (by decide +kernel)
theorem dX8_wisest_14 : decode cX8_wisest 14 = .ok (.istore_n 3, 1) := sdX8_wisest_14.1
theorem dX8_wisest_15 : decode cX8_wisest 15 = .ok (.iload_n 3, 1) := sdX8_wisest_14.2.1
theorem dX8_wisest_16 : decode cX8_wisest 16 = .ok (.aload_n 0, 1) := sdX8_wisest_14.2.2.1
theorem dX8_wisest_17 : decode cX8_wisest 17 = .ok (.getfield 125, 3) := sdX8_wisest_14.2.2.2.1
theorem dX8_wisest_20 : decode cX8_wisest 20 = .ok (.if_icmp .ge 76, 3) := sdX8_wisest_14.2.2.2.2.1
theorem dX8_wisest_23 : decode cX8_wisest 23 = .ok (.iconst 0, 1) := sdX8_wisest_14.2.2.2.2.2.1
theorem dX8_wisest_24 : decode cX8_wisest 24 = .ok (.istore 4, 2) := sdX8_wisest_14.2.2.2.2.2.2.1
theorem dX8_wisest_26 : decode cX8_wisest 26 = .ok (.iload 4, 2) := sdX8_wisest_14.2.2.2.2.2.2.2.1
theorem sdX8_wisest_28 : dz_Seg cX8_wisest [(28, .iconst 3, 1), (29, .if_icmp .ge 33, 3), (32, .aload_n 0, 1), (33, .getfield 7, 3), (36, .aload_n 0, 1), (37, .getfield 55, 3), (40, .iload_n 1, 1), (41, .iaload, 1)] := dz_sg _ 28 (by decide +kernel)
theorem dX8_wisest_28 : decode cX8_wisest 28 = .ok (.iconst 3, 1) := sdX8_wisest_28.1
theorem dX8_wisest_29 : decode cX8_wisest 29 = .ok (.if_icmp .ge 33, 3) := sdX8_wisest_28.2.1
theorem dX8_wisest_32 : decode cX8_wisest 32 = .ok (.aload_n 0, 1) := sdX8_wisest_28.2.2.1
theorem dX8_wisest_33 : decode cX8_wisest 33 = .ok (.getfield 7, 3) := sdX8_wisest_28.2.2.2.1
theorem dX8_wisest_36 : decode cX8_wisest 36 = .ok (.aload_n 0, 1) := sdX8_wisest_28.2.2.2.2.1
theorem dX8_wisest_37 : decode cX8_wisest 37 = .ok (.getfield 55, 3) := sdX8_wisest_28.2.2.2.2.2.1
theorem dX8_wisest_40 : decode cX8_wisest 40 = .ok (.iload_n 1, 1) := sdX8_wisest_28.2.2.2.2.2.2.1
theorem dX8_wisest_41 : decode cX8_wisest 41 = .ok (.iaload, 1) := sdX8_wisest_28.2.2.2.2.2.2.2.1
theorem sdX8_wisest_42 : dz_Seg cX8_wisest [(42, .iload 4, 2), (44, .iadd, 1), (45, .iload 4, 2), (47, .ifCond .ne 7, 3), (50, .iload_n 3, 1), (51, .goto 4, 3), (54, .iconst (-1), 1), (55, .iastore, 1)] := dz_sg _ 42 (by decide +kernel)
theorem dX8_wisest_42 : decode cX8_wisest 42 = .ok (.iload 4, 2) := sdX8_wisest_42.1
theorem dX8_wisest_44 : decode cX8_wisest 44 = .ok (.iadd, 1) := sdX8_wisest_42.2.1
theorem dX8_wisest_45 : decode cX8_wisest 45 = .ok (.iload 4, 2) := sdX8_wisest_42.2.2.1
theorem dX8_wisest_47 : decode cX8_wisest 47 = .ok (.ifCond .ne 7, 3) := sdX8_wisest_42.2.2.2.1
theorem dX8_wisest_50 : decode cX8_wisest 50 = .ok (.iload_n 3, 1) := sdX8_wisest_42.2.2.2.2.1
theorem dX8_wisest_51 : decode cX8_wisest 51 = .ok (.goto 4, 3) := sdX8_wisest_42.2.2.2.2.2.1
theorem dX8_wisest_54 : decode cX8_wisest 54 = .ok (.iconst (-1), 1) := sdX8_wisest_42.2.2.2.2.2.2.1
theorem dX8_wisest_55 : decode cX8_wisest 55 = .ok (.iastore, 1) := sdX8_wisest_42.2.2.2.2.2.2.2.1
theorem sdX8_wisest_56 : dz_Seg cX8_wisest [(56, .iinc 4 1, 3), (59, .goto (-33), 3), (62, .aload_n 0, 1), (63, .invokevirtual 432, 3), (66, .aload_n 0, 1), (67, .iload_n 1, 1), (68, .invokevirtual 435, 3), (71, .aload_n 0, 1)] := dz_sg _ 56 (by decide +kernel)
theorem dX8_wisest_56 : decode cX8_wisest 56 = .ok (.iinc 4 1, 3) := sdX8_wisest_56.1
theorem dX8_wisest_59 : decode cX8_wisest 59 = .ok (.goto (-33), 3) := sdX8_wisest_56.2.1
theorem dX8_wisest_62 : decode cX8_wisest 62 = .ok (.aload_n 0, 1) := sdX8_wisest_56.2.2.1
theorem dX8_wisest_63 : decode cX8_wisest 63 = .ok (.invokevirtual 432, 3) := sdX8_wisest_56.2.2.2.1
theorem dX8_wisest_66 : decode cX8_wisest 66 = .ok (.aload_n 0, 1) := sdX8_wisest_56.2.2.2.2.1
theorem dX8_wisest_67 : decode cX8_wisest 67 = .ok (.iload_n 1, 1) := sdX8_wisest_56.2.2.2.2.2.1
theorem dX8_wisest_68 : decode cX8_wisest 68 = .ok (.invokevirtual 435, 3) := sdX8_wisest_56.2.2.2.2.2.2.1
theorem dX8_wisest_71 : decode cX8_wisest 71 = .ok (.aload_n 0, 1) := sdX8_wisest_56.2.2.2.2.2.2.2.1
theorem sdX8_wisest_72 : dz_Seg cX8_wisest [(72, .getfield 454, 3), (75, .lcmp, 1), (76, .ifCond .le 14, 3), (79, .iload_n 3, 1), (80, .istore_n 2, 1), (81, .aload_n 0, 1), (82, .aload_n 0, 1), (83, .iload_n 1, 1)] := dz_sg _ 72 (by decide +kernel)
theorem dX8_wisest_72 : decode cX8_wisest 72 = .ok (.getfield 454, 3) := sdX8_wisest_72.1
theorem dX8_wisest_75 : decode cX8_wisest 75 = .ok (.lcmp, 1) := sdX8_wisest_72.2.1
theorem dX8_wisest_76 : decode cX8_wisest 76 = .ok (.ifCond .le 14, 3) := sdX8_wisest_72.2.2.1
theorem dX8_wisest_79 : decode cX8_wisest 79 = .ok (.iload_n 3, 1) := sdX8_wisest_72.2.2.2.1
theorem dX8_wisest_80 : decode cX8_wisest 80 = .ok (.istore_n 2, 1) := sdX8_wisest_72.2.2.2.2.1
theorem dX8_wisest_81 : decode cX8_wisest 81 = .ok (.aload_n 0, 1) := sdX8_wisest_72.2.2.2.2.2.1
theorem dX8_wisest_82 : decode cX8_wisest 82 = .ok (.aload_n 0, 1) := sdX8_wisest_72.2.2.2.2.2.2.1
theorem dX8_wisest_83 : decode cX8_wisest 83 = .ok (.iload_n 1, 1) := sdX8_wisest_72.2.2.2.2.2.2.2.1
theorem sdX8_wisest_84 : dz_Seg cX8_wisest [(84, .invokevirtual 435, 3), (87, .putfield 454, 3), (90, .iinc 3 1, 3), (93, .goto (-78), 3), (96, .aload_n 0, 1), (97, .invokevirtual 449, 3), (100, .iload_n 2, 1), (101, .ireturn, 1)] := dz_sg _ 84 (by decide +kernel)
theorem dX8_wisest_84 : decode cX8_wisest 84 = .ok (.invokevirtual 435, 3) := sdX8_wisest_84.1
theorem dX8_wisest_87 : decode cX8_wisest 87 = .ok (.putfield 454, 3) := sdX8_wisest_84.2.1
theorem dX8_wisest_90 : decode cX8_wisest 90 = .ok (.iinc 3 1, 3) := sdX8_wisest_84.2.2.1
theorem dX8_wisest_93 : decode cX8_wisest 93 = .ok (.goto (-78), 3) := sdX8_wisest_84.2.2.2.1
theorem dX8_wisest_96 : decode cX8_wisest 96 = .ok (.aload_n 0, 1) := sdX8_wisest_84.2.2.2.2.1
theorem dX8_wisest_97 : decode cX8_wisest 97 = .ok (.invokevirtual 449, 3) := sdX8_wisest_84.2.2.2.2.2.1
theorem dX8_wisest_100 : decode cX8_wisest 100 = .ok (.iload_n 2, 1) := sdX8_wisest_84.2.2.2.2.2.2.1
theorem dX8_wisest_101 : decode cX8_wisest 101 = .ok (.ireturn, 1) := sdX8_wisest_84.2.2.2.2.2.2.2.1
theorem sdX8_wise_0 : dz_Seg cX8_wise [(0, .aload_n 0, 1), (1, .iload_n 1, 1), (2, .invokevirtual 315, 3), (5, .ifCond .ne 9, 3), (8, .aload_n 0, 1), (9, .iconst 2, 1), (10, .invokevirtual 263, 3), (13, .ireturn, 1)] := dz_sg _ 0 (by decide +kernel)
theorem dX8_wise_0 : decode cX8_wise 0 = .ok (.aload_n 0, 1) := sdX8_wise_0.1
theorem dX8_wise_1 : decode cX8_wise 1 = .ok (.iload_n 1, 1) := sdX8_wise_0.2.1
theorem dX8_wise_2 : decode cX8_wise 2 = .ok (.invokevirtual 315, 3) := sdX8_wise_0.2.2.1
theorem dX8_wise_5 : decode cX8_wise 5 = .ok (.ifCond .ne 9, 3) := sdX8_wise_0.2.2.2.1
theorem dX8_wise_8 : decode cX8_wise 8 = .ok (.aload_n 0, 1) := sdX8_wise_0.2.2.2.2.1
theorem dX8_wise_9 : decode cX8_wise 9 = .ok (.iconst 2, 1) := sdX8_wise_0.2.2.2.2.2.1
theorem dX8_wise_10 : decode cX8_wise 10 = .ok (.invokevirtual 263, 3) := sdX8_wise_0.2.2.2.2.2.2.1
theorem dX8_wise_13 : decode cX8_wise 13 = .ok (.ireturn, 1) := sdX8_wise_0.2.2.2.2.2.2.2.1
theorem sdX8_wise_14 : dz_Seg cX8_wise [(14, .aload_n 0, 1), (15, .invokevirtual 429, 3), (18, .ifCond .eq 9, 3), (21, .aload_n 0, 1), (22, .iconst 3, 1), (23, .invokevirtual 263, 3), (26, .ireturn, 1), (27, .aload_n 0, 1)] := dz_sg _ 14 (by decide +kernel)
theorem dX8_wise_14 : decode cX8_wise 14 = .ok (.aload_n 0, 1) := sdX8_wise_14.1
theorem dX8_wise_15 : decode cX8_wise 15 = .ok (.invokevirtual 429, 3) := sdX8_wise_14.2.1
theorem dX8_wise_18 : decode cX8_wise 18 = .ok (.ifCond .eq 9, 3) := sdX8_wise_14.2.2.1
theorem dX8_wise_21 : decode cX8_wise 21 = .ok (.aload_n 0, 1) := sdX8_wise_14.2.2.2.1
theorem dX8_wise_22 : decode cX8_wise 22 = .ok (.iconst 3, 1) := sdX8_wise_14.2.2.2.2.1
theorem dX8_wise_23 : decode cX8_wise 23 = .ok (.invokevirtual 263, 3) := sdX8_wise_14.2.2.2.2.2.1
theorem dX8_wise_26 : decode cX8_wise 26 = .ok (.ireturn, 1) := sdX8_wise_14.2.2.2.2.2.2.1
theorem dX8_wise_27 : decode cX8_wise 27 = .ok (.aload_n 0, 1) := sdX8_wise_14.2.2.2.2.2.2.2.1
theorem sdX8_wise_28 : dz_Seg cX8_wise [(28, .iload_n 1, 1), (29, .invokevirtual 457, 3), (32, .istore_n 2, 1), (33, .iload_n 2, 1), (34, .iconst (-1), 1), (35, .if_icmp .ne 11, 3), (38, .aload_n 0, 1), (39, .iconst 5, 1)] := dz_sg _ 28 (by decide +kernel)
theorem dX8_wise_28 : decode cX8_wise 28 = .ok (.iload_n 1, 1) := sdX8_wise_28.1
theorem dX8_wise_29 : decode cX8_wise 29 = .ok (.invokevirtual 457, 3) := sdX8_wise_28.2.1
theorem dX8_wise_32 : decode cX8_wise 32 = .ok (.istore_n 2, 1) := sdX8_wise_28.2.2.1
theorem dX8_wise_33 : decode cX8_wise 33 = .ok (.iload_n 2, 1) := sdX8_wise_28.2.2.2.1
theorem dX8_wise_34 : decode cX8_wise 34 = .ok (.iconst (-1), 1) := sdX8_wise_28.2.2.2.2.1
theorem dX8_wise_35 : decode cX8_wise 35 = .ok (.if_icmp .ne 11, 3) := sdX8_wise_28.2.2.2.2.2.1
theorem dX8_wise_38 : decode cX8_wise 38 = .ok (.aload_n 0, 1) := sdX8_wise_28.2.2.2.2.2.2.1
theorem dX8_wise_39 : decode cX8_wise 39 = .ok (.iconst 5, 1) := sdX8_wise_28.2.2.2.2.2.2.2.1
theorem sdX8_wise_40 : dz_Seg cX8_wise [(40, .invokevirtual 263, 3), (43, .goto 8, 3), (46, .aload_n 0, 1), (47, .iload_n 2, 1), (48, .invokevirtual 272, 3), (51, .ireturn, 1)] := dz_sg _ 40 (by decide +kernel)
theorem dX8_wise_40 : decode cX8_wise 40 = .ok (.invokevirtual 263, 3) := sdX8_wise_40.1
theorem dX8_wise_43 : decode cX8_wise 43 = .ok (.goto 8, 3) := sdX8_wise_40.2.1
theorem dX8_wise_46 : decode cX8_wise 46 = .ok (.aload_n 0, 1) := sdX8_wise_40.2.2.1
theorem dX8_wise_47 : decode cX8_wise 47 = .ok (.iload_n 2, 1) := sdX8_wise_40.2.2.2.1
theorem dX8_wise_48 : decode cX8_wise 48 = .ok (.invokevirtual 272, 3) := sdX8_wise_40.2.2.2.2.1
theorem dX8_wise_51 : decode cX8_wise 51 = .ok (.ireturn, 1) := sdX8_wise_40.2.2.2.2.2.1
theorem sdX8_wiseChance_0 : dz_Seg cX8_wiseChance [(0, .aload_n 0, 1), (1, .iload_n 1, 1), (2, .invokevirtual 315, 3), (5, .ifCond .ne 10, 3), (8, .aload_n 0, 1), (9, .iconst 2, 1), (10, .invokevirtual 263, 3), (13, .i2l, 1)] := dz_sg _ 0 (by decide +kernel)
theorem dX8_wiseChance_0 : decode cX8_wiseChance 0 = .ok (.aload_n 0, 1) := sdX8_wiseChance_0.1
theorem dX8_wiseChance_1 : decode cX8_wiseChance 1 = .ok (.iload_n 1, 1) := sdX8_wiseChance_0.2.1
theorem dX8_wiseChance_2 : decode cX8_wiseChance 2 = .ok (.invokevirtual 315, 3) := sdX8_wiseChance_0.2.2.1
theorem dX8_wiseChance_5 : decode cX8_wiseChance 5 = .ok (.ifCond .ne 10, 3) := sdX8_wiseChance_0.2.2.2.1
theorem dX8_wiseChance_8 : decode cX8_wiseChance 8 = .ok (.aload_n 0, 1) := sdX8_wiseChance_0.2.2.2.2.1
theorem dX8_wiseChance_9 : decode cX8_wiseChance 9 = .ok (.iconst 2, 1) := sdX8_wiseChance_0.2.2.2.2.2.1
theorem dX8_wiseChance_10 : decode cX8_wiseChance 10 = .ok (.invokevirtual 263, 3) := sdX8_wiseChance_0.2.2.2.2.2.2.1
theorem dX8_wiseChance_13 : decode cX8_wiseChance 13 = .ok (.i2l, 1) := sdX8_wiseChance_0.2.2.2.2.2.2.2.1
theorem sdX8_wiseChance_14 : dz_Seg cX8_wiseChance [(14, .lreturn, 1), (15, .aload_n 0, 1), (16, .invokevirtual 429, 3), (19, .ifCond .eq 10, 3), (22, .aload_n 0, 1), (23, .iconst 3, 1), (24, .invokevirtual 263, 3), (27, .i2l, 1)] := dz_sg _ 14 (by decide +kernel)
theorem dX8_wiseChance_14 : decode cX8_wiseChance 14 = .ok (.lreturn, 1) := sdX8_wiseChance_14.1
theorem dX8_wiseChance_15 : decode cX8_wiseChance 15 = .ok (.aload_n 0, 1) := sdX8_wiseChance_14.2.1
theorem dX8_wiseChance_16 : decode cX8_wiseChance 16 = .ok (.invokevirtual 429, 3) := sdX8_wiseChance_14.2.2.1
theorem dX8_wiseChance_19 : decode cX8_wiseChance 19 = .ok (.ifCond .eq 10, 3) := sdX8_wiseChance_14.2.2.2.1
theorem dX8_wiseChance_22 : decode cX8_wiseChance 22 = .ok (.aload_n 0, 1) := sdX8_wiseChance_14.2.2.2.2.1
theorem dX8_wiseChance_23 : decode cX8_wiseChance 23 = .ok (.iconst 3, 1) := sdX8_wiseChance_14.2.2.2.2.2.1
theorem dX8_wiseChance_24 : decode cX8_wiseChance 24 = .ok (.invokevirtual 263, 3) := sdX8_wiseChance_14.2.2.2.2.2.2.1
theorem dX8_wiseChance_27 : decode cX8_wiseChance 27 = .ok (.i2l, 1) := sdX8_wiseChance_14.2.2.2.2.2.2.2.1
theorem sdX8_wiseChance_28 : dz_Seg cX8_wiseChance [(28, .lreturn, 1), (29, .aload_n 0, 1), (30, .iload_n 1, 1), (31, .invokevirtual 457, 3), (34, .iconst (-1), 1), (35, .if_icmp .ne 12, 3), (38, .aload_n 0, 1), (39, .iconst 5, 1)] := dz_sg _ 28 (by decide +kernel)
theorem dX8_wiseChance_28 : decode cX8_wiseChance 28 = .ok (.lreturn, 1) := sdX8_wiseChance_28.1
theorem dX8_wiseChance_29 : decode cX8_wiseChance 29 = .ok (.aload_n 0, 1) := sdX8_wiseChance_28.2.1
theorem dX8_wiseChance_30 : decode cX8_wiseChance 30 = .ok (.iload_n 1, 1) := sdX8_wiseChance_28.2.2.1
theorem dX8_wiseChance_31 : decode cX8_wiseChance 31 = .ok (.invokevirtual 457, 3) := sdX8_wiseChance_28.2.2.2.1
theorem dX8_wiseChance_34 : decode cX8_wiseChance 34 = .ok (.iconst (-1), 1) := sdX8_wiseChance_28.2.2.2.2.1
theorem dX8_wiseChance_35 : decode cX8_wiseChance 35 = .ok (.if_icmp .ne 12, 3) := sdX8_wiseChance_28.2.2.2.2.2.1
theorem dX8_wiseChance_38 : decode cX8_wiseChance 38 = .ok (.aload_n 0, 1) := sdX8_wiseChance_28.2.2.2.2.2.2.1
theorem dX8_wiseChance_39 : decode cX8_wiseChance 39 = .ok (.iconst 5, 1) := sdX8_wiseChance_28.2.2.2.2.2.2.2.1
theorem sdX8_wiseChance_40 : dz_Seg cX8_wiseChance [(40, .invokevirtual 263, 3), (43, .i2l, 1), (44, .goto 11, 3), (47, .aload_n 0, 1), (48, .aload_n 0, 1), (49, .getfield 454, 3), (52, .invokevirtual 438, 3), (55, .lreturn, 1)] := dz_sg _ 40 (by decide +kernel)
theorem dX8_wiseChance_40 : decode cX8_wiseChance 40 = .ok (.invokevirtual 263, 3) := sdX8_wiseChance_40.1
theorem dX8_wiseChance_43 : decode cX8_wiseChance 43 = .ok (.i2l, 1) := sdX8_wiseChance_40.2.1
theorem dX8_wiseChance_44 : decode cX8_wiseChance 44 = .ok (.goto 11, 3) := sdX8_wiseChance_40.2.2.1
theorem dX8_wiseChance_47 : decode cX8_wiseChance 47 = .ok (.aload_n 0, 1) := sdX8_wiseChance_40.2.2.2.1
theorem dX8_wiseChance_48 : decode cX8_wiseChance 48 = .ok (.aload_n 0, 1) := sdX8_wiseChance_40.2.2.2.2.1
theorem dX8_wiseChance_49 : decode cX8_wiseChance 49 = .ok (.getfield 454, 3) := sdX8_wiseChance_40.2.2.2.2.2.1
theorem dX8_wiseChance_52 : decode cX8_wiseChance 52 = .ok (.invokevirtual 438, 3) := sdX8_wiseChance_40.2.2.2.2.2.2.1
theorem dX8_wiseChance_55 : decode cX8_wiseChance 55 = .ok (.lreturn, 1) := sdX8_wiseChance_40.2.2.2.2.2.2.2.1
theorem sdX8_together_0 : dz_Seg cX8_together [(0, .aload_n 0, 1), (1, .iload_n 1, 1), (2, .invokevirtual 293, 3), (5, .ifCond .eq 11, 3), (8, .aload_n 0, 1), (9, .iload_n 2, 1), (10, .invokevirtual 293, 3), (13, .ifCond .ne 10, 3)] := dz_sg _ 0 (by decide +kernel)
theorem dX8_together_0 : decode cX8_together 0 = .ok (.aload_n 0, 1) := sdX8_together_0.1
theorem dX8_together_1 : decode cX8_together 1 = .ok (.iload_n 1, 1) := sdX8_together_0.2.1
theorem dX8_together_2 : decode cX8_together 2 = .ok (.invokevirtual 293, 3) := sdX8_together_0.2.2.1
theorem dX8_together_5 : decode cX8_together 5 = .ok (.ifCond .eq 11, 3) := sdX8_together_0.2.2.2.1
theorem dX8_together_8 : decode cX8_together 8 = .ok (.aload_n 0, 1) := sdX8_together_0.2.2.2.2.1
theorem dX8_together_9 : decode cX8_together 9 = .ok (.iload_n 2, 1) := sdX8_together_0.2.2.2.2.2.1
theorem dX8_together_10 : decode cX8_together 10 = .ok (.invokevirtual 293, 3) := sdX8_together_0.2.2.2.2.2.2.1
theorem dX8_together_13 : decode cX8_together 13 = .ok (.ifCond .ne 10, 3) := sdX8_together_0.2.2.2.2.2.2.2.1
theorem sdX8_together_16 : dz_Seg cX8_together [(16, .aload_n 0, 1), (17, .iconst 2, 1), (18, .invokevirtual 263, 3), (21, .i2l, 1), (22, .lreturn, 1), (23, .iload_n 1, 1), (24, .iload_n 2, 1), (25, .if_icmp .ne 10, 3)] := dz_sg _ 16 (by decide +kernel)
theorem dX8_together_16 : decode cX8_together 16 = .ok (.aload_n 0, 1) := sdX8_together_16.1
theorem dX8_together_17 : decode cX8_together 17 = .ok (.iconst 2, 1) := sdX8_together_16.2.1
theorem dX8_together_18 : decode cX8_together 18 = .ok (.invokevirtual 263, 3) := sdX8_together_16.2.2.1
theorem dX8_together_21 : decode cX8_together 21 = .ok (.i2l, 1) := sdX8_together_16.2.2.2.1
theorem dX8_together_22 : decode cX8_together 22 = .ok (.lreturn, 1) := sdX8_together_16.2.2.2.2.1
theorem dX8_together_23 : decode cX8_together 23 = .ok (.iload_n 1, 1) := sdX8_together_16.2.2.2.2.2.1
theorem dX8_together_24 : decode cX8_together 24 = .ok (.iload_n 2, 1) := sdX8_together_16.2.2.2.2.2.2.1
theorem dX8_together_25 : decode cX8_together 25 = .ok (.if_icmp .ne 10, 3) := sdX8_together_16.2.2.2.2.2.2.2.1
theorem sdX8_together_28 : dz_Seg cX8_together [(28, .aload_n 0, 1), (29, .iconst 4, 1), (30, .invokevirtual 263, 3), (33, .i2l, 1), (34, .lreturn, 1), (35, .aload_n 0, 1), (36, .getfield 7, 3), (39, .bipush 10, 2)] := dz_sg _ 28 (by decide +kernel)
theorem dX8_together_28 : decode cX8_together 28 = .ok (.aload_n 0, 1) := sdX8_together_28.1
theorem dX8_together_29 : decode cX8_together 29 = .ok (.iconst 4, 1) := sdX8_together_28.2.1
theorem dX8_together_30 : decode cX8_together 30 = .ok (.invokevirtual 263, 3) := sdX8_together_28.2.2.1
theorem dX8_together_33 : decode cX8_together 33 = .ok (.i2l, 1) := sdX8_together_28.2.2.2.1
theorem dX8_together_34 : decode cX8_together 34 = .ok (.lreturn, 1) := sdX8_together_28.2.2.2.2.1
theorem dX8_together_35 : decode cX8_together 35 = .ok (.aload_n 0, 1) := sdX8_together_28.2.2.2.2.2.1
theorem dX8_together_36 : decode cX8_together 36 = .ok (.getfield 7, 3) := sdX8_together_28.2.2.2.2.2.2.1
theorem dX8_together_39 : decode cX8_together 39 = .ok (.bipush 10, 2) := sdX8_together_28.2.2.2.2.2.2.2.1
theorem sdX8_together_41 : dz_Seg cX8_together [(41, .iload_n 1, 1), (42, .iadd, 1), (43, .iaload, 1), (44, .iconst (-1), 1), (45, .if_icmp .ne 16, 3), (48, .aload_n 0, 1), (49, .getfield 7, 3), (52, .bipush 10, 2)] := dz_sg _ 41 (by decide +kernel)
theorem dX8_together_41 : decode cX8_together 41 = .ok (.iload_n 1, 1) := sdX8_together_41.1
theorem dX8_together_42 : decode cX8_together 42 = .ok (.iadd, 1) := sdX8_together_41.2.1
theorem dX8_together_43 : decode cX8_together 43 = .ok (.iaload, 1) := sdX8_together_41.2.2.1
theorem dX8_together_44 : decode cX8_together 44 = .ok (.iconst (-1), 1) := sdX8_together_41.2.2.2.1
theorem dX8_together_45 : decode cX8_together 45 = .ok (.if_icmp .ne 16, 3) := sdX8_together_41.2.2.2.2.1
theorem dX8_together_48 : decode cX8_together 48 = .ok (.aload_n 0, 1) := sdX8_together_41.2.2.2.2.2.1
theorem dX8_together_49 : decode cX8_together 49 = .ok (.getfield 7, 3) := sdX8_together_41.2.2.2.2.2.2.1
theorem dX8_together_52 : decode cX8_together 52 = .ok (.bipush 10, 2) := sdX8_together_41.2.2.2.2.2.2.2.1
theorem sdX8_together_54 : dz_Seg cX8_together [(54, .iload_n 2, 1), (55, .iadd, 1), (56, .iaload, 1), (57, .iconst (-1), 1), (58, .if_icmp .eq 11, 3), (61, .aload_n 0, 1), (62, .bipush 7, 2), (64, .invokevirtual 263, 3)] := dz_sg _ 54 (by decide +kernel)
theorem dX8_together_54 : decode cX8_together 54 = .ok (.iload_n 2, 1) := sdX8_together_54.1
theorem dX8_together_55 : decode cX8_together 55 = .ok (.iadd, 1) := sdX8_together_54.2.1
theorem dX8_together_56 : decode cX8_together 56 = .ok (.iaload, 1) := sdX8_together_54.2.2.1
theorem dX8_together_57 : decode cX8_together 57 = .ok (.iconst (-1), 1) := sdX8_together_54.2.2.2.1
theorem dX8_together_58 : decode cX8_together 58 = .ok (.if_icmp .eq 11, 3) := sdX8_together_54.2.2.2.2.1
theorem dX8_together_61 : decode cX8_together 61 = .ok (.aload_n 0, 1) := sdX8_together_54.2.2.2.2.2.1
theorem dX8_together_62 : decode cX8_together 62 = .ok (.bipush 7, 2) := sdX8_together_54.2.2.2.2.2.2.1
theorem dX8_together_64 : decode cX8_together 64 = .ok (.invokevirtual 263, 3) := sdX8_together_54.2.2.2.2.2.2.2.1
theorem sdX8_together_67 : dz_Seg cX8_together [(67, .i2l, 1), (68, .lreturn, 1), (69, .aload_n 0, 1), (70, .invokevirtual 281, 3), (73, .aload_n 0, 1), (74, .getfield 275, 3), (77, .bipush 8, 2), (79, .if_icmp .le 10, 3)] := dz_sg _ 67 (by decide +kernel)
theorem dX8_together_67 : decode cX8_together 67 = .ok (.i2l, 1) := sdX8_together_67.1
theorem dX8_together_68 : decode cX8_together 68 = .ok (.lreturn, 1) := sdX8_together_67.2.1
theorem dX8_together_69 : decode cX8_together 69 = .ok (.aload_n 0, 1) := sdX8_together_67.2.2.1
theorem dX8_together_70 : decode cX8_together 70 = .ok (.invokevirtual 281, 3) := sdX8_together_67.2.2.2.1
theorem dX8_together_73 : decode cX8_together 73 = .ok (.aload_n 0, 1) := sdX8_together_67.2.2.2.2.1
theorem dX8_together_74 : decode cX8_together 74 = .ok (.getfield 275, 3) := sdX8_together_67.2.2.2.2.2.1
theorem dX8_together_77 : decode cX8_together 77 = .ok (.bipush 8, 2) := sdX8_together_67.2.2.2.2.2.2.1
theorem dX8_together_79 : decode cX8_together 79 = .ok (.if_icmp .le 10, 3) := sdX8_together_67.2.2.2.2.2.2.2.1
theorem sdX8_together_82 : dz_Seg cX8_together [(82, .aload_n 0, 1), (83, .iconst 3, 1), (84, .invokevirtual 263, 3), (87, .i2l, 1), (88, .lreturn, 1), (89, .aload_n 0, 1), (90, .iload_n 1, 1), (91, .iload_n 2, 1)] := dz_sg _ 82 (by decide +kernel)
theorem dX8_together_82 : decode cX8_together 82 = .ok (.aload_n 0, 1) := sdX8_together_82.1
theorem dX8_together_83 : decode cX8_together 83 = .ok (.iconst 3, 1) := sdX8_together_82.2.1
theorem dX8_together_84 : decode cX8_together 84 = .ok (.invokevirtual 263, 3) := sdX8_together_82.2.2.1
theorem dX8_together_87 : decode cX8_together 87 = .ok (.i2l, 1) := sdX8_together_82.2.2.2.1
theorem dX8_together_88 : decode cX8_together 88 = .ok (.lreturn, 1) := sdX8_together_82.2.2.2.2.1
theorem dX8_together_89 : decode cX8_together 89 = .ok (.aload_n 0, 1) := sdX8_together_82.2.2.2.2.2.1
theorem dX8_together_90 : decode cX8_together 90 = .ok (.iload_n 1, 1) := sdX8_together_82.2.2.2.2.2.2.1
theorem dX8_together_91 : decode cX8_together 91 = .ok (.iload_n 2, 1) := sdX8_together_82.2.2.2.2.2.2.2.1
theorem sdX8_together_92 : dz_Seg cX8_together [(92, .invokevirtual 460, 3), (95, .istore_n 3, 1), (96, .aload_n 0, 1), (97, .invokevirtual 390, 3), (100, .aload_n 0, 1), (101, .aload_n 0, 1), (102, .iload_n 3, 1), (103, .invokevirtual 435, 3)] := dz_sg _ 92 (by decide +kernel)
theorem dX8_together_92 : decode cX8_together 92 = .ok (.invokevirtual 460, 3) := sdX8_together_92.1
theorem dX8_together_95 : decode cX8_together 95 = .ok (.istore_n 3, 1) := sdX8_together_92.2.1
theorem dX8_together_96 : decode cX8_together 96 = .ok (.aload_n 0, 1) := sdX8_together_92.2.2.1
theorem dX8_together_97 : decode cX8_together 97 = .ok (.invokevirtual 390, 3) := sdX8_together_92.2.2.2.1
theorem dX8_together_100 : decode cX8_together 100 = .ok (.aload_n 0, 1) := sdX8_together_92.2.2.2.2.1
theorem dX8_together_101 : decode cX8_together 101 = .ok (.aload_n 0, 1) := sdX8_together_92.2.2.2.2.2.1
theorem dX8_together_102 : decode cX8_together 102 = .ok (.iload_n 3, 1) := sdX8_together_92.2.2.2.2.2.2.1
theorem dX8_together_103 : decode cX8_together 103 = .ok (.invokevirtual 435, 3) := sdX8_together_92.2.2.2.2.2.2.2.1
theorem sdX8_together_106 : dz_Seg cX8_together [(106, .invokevirtual 438, 3), (109, .lreturn, 1)] := dz_sg _ 106 (by decide +kernel)
theorem dX8_together_106 : decode cX8_together 106 = .ok (.invokevirtual 438, 3) := sdX8_together_106.1
theorem dX8_together_109 : decode cX8_together 109 = .ok (.lreturn, 1) := sdX8_together_106.2.1
theorem sdX8_laysJoined_0 : dz_Seg cX8_laysJoined [(0, .iconst 0, 1), (1, .istore_n 3, 1), (2, .iconst 0, 1), (3, .istore 4, 2), (5, .iload 4, 2), (7, .aload_n 0, 1), (8, .getfield 275, 3), (11, .if_icmp .ge 80, 3)] := dz_sg _ 0 (by decide +kernel)
theorem dX8_laysJoined_0 : decode cX8_laysJoined 0 = .ok (.iconst 0, 1) := sdX8_laysJoined_0.1
theorem dX8_laysJoined_1 : decode cX8_laysJoined 1 = .ok (.istore_n 3, 1) := sdX8_laysJoined_0.2.1
theorem dX8_laysJoined_2 : decode cX8_laysJoined 2 = .ok (.iconst 0, 1) := sdX8_laysJoined_0.2.2.1
theorem dX8_laysJoined_3 : decode cX8_laysJoined 3 = .ok (.istore 4, 2) := sdX8_laysJoined_0.2.2.2.1
theorem dX8_laysJoined_5 : decode cX8_laysJoined 5 = .ok (.iload 4, 2) := sdX8_laysJoined_0.2.2.2.2.1
theorem dX8_laysJoined_7 : decode cX8_laysJoined 7 = .ok (.aload_n 0, 1) := sdX8_laysJoined_0.2.2.2.2.2.1
theorem dX8_laysJoined_8 : decode cX8_laysJoined 8 = .ok (.getfield 275, 3) := sdX8_laysJoined_0.2.2.2.2.2.2.1
theorem dX8_laysJoined_11 : decode cX8_laysJoined 11 = .ok (.if_icmp .ge 80, 3) := sdX8_laysJoined_0.2.2.2.2.2.2.2.1
theorem sdX8_laysJoined_14 : dz_Seg cX8_laysJoined [(14, .aload_n 0, 1), (15, .getfield 49, 3), (18, .iload 4, 2), (20, .iaload, 1), (21, .iconst 1, 1), (22, .iload_n 1, 1), (23, .ishl, 1), (24, .if_icmp .eq 61, 3)] := dz_sg _ 14 (by decide +kernel)
theorem dX8_laysJoined_14 : decode cX8_laysJoined 14 = .ok (.aload_n 0, 1) := sdX8_laysJoined_14.1
theorem dX8_laysJoined_15 : decode cX8_laysJoined 15 = .ok (.getfield 49, 3) := sdX8_laysJoined_14.2.1
theorem dX8_laysJoined_18 : decode cX8_laysJoined 18 = .ok (.iload 4, 2) := sdX8_laysJoined_14.2.2.1
theorem dX8_laysJoined_20 : decode cX8_laysJoined 20 = .ok (.iaload, 1) := sdX8_laysJoined_14.2.2.2.1
theorem dX8_laysJoined_21 : decode cX8_laysJoined 21 = .ok (.iconst 1, 1) := sdX8_laysJoined_14.2.2.2.2.1
theorem dX8_laysJoined_22 : decode cX8_laysJoined 22 = .ok (.iload_n 1, 1) := sdX8_laysJoined_14.2.2.2.2.2.1
theorem dX8_laysJoined_23 : decode cX8_laysJoined 23 = .ok (.ishl, 1) := sdX8_laysJoined_14.2.2.2.2.2.2.1
theorem dX8_laysJoined_24 : decode cX8_laysJoined 24 = .ok (.if_icmp .eq 61, 3) := sdX8_laysJoined_14.2.2.2.2.2.2.2.1
theorem sdX8_laysJoined_27 : dz_Seg cX8_laysJoined [(27, .aload_n 0, 1), (28, .getfield 49, 3), (31, .iload 4, 2), (33, .iaload, 1), (34, .iconst 1, 1), (35, .iload_n 2, 1), (36, .ishl, 1), (37, .if_icmp .ne 6, 3)] := dz_sg _ 27 (by decide +kernel)
theorem dX8_laysJoined_27 : decode cX8_laysJoined 27 = .ok (.aload_n 0, 1) := sdX8_laysJoined_27.1
theorem dX8_laysJoined_28 : decode cX8_laysJoined 28 = .ok (.getfield 49, 3) := sdX8_laysJoined_27.2.1
theorem dX8_laysJoined_31 : decode cX8_laysJoined 31 = .ok (.iload 4, 2) := sdX8_laysJoined_27.2.2.1
theorem dX8_laysJoined_33 : decode cX8_laysJoined 33 = .ok (.iaload, 1) := sdX8_laysJoined_27.2.2.2.1
theorem dX8_laysJoined_34 : decode cX8_laysJoined 34 = .ok (.iconst 1, 1) := sdX8_laysJoined_27.2.2.2.2.1
theorem dX8_laysJoined_35 : decode cX8_laysJoined 35 = .ok (.iload_n 2, 1) := sdX8_laysJoined_27.2.2.2.2.2.1
theorem dX8_laysJoined_36 : decode cX8_laysJoined 36 = .ok (.ishl, 1) := sdX8_laysJoined_27.2.2.2.2.2.2.1
theorem dX8_laysJoined_37 : decode cX8_laysJoined 37 = .ok (.if_icmp .ne 6, 3) := sdX8_laysJoined_27.2.2.2.2.2.2.2.1
theorem sdX8_laysJoined_40 : dz_Seg cX8_laysJoined [(40, .goto 45, 3), (43, .aload_n 0, 1), (44, .getfield 49, 3), (47, .iload_n 3, 1), (48, .aload_n 0, 1), (49, .getfield 49, 3), (52, .iload 4, 2), (54, .iaload, 1)] := dz_sg _ 40 (by decide +kernel)
theorem dX8_laysJoined_40 : decode cX8_laysJoined 40 = .ok (.goto 45, 3) := sdX8_laysJoined_40.1
theorem dX8_laysJoined_43 : decode cX8_laysJoined 43 = .ok (.aload_n 0, 1) := sdX8_laysJoined_40.2.1
theorem dX8_laysJoined_44 : decode cX8_laysJoined 44 = .ok (.getfield 49, 3) := sdX8_laysJoined_40.2.2.1
theorem dX8_laysJoined_47 : decode cX8_laysJoined 47 = .ok (.iload_n 3, 1) := sdX8_laysJoined_40.2.2.2.1
theorem dX8_laysJoined_48 : decode cX8_laysJoined 48 = .ok (.aload_n 0, 1) := sdX8_laysJoined_40.2.2.2.2.1
theorem dX8_laysJoined_49 : decode cX8_laysJoined 49 = .ok (.getfield 49, 3) := sdX8_laysJoined_40.2.2.2.2.2.1
theorem dX8_laysJoined_52 : decode cX8_laysJoined 52 = .ok (.iload 4, 2) := sdX8_laysJoined_40.2.2.2.2.2.2.1
theorem dX8_laysJoined_54 : decode cX8_laysJoined 54 = .ok (.iaload, 1) := sdX8_laysJoined_40.2.2.2.2.2.2.2.1
theorem sdX8_laysJoined_55 : dz_Seg cX8_laysJoined [(55, .iastore, 1), (56, .aload_n 0, 1), (57, .getfield 52, 3), (60, .iload_n 3, 1), (61, .aload_n 0, 1), (62, .getfield 52, 3), (65, .iload 4, 2), (67, .iaload, 1)] := dz_sg _ 55 (by decide +kernel)
theorem dX8_laysJoined_55 : decode cX8_laysJoined 55 = .ok (.iastore, 1) := sdX8_laysJoined_55.1
theorem dX8_laysJoined_56 : decode cX8_laysJoined 56 = .ok (.aload_n 0, 1) := sdX8_laysJoined_55.2.1
theorem dX8_laysJoined_57 : decode cX8_laysJoined 57 = .ok (.getfield 52, 3) := sdX8_laysJoined_55.2.2.1
theorem dX8_laysJoined_60 : decode cX8_laysJoined 60 = .ok (.iload_n 3, 1) := sdX8_laysJoined_55.2.2.2.1
theorem dX8_laysJoined_61 : decode cX8_laysJoined 61 = .ok (.aload_n 0, 1) := sdX8_laysJoined_55.2.2.2.2.1
theorem dX8_laysJoined_62 : decode cX8_laysJoined 62 = .ok (.getfield 52, 3) := sdX8_laysJoined_55.2.2.2.2.2.1
theorem dX8_laysJoined_65 : decode cX8_laysJoined 65 = .ok (.iload 4, 2) := sdX8_laysJoined_55.2.2.2.2.2.2.1
theorem dX8_laysJoined_67 : decode cX8_laysJoined 67 = .ok (.iaload, 1) := sdX8_laysJoined_55.2.2.2.2.2.2.2.1
theorem sdX8_laysJoined_68 : dz_Seg cX8_laysJoined [(68, .iastore, 1), (69, .aload_n 0, 1), (70, .getfield 55, 3), (73, .iload_n 3, 1), (74, .aload_n 0, 1), (75, .getfield 55, 3), (78, .iload 4, 2), (80, .iaload, 1)] := dz_sg _ 68 (by decide +kernel)
theorem dX8_laysJoined_68 : decode cX8_laysJoined 68 = .ok (.iastore, 1) := sdX8_laysJoined_68.1
theorem dX8_laysJoined_69 : decode cX8_laysJoined 69 = .ok (.aload_n 0, 1) := sdX8_laysJoined_68.2.1
theorem dX8_laysJoined_70 : decode cX8_laysJoined 70 = .ok (.getfield 55, 3) := sdX8_laysJoined_68.2.2.1
theorem dX8_laysJoined_73 : decode cX8_laysJoined 73 = .ok (.iload_n 3, 1) := sdX8_laysJoined_68.2.2.2.1
theorem dX8_laysJoined_74 : decode cX8_laysJoined 74 = .ok (.aload_n 0, 1) := sdX8_laysJoined_68.2.2.2.2.1
theorem dX8_laysJoined_75 : decode cX8_laysJoined 75 = .ok (.getfield 55, 3) := sdX8_laysJoined_68.2.2.2.2.2.1
theorem dX8_laysJoined_78 : decode cX8_laysJoined 78 = .ok (.iload 4, 2) := sdX8_laysJoined_68.2.2.2.2.2.2.1
theorem dX8_laysJoined_80 : decode cX8_laysJoined 80 = .ok (.iaload, 1) := sdX8_laysJoined_68.2.2.2.2.2.2.2.1
theorem sdX8_laysJoined_81 : dz_Seg cX8_laysJoined [(81, .iastore, 1), (82, .iinc 3 1, 3), (85, .iinc 4 1, 3), (88, .goto (-83), 3), (91, .aload_n 0, 1), (92, .getfield 49, 3), (95, .iload_n 3, 1), (96, .iconst 1, 1)] := dz_sg _ 81 (by decide +kernel)
theorem dX8_laysJoined_81 : decode cX8_laysJoined 81 = .ok (.iastore, 1) := sdX8_laysJoined_81.1
theorem dX8_laysJoined_82 : decode cX8_laysJoined 82 = .ok (.iinc 3 1, 3) := sdX8_laysJoined_81.2.1
theorem dX8_laysJoined_85 : decode cX8_laysJoined 85 = .ok (.iinc 4 1, 3) := sdX8_laysJoined_81.2.2.1
theorem dX8_laysJoined_88 : decode cX8_laysJoined 88 = .ok (.goto (-83), 3) := sdX8_laysJoined_81.2.2.2.1
theorem dX8_laysJoined_91 : decode cX8_laysJoined 91 = .ok (.aload_n 0, 1) := sdX8_laysJoined_81.2.2.2.2.1
theorem dX8_laysJoined_92 : decode cX8_laysJoined 92 = .ok (.getfield 49, 3) := sdX8_laysJoined_81.2.2.2.2.2.1
theorem dX8_laysJoined_95 : decode cX8_laysJoined 95 = .ok (.iload_n 3, 1) := sdX8_laysJoined_81.2.2.2.2.2.2.1
theorem dX8_laysJoined_96 : decode cX8_laysJoined 96 = .ok (.iconst 1, 1) := sdX8_laysJoined_81.2.2.2.2.2.2.2.1
theorem sdX8_laysJoined_97 : dz_Seg cX8_laysJoined [(97, .iload_n 1, 1), (98, .ishl, 1), (99, .iconst 1, 1), (100, .iload_n 2, 1), (101, .ishl, 1), (102, .ior, 1), (103, .iastore, 1), (104, .aload_n 0, 1)] := dz_sg _ 97 (by decide +kernel)
theorem dX8_laysJoined_97 : decode cX8_laysJoined 97 = .ok (.iload_n 1, 1) := sdX8_laysJoined_97.1
theorem dX8_laysJoined_98 : decode cX8_laysJoined 98 = .ok (.ishl, 1) := sdX8_laysJoined_97.2.1
theorem dX8_laysJoined_99 : decode cX8_laysJoined 99 = .ok (.iconst 1, 1) := sdX8_laysJoined_97.2.2.1
theorem dX8_laysJoined_100 : decode cX8_laysJoined 100 = .ok (.iload_n 2, 1) := sdX8_laysJoined_97.2.2.2.1
theorem dX8_laysJoined_101 : decode cX8_laysJoined 101 = .ok (.ishl, 1) := sdX8_laysJoined_97.2.2.2.2.1
theorem dX8_laysJoined_102 : decode cX8_laysJoined 102 = .ok (.ior, 1) := sdX8_laysJoined_97.2.2.2.2.2.1
theorem dX8_laysJoined_103 : decode cX8_laysJoined 103 = .ok (.iastore, 1) := sdX8_laysJoined_97.2.2.2.2.2.2.1
theorem dX8_laysJoined_104 : decode cX8_laysJoined 104 = .ok (.aload_n 0, 1) := sdX8_laysJoined_97.2.2.2.2.2.2.2.1
theorem sdX8_laysJoined_105 : dz_Seg cX8_laysJoined [(105, .getfield 52, 3), (108, .iload_n 3, 1), (109, .iconst (-1), 1), (110, .iastore, 1), (111, .aload_n 0, 1), (112, .getfield 55, 3), (115, .iload_n 3, 1), (116, .bipush 20, 2)] := dz_sg _ 105 (by decide +kernel)
theorem dX8_laysJoined_105 : decode cX8_laysJoined 105 = .ok (.getfield 52, 3) := sdX8_laysJoined_105.1
theorem dX8_laysJoined_108 : decode cX8_laysJoined 108 = .ok (.iload_n 3, 1) := sdX8_laysJoined_105.2.1
theorem dX8_laysJoined_109 : decode cX8_laysJoined 109 = .ok (.iconst (-1), 1) := sdX8_laysJoined_105.2.2.1
theorem dX8_laysJoined_110 : decode cX8_laysJoined 110 = .ok (.iastore, 1) := sdX8_laysJoined_105.2.2.2.1
theorem dX8_laysJoined_111 : decode cX8_laysJoined 111 = .ok (.aload_n 0, 1) := sdX8_laysJoined_105.2.2.2.2.1
theorem dX8_laysJoined_112 : decode cX8_laysJoined 112 = .ok (.getfield 55, 3) := sdX8_laysJoined_105.2.2.2.2.2.1
theorem dX8_laysJoined_115 : decode cX8_laysJoined 115 = .ok (.iload_n 3, 1) := sdX8_laysJoined_105.2.2.2.2.2.2.1
theorem dX8_laysJoined_116 : decode cX8_laysJoined 116 = .ok (.bipush 20, 2) := sdX8_laysJoined_105.2.2.2.2.2.2.2.1
theorem sdX8_laysJoined_118 : dz_Seg cX8_laysJoined [(118, .iconst 3, 1), (119, .iload_n 1, 1), (120, .imul, 1), (121, .iadd, 1), (122, .iastore, 1), (123, .aload_n 0, 1), (124, .iload_n 3, 1), (125, .iconst 1, 1)] := dz_sg _ 118 (by decide +kernel)
theorem dX8_laysJoined_118 : decode cX8_laysJoined 118 = .ok (.iconst 3, 1) := sdX8_laysJoined_118.1
theorem dX8_laysJoined_119 : decode cX8_laysJoined 119 = .ok (.iload_n 1, 1) := sdX8_laysJoined_118.2.1
theorem dX8_laysJoined_120 : decode cX8_laysJoined 120 = .ok (.imul, 1) := sdX8_laysJoined_118.2.2.1
theorem dX8_laysJoined_121 : decode cX8_laysJoined 121 = .ok (.iadd, 1) := sdX8_laysJoined_118.2.2.2.1
theorem dX8_laysJoined_122 : decode cX8_laysJoined 122 = .ok (.iastore, 1) := sdX8_laysJoined_118.2.2.2.2.1
theorem dX8_laysJoined_123 : decode cX8_laysJoined 123 = .ok (.aload_n 0, 1) := sdX8_laysJoined_118.2.2.2.2.2.1
theorem dX8_laysJoined_124 : decode cX8_laysJoined 124 = .ok (.iload_n 3, 1) := sdX8_laysJoined_118.2.2.2.2.2.2.1
theorem dX8_laysJoined_125 : decode cX8_laysJoined 125 = .ok (.iconst 1, 1) := sdX8_laysJoined_118.2.2.2.2.2.2.2.1
theorem sdX8_laysJoined_126 : dz_Seg cX8_laysJoined [(126, .iadd, 1), (127, .putfield 275, 3), (130, .iconst 0, 1), (131, .istore 4, 2), (133, .iload 4, 2), (135, .aload_n 0, 1), (136, .getfield 275, 3), (139, .if_icmp .ge 15, 3)] := dz_sg _ 126 (by decide +kernel)
theorem dX8_laysJoined_126 : decode cX8_laysJoined 126 = .ok (.iadd, 1) := sdX8_laysJoined_126.1
theorem dX8_laysJoined_127 : decode cX8_laysJoined 127 = .ok (.putfield 275, 3) := sdX8_laysJoined_126.2.1
theorem dX8_laysJoined_130 : decode cX8_laysJoined 130 = .ok (.iconst 0, 1) := sdX8_laysJoined_126.2.2.1
theorem dX8_laysJoined_131 : decode cX8_laysJoined 131 = .ok (.istore 4, 2) := sdX8_laysJoined_126.2.2.2.1
theorem dX8_laysJoined_133 : decode cX8_laysJoined 133 = .ok (.iload 4, 2) := sdX8_laysJoined_126.2.2.2.2.1
theorem dX8_laysJoined_135 : decode cX8_laysJoined 135 = .ok (.aload_n 0, 1) := sdX8_laysJoined_126.2.2.2.2.2.1
theorem dX8_laysJoined_136 : decode cX8_laysJoined 136 = .ok (.getfield 275, 3) := sdX8_laysJoined_126.2.2.2.2.2.2.1
theorem dX8_laysJoined_139 : decode cX8_laysJoined 139 = .ok (.if_icmp .ge 15, 3) := sdX8_laysJoined_126.2.2.2.2.2.2.2.1
theorem sdX8_laysJoined_142 : dz_Seg cX8_laysJoined [(142, .aload_n 0, 1), (143, .iload 4, 2), (145, .invokevirtual 278, 3), (148, .iinc 4 1, 3), (151, .goto (-18), 3), (154, .iload_n 3, 1), (155, .ireturn, 1)] := dz_sg _ 142 (by decide +kernel)
theorem dX8_laysJoined_142 : decode cX8_laysJoined 142 = .ok (.aload_n 0, 1) := sdX8_laysJoined_142.1
theorem dX8_laysJoined_143 : decode cX8_laysJoined 143 = .ok (.iload 4, 2) := sdX8_laysJoined_142.2.1
theorem dX8_laysJoined_145 : decode cX8_laysJoined 145 = .ok (.invokevirtual 278, 3) := sdX8_laysJoined_142.2.2.1
theorem dX8_laysJoined_148 : decode cX8_laysJoined 148 = .ok (.iinc 4 1, 3) := sdX8_laysJoined_142.2.2.2.1
theorem dX8_laysJoined_151 : decode cX8_laysJoined 151 = .ok (.goto (-18), 3) := sdX8_laysJoined_142.2.2.2.2.1
theorem dX8_laysJoined_154 : decode cX8_laysJoined 154 = .ok (.iload_n 3, 1) := sdX8_laysJoined_142.2.2.2.2.2.1
theorem dX8_laysJoined_155 : decode cX8_laysJoined 155 = .ok (.ireturn, 1) := sdX8_laysJoined_142.2.2.2.2.2.2.1
theorem sdX8_splits_0 : dz_Seg cX8_splits [(0, .iconst 0, 1), (1, .istore_n 2, 1), (2, .iload_n 2, 1), (3, .aload_n 0, 1), (4, .getfield 132, 3), (7, .if_icmp .ge 100, 3), (10, .aload_n 0, 1), (11, .getfield 7, 3)] := dz_sg _ 0 (by decide +kernel)
theorem dX8_splits_0 : decode cX8_splits 0 = .ok (.iconst 0, 1) := sdX8_splits_0.1
theorem dX8_splits_1 : decode cX8_splits 1 = .ok (.istore_n 2, 1) := sdX8_splits_0.2.1
theorem dX8_splits_2 : decode cX8_splits 2 = .ok (.iload_n 2, 1) := sdX8_splits_0.2.2.1
theorem dX8_splits_3 : decode cX8_splits 3 = .ok (.aload_n 0, 1) := sdX8_splits_0.2.2.2.1
theorem dX8_splits_4 : decode cX8_splits 4 = .ok (.getfield 132, 3) := sdX8_splits_0.2.2.2.2.1
theorem dX8_splits_7 : decode cX8_splits 7 = .ok (.if_icmp .ge 100, 3) := sdX8_splits_0.2.2.2.2.2.1
theorem dX8_splits_10 : decode cX8_splits 10 = .ok (.aload_n 0, 1) := sdX8_splits_0.2.2.2.2.2.2.1
theorem dX8_splits_11 : decode cX8_splits 11 = .ok (.getfield 7, 3) := sdX8_splits_0.2.2.2.2.2.2.2.1
theorem sdX8_splits_14 : dz_Seg cX8_splits [(14, .bipush 10, 2), (16, .iload_n 2, 1), (17, .iadd, 1), (18, .iaload, 1), (19, .iload_n 1, 1), (20, .if_icmp .ne 55, 3), (23, .aload_n 0, 1), (24, .getfield 7, 3)] := dz_sg _ 14 (by decide +kernel)
theorem dX8_splits_14 : decode cX8_splits 14 = .ok (.bipush 10, 2) := sdX8_splits_14.1
theorem dX8_splits_16 : decode cX8_splits 16 = .ok (.iload_n 2, 1) := sdX8_splits_14.2.1
theorem dX8_splits_17 : decode cX8_splits 17 = .ok (.iadd, 1) := sdX8_splits_14.2.2.1
theorem dX8_splits_18 : decode cX8_splits 18 = .ok (.iaload, 1) := sdX8_splits_14.2.2.2.1
theorem dX8_splits_19 : decode cX8_splits 19 = .ok (.iload_n 1, 1) := sdX8_splits_14.2.2.2.2.1
theorem dX8_splits_20 : decode cX8_splits 20 = .ok (.if_icmp .ne 55, 3) := sdX8_splits_14.2.2.2.2.2.1
theorem dX8_splits_23 : decode cX8_splits 23 = .ok (.aload_n 0, 1) := sdX8_splits_14.2.2.2.2.2.2.1
theorem dX8_splits_24 : decode cX8_splits 24 = .ok (.getfield 7, 3) := sdX8_splits_14.2.2.2.2.2.2.2.1
theorem sdX8_splits_27 : dz_Seg cX8_splits [(27, .bipush 10, 2), (29, .iload_n 2, 1), (30, .iadd, 1), (31, .iconst (-1), 1), (32, .iastore, 1), (33, .iconst 0, 1), (34, .istore_n 3, 1), (35, .iload_n 3, 1)] := dz_sg _ 27 (by decide +kernel)
theorem dX8_splits_27 : decode cX8_splits 27 = .ok (.bipush 10, 2) := sdX8_splits_27.1
theorem dX8_splits_29 : decode cX8_splits 29 = .ok (.iload_n 2, 1) := sdX8_splits_27.2.1
theorem dX8_splits_30 : decode cX8_splits 30 = .ok (.iadd, 1) := sdX8_splits_27.2.2.1
theorem dX8_splits_31 : decode cX8_splits 31 = .ok (.iconst (-1), 1) := sdX8_splits_27.2.2.2.1
theorem dX8_splits_32 : decode cX8_splits 32 = .ok (.iastore, 1) := sdX8_splits_27.2.2.2.2.1
theorem dX8_splits_33 : decode cX8_splits 33 = .ok (.iconst 0, 1) := sdX8_splits_27.2.2.2.2.2.1
theorem dX8_splits_34 : decode cX8_splits 34 = .ok (.istore_n 3, 1) := sdX8_splits_27.2.2.2.2.2.2.1
theorem dX8_splits_35 : decode cX8_splits 35 = .ok (.iload_n 3, 1) := sdX8_splits_27.2.2.2.2.2.2.2.1
theorem sdX8_splits_36 : dz_Seg cX8_splits [(36, .iconst 3, 1), (37, .if_icmp .ge 35, 3), (40, .aload_n 0, 1), (41, .getfield 7, 3), (44, .bipush 20, 2), (46, .iconst 3, 1), (47, .iload_n 2, 1), (48, .imul, 1)] := dz_sg _ 36 (by decide +kernel)
theorem dX8_splits_36 : decode cX8_splits 36 = .ok (.iconst 3, 1) := sdX8_splits_36.1
theorem dX8_splits_37 : decode cX8_splits 37 = .ok (.if_icmp .ge 35, 3) := sdX8_splits_36.2.1
theorem dX8_splits_40 : decode cX8_splits 40 = .ok (.aload_n 0, 1) := sdX8_splits_36.2.2.1
theorem dX8_splits_41 : decode cX8_splits 41 = .ok (.getfield 7, 3) := sdX8_splits_36.2.2.2.1
theorem dX8_splits_44 : decode cX8_splits 44 = .ok (.bipush 20, 2) := sdX8_splits_36.2.2.2.2.1
theorem dX8_splits_46 : decode cX8_splits 46 = .ok (.iconst 3, 1) := sdX8_splits_36.2.2.2.2.2.1
theorem dX8_splits_47 : decode cX8_splits 47 = .ok (.iload_n 2, 1) := sdX8_splits_36.2.2.2.2.2.2.1
theorem dX8_splits_48 : decode cX8_splits 48 = .ok (.imul, 1) := sdX8_splits_36.2.2.2.2.2.2.2.1
theorem sdX8_splits_49 : dz_Seg cX8_splits [(49, .iadd, 1), (50, .iload_n 3, 1), (51, .iadd, 1), (52, .aload_n 0, 1), (53, .getfield 7, 3), (56, .bipush 50, 2), (58, .iconst 3, 1), (59, .iload_n 1, 1)] := dz_sg _ 49 (by decide +kernel)
theorem dX8_splits_49 : decode cX8_splits 49 = .ok (.iadd, 1) := sdX8_splits_49.1
theorem dX8_splits_50 : decode cX8_splits 50 = .ok (.iload_n 3, 1) := sdX8_splits_49.2.1
theorem dX8_splits_51 : decode cX8_splits 51 = .ok (.iadd, 1) := sdX8_splits_49.2.2.1
theorem dX8_splits_52 : decode cX8_splits 52 = .ok (.aload_n 0, 1) := sdX8_splits_49.2.2.2.1
theorem dX8_splits_53 : decode cX8_splits 53 = .ok (.getfield 7, 3) := sdX8_splits_49.2.2.2.2.1
theorem dX8_splits_56 : decode cX8_splits 56 = .ok (.bipush 50, 2) := sdX8_splits_49.2.2.2.2.2.1
theorem dX8_splits_58 : decode cX8_splits 58 = .ok (.iconst 3, 1) := sdX8_splits_49.2.2.2.2.2.2.1
theorem dX8_splits_59 : decode cX8_splits 59 = .ok (.iload_n 1, 1) := sdX8_splits_49.2.2.2.2.2.2.2.1
theorem sdX8_splits_60 : dz_Seg cX8_splits [(60, .imul, 1), (61, .iadd, 1), (62, .iload_n 3, 1), (63, .iadd, 1), (64, .iaload, 1), (65, .iastore, 1), (66, .iinc 3 1, 3), (69, .goto (-34), 3)] := dz_sg _ 60 (by decide +kernel)
theorem dX8_splits_60 : decode cX8_splits 60 = .ok (.imul, 1) := sdX8_splits_60.1
theorem dX8_splits_61 : decode cX8_splits 61 = .ok (.iadd, 1) := sdX8_splits_60.2.1
theorem dX8_splits_62 : decode cX8_splits 62 = .ok (.iload_n 3, 1) := sdX8_splits_60.2.2.1
theorem dX8_splits_63 : decode cX8_splits 63 = .ok (.iadd, 1) := sdX8_splits_60.2.2.2.1
theorem dX8_splits_64 : decode cX8_splits 64 = .ok (.iaload, 1) := sdX8_splits_60.2.2.2.2.1
theorem dX8_splits_65 : decode cX8_splits 65 = .ok (.iastore, 1) := sdX8_splits_60.2.2.2.2.2.1
theorem dX8_splits_66 : decode cX8_splits 66 = .ok (.iinc 3 1, 3) := sdX8_splits_60.2.2.2.2.2.2.1
theorem dX8_splits_69 : decode cX8_splits 69 = .ok (.goto (-34), 3) := sdX8_splits_60.2.2.2.2.2.2.2.1
theorem sdX8_splits_72 : dz_Seg cX8_splits [(72, .goto 29, 3), (75, .aload_n 0, 1), (76, .getfield 7, 3), (79, .bipush 10, 2), (81, .iload_n 2, 1), (82, .iadd, 1), (83, .iaload, 1), (84, .iload_n 1, 1)] := dz_sg _ 72 (by decide +kernel)
theorem dX8_splits_72 : decode cX8_splits 72 = .ok (.goto 29, 3) := sdX8_splits_72.1
theorem dX8_splits_75 : decode cX8_splits 75 = .ok (.aload_n 0, 1) := sdX8_splits_72.2.1
theorem dX8_splits_76 : decode cX8_splits 76 = .ok (.getfield 7, 3) := sdX8_splits_72.2.2.1
theorem dX8_splits_79 : decode cX8_splits 79 = .ok (.bipush 10, 2) := sdX8_splits_72.2.2.2.1
theorem dX8_splits_81 : decode cX8_splits 81 = .ok (.iload_n 2, 1) := sdX8_splits_72.2.2.2.2.1
theorem dX8_splits_82 : decode cX8_splits 82 = .ok (.iadd, 1) := sdX8_splits_72.2.2.2.2.2.1
theorem dX8_splits_83 : decode cX8_splits 83 = .ok (.iaload, 1) := sdX8_splits_72.2.2.2.2.2.2.1
theorem dX8_splits_84 : decode cX8_splits 84 = .ok (.iload_n 1, 1) := sdX8_splits_72.2.2.2.2.2.2.2.1
theorem sdX8_splits_85 : dz_Seg cX8_splits [(85, .if_icmp .le 16, 3), (88, .aload_n 0, 1), (89, .getfield 7, 3), (92, .bipush 10, 2), (94, .iload_n 2, 1), (95, .iadd, 1), (96, .dup2, 1), (97, .iaload, 1)] := dz_sg _ 85 (by decide +kernel)
theorem dX8_splits_85 : decode cX8_splits 85 = .ok (.if_icmp .le 16, 3) := sdX8_splits_85.1
theorem dX8_splits_88 : decode cX8_splits 88 = .ok (.aload_n 0, 1) := sdX8_splits_85.2.1
theorem dX8_splits_89 : decode cX8_splits 89 = .ok (.getfield 7, 3) := sdX8_splits_85.2.2.1
theorem dX8_splits_92 : decode cX8_splits 92 = .ok (.bipush 10, 2) := sdX8_splits_85.2.2.2.1
theorem dX8_splits_94 : decode cX8_splits 94 = .ok (.iload_n 2, 1) := sdX8_splits_85.2.2.2.2.1
theorem dX8_splits_95 : decode cX8_splits 95 = .ok (.iadd, 1) := sdX8_splits_85.2.2.2.2.2.1
theorem dX8_splits_96 : decode cX8_splits 96 = .ok (.dup2, 1) := sdX8_splits_85.2.2.2.2.2.2.1
theorem dX8_splits_97 : decode cX8_splits 97 = .ok (.iaload, 1) := sdX8_splits_85.2.2.2.2.2.2.2.1
theorem sdX8_splits_98 : dz_Seg cX8_splits [(98, .iconst 1, 1), (99, .isub, 1), (100, .iastore, 1), (101, .iinc 2 1, 3), (104, .goto (-102), 3), (107, .aload_n 0, 1), (108, .getfield 7, 3), (111, .bipush 70, 2)] := dz_sg _ 98 (by decide +kernel)
theorem dX8_splits_98 : decode cX8_splits 98 = .ok (.iconst 1, 1) := sdX8_splits_98.1
theorem dX8_splits_99 : decode cX8_splits 99 = .ok (.isub, 1) := sdX8_splits_98.2.1
theorem dX8_splits_100 : decode cX8_splits 100 = .ok (.iastore, 1) := sdX8_splits_98.2.2.1
theorem dX8_splits_101 : decode cX8_splits 101 = .ok (.iinc 2 1, 3) := sdX8_splits_98.2.2.2.1
theorem dX8_splits_104 : decode cX8_splits 104 = .ok (.goto (-102), 3) := sdX8_splits_98.2.2.2.2.1
theorem dX8_splits_107 : decode cX8_splits 107 = .ok (.aload_n 0, 1) := sdX8_splits_98.2.2.2.2.2.1
theorem dX8_splits_108 : decode cX8_splits 108 = .ok (.getfield 7, 3) := sdX8_splits_98.2.2.2.2.2.2.1
theorem dX8_splits_111 : decode cX8_splits 111 = .ok (.bipush 70, 2) := sdX8_splits_98.2.2.2.2.2.2.2.1
theorem sdX8_splits_113 : dz_Seg cX8_splits [(113, .dup2, 1), (114, .iaload, 1), (115, .iconst 1, 1), (116, .isub, 1), (117, .iastore, 1), (118, .iconst 3, 1), (119, .iload_n 1, 1), (120, .imul, 1)] := dz_sg _ 113 (by decide +kernel)
theorem dX8_splits_113 : decode cX8_splits 113 = .ok (.dup2, 1) := sdX8_splits_113.1
theorem dX8_splits_114 : decode cX8_splits 114 = .ok (.iaload, 1) := sdX8_splits_113.2.1
theorem dX8_splits_115 : decode cX8_splits 115 = .ok (.iconst 1, 1) := sdX8_splits_113.2.2.1
theorem dX8_splits_116 : decode cX8_splits 116 = .ok (.isub, 1) := sdX8_splits_113.2.2.2.1
theorem dX8_splits_117 : decode cX8_splits 117 = .ok (.iastore, 1) := sdX8_splits_113.2.2.2.2.1
theorem dX8_splits_118 : decode cX8_splits 118 = .ok (.iconst 3, 1) := sdX8_splits_113.2.2.2.2.2.1
theorem dX8_splits_119 : decode cX8_splits 119 = .ok (.iload_n 1, 1) := sdX8_splits_113.2.2.2.2.2.2.1
theorem dX8_splits_120 : decode cX8_splits 120 = .ok (.imul, 1) := sdX8_splits_113.2.2.2.2.2.2.2.1
theorem sdX8_splits_121 : dz_Seg cX8_splits [(121, .istore_n 2, 1), (122, .iload_n 2, 1), (123, .bipush 12, 2), (125, .if_icmp .ge 39, 3), (128, .aload_n 0, 1), (129, .getfield 7, 3), (132, .bipush 50, 2), (134, .iload_n 2, 1)] := dz_sg _ 121 (by decide +kernel)
theorem dX8_splits_121 : decode cX8_splits 121 = .ok (.istore_n 2, 1) := sdX8_splits_121.1
theorem dX8_splits_122 : decode cX8_splits 122 = .ok (.iload_n 2, 1) := sdX8_splits_121.2.1
theorem dX8_splits_123 : decode cX8_splits 123 = .ok (.bipush 12, 2) := sdX8_splits_121.2.2.1
theorem dX8_splits_125 : decode cX8_splits 125 = .ok (.if_icmp .ge 39, 3) := sdX8_splits_121.2.2.2.1
theorem dX8_splits_128 : decode cX8_splits 128 = .ok (.aload_n 0, 1) := sdX8_splits_121.2.2.2.2.1
theorem dX8_splits_129 : decode cX8_splits 129 = .ok (.getfield 7, 3) := sdX8_splits_121.2.2.2.2.2.1
theorem dX8_splits_132 : decode cX8_splits 132 = .ok (.bipush 50, 2) := sdX8_splits_121.2.2.2.2.2.2.1
theorem dX8_splits_134 : decode cX8_splits 134 = .ok (.iload_n 2, 1) := sdX8_splits_121.2.2.2.2.2.2.2.1
theorem sdX8_splits_135 : dz_Seg cX8_splits [(135, .iadd, 1), (136, .iload_n 2, 1), (137, .bipush 9, 2), (139, .if_icmp .ge 17, 3), (142, .aload_n 0, 1), (143, .getfield 7, 3), (146, .bipush 50, 2), (148, .iload_n 2, 1)] := dz_sg _ 135 (by decide +kernel)
theorem dX8_splits_135 : decode cX8_splits 135 = .ok (.iadd, 1) := sdX8_splits_135.1
theorem dX8_splits_136 : decode cX8_splits 136 = .ok (.iload_n 2, 1) := sdX8_splits_135.2.1
theorem dX8_splits_137 : decode cX8_splits 137 = .ok (.bipush 9, 2) := sdX8_splits_135.2.2.1
theorem dX8_splits_139 : decode cX8_splits 139 = .ok (.if_icmp .ge 17, 3) := sdX8_splits_135.2.2.2.1
theorem dX8_splits_142 : decode cX8_splits 142 = .ok (.aload_n 0, 1) := sdX8_splits_135.2.2.2.2.1
theorem dX8_splits_143 : decode cX8_splits 143 = .ok (.getfield 7, 3) := sdX8_splits_135.2.2.2.2.2.1
theorem dX8_splits_146 : decode cX8_splits 146 = .ok (.bipush 50, 2) := sdX8_splits_135.2.2.2.2.2.2.1
theorem dX8_splits_148 : decode cX8_splits 148 = .ok (.iload_n 2, 1) := sdX8_splits_135.2.2.2.2.2.2.2.1
theorem sdX8_splits_149 : dz_Seg cX8_splits [(149, .iadd, 1), (150, .iconst 3, 1), (151, .iadd, 1), (152, .iaload, 1), (153, .goto 4, 3), (156, .iconst (-1), 1), (157, .iastore, 1), (158, .iinc 2 1, 3)] := dz_sg _ 149 (by decide +kernel)
theorem dX8_splits_149 : decode cX8_splits 149 = .ok (.iadd, 1) := sdX8_splits_149.1
theorem dX8_splits_150 : decode cX8_splits 150 = .ok (.iconst 3, 1) := sdX8_splits_149.2.1
theorem dX8_splits_151 : decode cX8_splits 151 = .ok (.iadd, 1) := sdX8_splits_149.2.2.1
theorem dX8_splits_152 : decode cX8_splits 152 = .ok (.iaload, 1) := sdX8_splits_149.2.2.2.1
theorem dX8_splits_153 : decode cX8_splits 153 = .ok (.goto 4, 3) := sdX8_splits_149.2.2.2.2.1
theorem dX8_splits_156 : decode cX8_splits 156 = .ok (.iconst (-1), 1) := sdX8_splits_149.2.2.2.2.2.1
theorem dX8_splits_157 : decode cX8_splits 157 = .ok (.iastore, 1) := sdX8_splits_149.2.2.2.2.2.2.1
theorem dX8_splits_158 : decode cX8_splits 158 = .ok (.iinc 2 1, 3) := sdX8_splits_149.2.2.2.2.2.2.2.1
theorem sdX8_splits_161 : dz_Seg cX8_splits [(161, .goto (-39), 3), (164, .return_, 1)] := dz_sg _ 161 (by decide +kernel)
theorem dX8_splits_161 : decode cX8_splits 161 = .ok (.goto (-39), 3) := sdX8_splits_161.1
theorem dX8_splits_164 : decode cX8_splits 164 = .ok (.return_, 1) := sdX8_splits_161.2.1
theorem sdX8_apart_0 : dz_Seg cX8_apart [(0, .aload_n 0, 1), (1, .iload_n 1, 1), (2, .invokevirtual 463, 3), (5, .ifCond .ne 10, 3), (8, .aload_n 0, 1), (9, .iconst 2, 1), (10, .invokevirtual 263, 3), (13, .i2l, 1)] := dz_sg _ 0 (by decide +kernel)
theorem dX8_apart_0 : decode cX8_apart 0 = .ok (.aload_n 0, 1) := sdX8_apart_0.1
theorem dX8_apart_1 : decode cX8_apart 1 = .ok (.iload_n 1, 1) := sdX8_apart_0.2.1
theorem dX8_apart_2 : decode cX8_apart 2 = .ok (.invokevirtual 463, 3) := sdX8_apart_0.2.2.1
theorem dX8_apart_5 : decode cX8_apart 5 = .ok (.ifCond .ne 10, 3) := sdX8_apart_0.2.2.2.1
theorem dX8_apart_8 : decode cX8_apart 8 = .ok (.aload_n 0, 1) := sdX8_apart_0.2.2.2.2.1
theorem dX8_apart_9 : decode cX8_apart 9 = .ok (.iconst 2, 1) := sdX8_apart_0.2.2.2.2.2.1
theorem dX8_apart_10 : decode cX8_apart 10 = .ok (.invokevirtual 263, 3) := sdX8_apart_0.2.2.2.2.2.2.1
theorem dX8_apart_13 : decode cX8_apart 13 = .ok (.i2l, 1) := sdX8_apart_0.2.2.2.2.2.2.2.1
theorem sdX8_apart_14 : dz_Seg cX8_apart [(14, .lreturn, 1), (15, .iconst 0, 1), (16, .istore_n 2, 1), (17, .iconst 0, 1), (18, .istore_n 3, 1), (19, .iload_n 3, 1), (20, .aload_n 0, 1), (21, .getfield 132, 3)] := dz_sg _ 14 (by decide +kernel)
theorem dX8_apart_14 : decode cX8_apart 14 = .ok (.lreturn, 1) := sdX8_apart_14.1
theorem dX8_apart_15 : decode cX8_apart 15 = .ok (.iconst 0, 1) := sdX8_apart_14.2.1
theorem dX8_apart_16 : decode cX8_apart 16 = .ok (.istore_n 2, 1) := sdX8_apart_14.2.2.1
theorem dX8_apart_17 : decode cX8_apart 17 = .ok (.iconst 0, 1) := sdX8_apart_14.2.2.2.1
theorem dX8_apart_18 : decode cX8_apart 18 = .ok (.istore_n 3, 1) := sdX8_apart_14.2.2.2.2.1
theorem dX8_apart_19 : decode cX8_apart 19 = .ok (.iload_n 3, 1) := sdX8_apart_14.2.2.2.2.2.1
theorem dX8_apart_20 : decode cX8_apart 20 = .ok (.aload_n 0, 1) := sdX8_apart_14.2.2.2.2.2.2.1
theorem dX8_apart_21 : decode cX8_apart 21 = .ok (.getfield 132, 3) := sdX8_apart_14.2.2.2.2.2.2.2.1
theorem sdX8_apart_24 : dz_Seg cX8_apart [(24, .if_icmp .ge 32, 3), (27, .iload_n 2, 1), (28, .aload_n 0, 1), (29, .getfield 7, 3), (32, .bipush 10, 2), (34, .iload_n 3, 1), (35, .iadd, 1), (36, .iaload, 1)] := dz_sg _ 24 (by decide +kernel)
theorem dX8_apart_24 : decode cX8_apart 24 = .ok (.if_icmp .ge 32, 3) := sdX8_apart_24.1
theorem dX8_apart_27 : decode cX8_apart 27 = .ok (.iload_n 2, 1) := sdX8_apart_24.2.1
theorem dX8_apart_28 : decode cX8_apart 28 = .ok (.aload_n 0, 1) := sdX8_apart_24.2.2.1
theorem dX8_apart_29 : decode cX8_apart 29 = .ok (.getfield 7, 3) := sdX8_apart_24.2.2.2.1
theorem dX8_apart_32 : decode cX8_apart 32 = .ok (.bipush 10, 2) := sdX8_apart_24.2.2.2.2.1
theorem dX8_apart_34 : decode cX8_apart 34 = .ok (.iload_n 3, 1) := sdX8_apart_24.2.2.2.2.2.1
theorem dX8_apart_35 : decode cX8_apart 35 = .ok (.iadd, 1) := sdX8_apart_24.2.2.2.2.2.2.1
theorem dX8_apart_36 : decode cX8_apart 36 = .ok (.iaload, 1) := sdX8_apart_24.2.2.2.2.2.2.2.1
theorem sdX8_apart_37 : dz_Seg cX8_apart [(37, .iload_n 1, 1), (38, .if_icmp .ne 9, 3), (41, .iconst 1, 1), (42, .iload_n 3, 1), (43, .ishl, 1), (44, .goto 4, 3), (47, .iconst 0, 1), (48, .ior, 1)] := dz_sg _ 37 (by decide +kernel)
theorem dX8_apart_37 : decode cX8_apart 37 = .ok (.iload_n 1, 1) := sdX8_apart_37.1
theorem dX8_apart_38 : decode cX8_apart 38 = .ok (.if_icmp .ne 9, 3) := sdX8_apart_37.2.1
theorem dX8_apart_41 : decode cX8_apart 41 = .ok (.iconst 1, 1) := sdX8_apart_37.2.2.1
theorem dX8_apart_42 : decode cX8_apart 42 = .ok (.iload_n 3, 1) := sdX8_apart_37.2.2.2.1
theorem dX8_apart_43 : decode cX8_apart 43 = .ok (.ishl, 1) := sdX8_apart_37.2.2.2.2.1
theorem dX8_apart_44 : decode cX8_apart 44 = .ok (.goto 4, 3) := sdX8_apart_37.2.2.2.2.2.1
theorem dX8_apart_47 : decode cX8_apart 47 = .ok (.iconst 0, 1) := sdX8_apart_37.2.2.2.2.2.2.1
theorem dX8_apart_48 : decode cX8_apart 48 = .ok (.ior, 1) := sdX8_apart_37.2.2.2.2.2.2.2.1
theorem sdX8_apart_49 : dz_Seg cX8_apart [(49, .istore_n 2, 1), (50, .iinc 3 1, 3), (53, .goto (-34), 3), (56, .aload_n 0, 1), (57, .invokevirtual 444, 3), (60, .aload_n 0, 1), (61, .iload_n 1, 1), (62, .invokevirtual 466, 3)] := dz_sg _ 49 (by decide +kernel)
theorem dX8_apart_49 : decode cX8_apart 49 = .ok (.istore_n 2, 1) := sdX8_apart_49.1
theorem dX8_apart_50 : decode cX8_apart 50 = .ok (.iinc 3 1, 3) := sdX8_apart_49.2.1
theorem dX8_apart_53 : decode cX8_apart 53 = .ok (.goto (-34), 3) := sdX8_apart_49.2.2.1
theorem dX8_apart_56 : decode cX8_apart 56 = .ok (.aload_n 0, 1) := sdX8_apart_49.2.2.2.1
theorem dX8_apart_57 : decode cX8_apart 57 = .ok (.invokevirtual 444, 3) := sdX8_apart_49.2.2.2.2.1
theorem dX8_apart_60 : decode cX8_apart 60 = .ok (.aload_n 0, 1) := sdX8_apart_49.2.2.2.2.2.1
theorem dX8_apart_61 : decode cX8_apart 61 = .ok (.iload_n 1, 1) := sdX8_apart_49.2.2.2.2.2.2.1
theorem dX8_apart_62 : decode cX8_apart 62 = .ok (.invokevirtual 466, 3) := sdX8_apart_49.2.2.2.2.2.2.2.1
theorem sdX8_apart_65 : dz_Seg cX8_apart [(65, .aload_n 0, 1), (66, .invokevirtual 429, 3), (69, .ifCond .ne 7, 3), (72, .iconst 1, 1), (73, .goto 4, 3), (76, .iconst 0, 1), (77, .istore_n 3, 1), (78, .iload_n 3, 1)] := dz_sg _ 65 (by decide +kernel)
theorem dX8_apart_65 : decode cX8_apart 65 = .ok (.aload_n 0, 1) := sdX8_apart_65.1
theorem dX8_apart_66 : decode cX8_apart 66 = .ok (.invokevirtual 429, 3) := sdX8_apart_65.2.1
theorem dX8_apart_69 : decode cX8_apart 69 = .ok (.ifCond .ne 7, 3) := sdX8_apart_65.2.2.1
theorem dX8_apart_72 : decode cX8_apart 72 = .ok (.iconst 1, 1) := sdX8_apart_65.2.2.2.1
theorem dX8_apart_73 : decode cX8_apart 73 = .ok (.goto 4, 3) := sdX8_apart_65.2.2.2.2.1
theorem dX8_apart_76 : decode cX8_apart 76 = .ok (.iconst 0, 1) := sdX8_apart_65.2.2.2.2.2.1
theorem dX8_apart_77 : decode cX8_apart 77 = .ok (.istore_n 3, 1) := sdX8_apart_65.2.2.2.2.2.2.1
theorem dX8_apart_78 : decode cX8_apart 78 = .ok (.iload_n 3, 1) := sdX8_apart_65.2.2.2.2.2.2.2.1
theorem sdX8_apart_79 : dz_Seg cX8_apart [(79, .ifCond .eq 59, 3), (82, .aload_n 0, 1), (83, .iconst 0, 1), (84, .putfield 418, 3), (87, .iconst 0, 1), (88, .istore 4, 2), (90, .iload 4, 2), (92, .aload_n 0, 1)] := dz_sg _ 79 (by decide +kernel)
theorem dX8_apart_79 : decode cX8_apart 79 = .ok (.ifCond .eq 59, 3) := sdX8_apart_79.1
theorem dX8_apart_82 : decode cX8_apart 82 = .ok (.aload_n 0, 1) := sdX8_apart_79.2.1
theorem dX8_apart_83 : decode cX8_apart 83 = .ok (.iconst 0, 1) := sdX8_apart_79.2.2.1
theorem dX8_apart_84 : decode cX8_apart 84 = .ok (.putfield 418, 3) := sdX8_apart_79.2.2.2.1
theorem dX8_apart_87 : decode cX8_apart 87 = .ok (.iconst 0, 1) := sdX8_apart_79.2.2.2.2.1
theorem dX8_apart_88 : decode cX8_apart 88 = .ok (.istore 4, 2) := sdX8_apart_79.2.2.2.2.2.1
theorem dX8_apart_90 : decode cX8_apart 90 = .ok (.iload 4, 2) := sdX8_apart_79.2.2.2.2.2.2.1
theorem dX8_apart_92 : decode cX8_apart 92 = .ok (.aload_n 0, 1) := sdX8_apart_79.2.2.2.2.2.2.2.1
theorem sdX8_apart_93 : dz_Seg cX8_apart [(93, .getfield 275, 3), (96, .if_icmp .ge 38, 3), (99, .aload_n 0, 1), (100, .dup, 1), (101, .getfield 418, 3), (104, .aload_n 0, 1), (105, .getfield 49, 3), (108, .iload 4, 2)] := dz_sg _ 93 (by decide +kernel)
theorem dX8_apart_93 : decode cX8_apart 93 = .ok (.getfield 275, 3) := sdX8_apart_93.1
theorem dX8_apart_96 : decode cX8_apart 96 = .ok (.if_icmp .ge 38, 3) := sdX8_apart_93.2.1
theorem dX8_apart_99 : decode cX8_apart 99 = .ok (.aload_n 0, 1) := sdX8_apart_93.2.2.1
theorem dX8_apart_100 : decode cX8_apart 100 = .ok (.dup, 1) := sdX8_apart_93.2.2.2.1
theorem dX8_apart_101 : decode cX8_apart 101 = .ok (.getfield 418, 3) := sdX8_apart_93.2.2.2.2.1
theorem dX8_apart_104 : decode cX8_apart 104 = .ok (.aload_n 0, 1) := sdX8_apart_93.2.2.2.2.2.1
theorem dX8_apart_105 : decode cX8_apart 105 = .ok (.getfield 49, 3) := sdX8_apart_93.2.2.2.2.2.2.1
theorem dX8_apart_108 : decode cX8_apart 108 = .ok (.iload 4, 2) := sdX8_apart_93.2.2.2.2.2.2.2.1
theorem sdX8_apart_110 : dz_Seg cX8_apart [(110, .iaload, 1), (111, .iload_n 2, 1), (112, .iand, 1), (113, .ifCond .eq 10, 3), (116, .iconst 1, 1), (117, .iload 4, 2), (119, .ishl, 1), (120, .goto 4, 3)] := dz_sg _ 110 (by decide +kernel)
theorem dX8_apart_110 : decode cX8_apart 110 = .ok (.iaload, 1) := sdX8_apart_110.1
theorem dX8_apart_111 : decode cX8_apart 111 = .ok (.iload_n 2, 1) := sdX8_apart_110.2.1
theorem dX8_apart_112 : decode cX8_apart 112 = .ok (.iand, 1) := sdX8_apart_110.2.2.1
theorem dX8_apart_113 : decode cX8_apart 113 = .ok (.ifCond .eq 10, 3) := sdX8_apart_110.2.2.2.1
theorem dX8_apart_116 : decode cX8_apart 116 = .ok (.iconst 1, 1) := sdX8_apart_110.2.2.2.2.1
theorem dX8_apart_117 : decode cX8_apart 117 = .ok (.iload 4, 2) := sdX8_apart_110.2.2.2.2.2.1
theorem dX8_apart_119 : decode cX8_apart 119 = .ok (.ishl, 1) := sdX8_apart_110.2.2.2.2.2.2.1
theorem dX8_apart_120 : decode cX8_apart 120 = .ok (.goto 4, 3) := sdX8_apart_110.2.2.2.2.2.2.2.1
theorem sdX8_apart_123 : dz_Seg cX8_apart [(123, .iconst 0, 1), (124, .ior, 1), (125, .putfield 418, 3), (128, .iinc 4 1, 3), (131, .goto (-41), 3), (134, .aload_n 0, 1), (135, .invokevirtual 432, 3), (138, .aload_n 0, 1)] := dz_sg _ 123 (by decide +kernel)
theorem dX8_apart_123 : decode cX8_apart 123 = .ok (.iconst 0, 1) := sdX8_apart_123.1
theorem dX8_apart_124 : decode cX8_apart 124 = .ok (.ior, 1) := sdX8_apart_123.2.1
theorem dX8_apart_125 : decode cX8_apart 125 = .ok (.putfield 418, 3) := sdX8_apart_123.2.2.1
theorem dX8_apart_128 : decode cX8_apart 128 = .ok (.iinc 4 1, 3) := sdX8_apart_123.2.2.2.1
theorem dX8_apart_131 : decode cX8_apart 131 = .ok (.goto (-41), 3) := sdX8_apart_123.2.2.2.2.1
theorem dX8_apart_134 : decode cX8_apart 134 = .ok (.aload_n 0, 1) := sdX8_apart_123.2.2.2.2.2.1
theorem dX8_apart_135 : decode cX8_apart 135 = .ok (.invokevirtual 432, 3) := sdX8_apart_123.2.2.2.2.2.2.1
theorem dX8_apart_138 : decode cX8_apart 138 = .ok (.aload_n 0, 1) := sdX8_apart_123.2.2.2.2.2.2.2.1
theorem sdX8_apart_139 : dz_Seg cX8_apart [(139, .invokevirtual 449, 3), (142, .iload_n 3, 1), (143, .ifCond .eq 14, 3), (146, .aload_n 0, 1), (147, .aload_n 0, 1), (148, .getfield 393, 3), (151, .invokevirtual 438, 3), (154, .goto 9, 3)] := dz_sg _ 139 (by decide +kernel)
theorem dX8_apart_139 : decode cX8_apart 139 = .ok (.invokevirtual 449, 3) := sdX8_apart_139.1
theorem dX8_apart_142 : decode cX8_apart 142 = .ok (.iload_n 3, 1) := sdX8_apart_139.2.1
theorem dX8_apart_143 : decode cX8_apart 143 = .ok (.ifCond .eq 14, 3) := sdX8_apart_139.2.2.1
theorem dX8_apart_146 : decode cX8_apart 146 = .ok (.aload_n 0, 1) := sdX8_apart_139.2.2.2.1
theorem dX8_apart_147 : decode cX8_apart 147 = .ok (.aload_n 0, 1) := sdX8_apart_139.2.2.2.2.1
theorem dX8_apart_148 : decode cX8_apart 148 = .ok (.getfield 393, 3) := sdX8_apart_139.2.2.2.2.2.1
theorem dX8_apart_151 : decode cX8_apart 151 = .ok (.invokevirtual 438, 3) := sdX8_apart_139.2.2.2.2.2.2.1
theorem dX8_apart_154 : decode cX8_apart 154 = .ok (.goto 9, 3) := sdX8_apart_139.2.2.2.2.2.2.2.1
theorem sdX8_apart_157 : dz_Seg cX8_apart [(157, .aload_n 0, 1), (158, .iconst 3, 1), (159, .invokevirtual 263, 3), (162, .i2l, 1), (163, .lreturn, 1)] := dz_sg _ 157 (by decide +kernel)
theorem dX8_apart_157 : decode cX8_apart 157 = .ok (.aload_n 0, 1) := sdX8_apart_157.1
theorem dX8_apart_158 : decode cX8_apart 158 = .ok (.iconst 3, 1) := sdX8_apart_157.2.1
theorem dX8_apart_159 : decode cX8_apart 159 = .ok (.invokevirtual 263, 3) := sdX8_apart_157.2.2.1
theorem dX8_apart_162 : decode cX8_apart 162 = .ok (.i2l, 1) := sdX8_apart_157.2.2.2.1
theorem dX8_apart_163 : decode cX8_apart 163 = .ok (.lreturn, 1) := sdX8_apart_157.2.2.2.2.1
theorem sdX8_likes_0 : dz_Seg cX8_likes [(0, .aload_n 0, 1), (1, .iload_n 1, 1), (2, .invokevirtual 315, 3), (5, .ifCond .ne 9, 3), (8, .aload_n 0, 1), (9, .iconst 2, 1), (10, .invokevirtual 263, 3), (13, .ireturn, 1)] := dz_sg _ 0 (by decide +kernel)
theorem dX8_likes_0 : decode cX8_likes 0 = .ok (.aload_n 0, 1) := sdX8_likes_0.1
theorem dX8_likes_1 : decode cX8_likes 1 = .ok (.iload_n 1, 1) := sdX8_likes_0.2.1
theorem dX8_likes_2 : decode cX8_likes 2 = .ok (.invokevirtual 315, 3) := sdX8_likes_0.2.2.1
theorem dX8_likes_5 : decode cX8_likes 5 = .ok (.ifCond .ne 9, 3) := sdX8_likes_0.2.2.2.1
theorem dX8_likes_8 : decode cX8_likes 8 = .ok (.aload_n 0, 1) := sdX8_likes_0.2.2.2.2.1
theorem dX8_likes_9 : decode cX8_likes 9 = .ok (.iconst 2, 1) := sdX8_likes_0.2.2.2.2.2.1
theorem dX8_likes_10 : decode cX8_likes 10 = .ok (.invokevirtual 263, 3) := sdX8_likes_0.2.2.2.2.2.2.1
theorem dX8_likes_13 : decode cX8_likes 13 = .ok (.ireturn, 1) := sdX8_likes_0.2.2.2.2.2.2.2.1
theorem sdX8_likes_14 : dz_Seg cX8_likes [(14, .aload_n 0, 1), (15, .invokevirtual 429, 3), (18, .ifCond .eq 9, 3), (21, .aload_n 0, 1), (22, .iconst 3, 1), (23, .invokevirtual 263, 3), (26, .ireturn, 1), (27, .aload_n 0, 1)] := dz_sg _ 14 (by decide +kernel)
theorem dX8_likes_14 : decode cX8_likes 14 = .ok (.aload_n 0, 1) := sdX8_likes_14.1
theorem dX8_likes_15 : decode cX8_likes 15 = .ok (.invokevirtual 429, 3) := sdX8_likes_14.2.1
theorem dX8_likes_18 : decode cX8_likes 18 = .ok (.ifCond .eq 9, 3) := sdX8_likes_14.2.2.1
theorem dX8_likes_21 : decode cX8_likes 21 = .ok (.aload_n 0, 1) := sdX8_likes_14.2.2.2.1
theorem dX8_likes_22 : decode cX8_likes 22 = .ok (.iconst 3, 1) := sdX8_likes_14.2.2.2.2.1
theorem dX8_likes_23 : decode cX8_likes 23 = .ok (.invokevirtual 263, 3) := sdX8_likes_14.2.2.2.2.2.1
theorem dX8_likes_26 : decode cX8_likes 26 = .ok (.ireturn, 1) := sdX8_likes_14.2.2.2.2.2.2.1
theorem dX8_likes_27 : decode cX8_likes 27 = .ok (.aload_n 0, 1) := sdX8_likes_14.2.2.2.2.2.2.2.1
theorem sdX8_likes_28 : dz_Seg cX8_likes [(28, .invokevirtual 444, 3), (31, .iconst (-1), 1), (32, .istore_n 2, 1), (33, .ldc2_w 452, 3), (36, .lstore_n 3, 1), (37, .iconst 0, 1), (38, .istore 5, 2), (40, .iload 5, 2)] := dz_sg _ 28 (by decide +kernel)
theorem dX8_likes_28 : decode cX8_likes 28 = .ok (.invokevirtual 444, 3) := sdX8_likes_28.1
theorem dX8_likes_31 : decode cX8_likes 31 = .ok (.iconst (-1), 1) := sdX8_likes_28.2.1
theorem dX8_likes_32 : decode cX8_likes 32 = .ok (.istore_n 2, 1) := sdX8_likes_28.2.2.1
theorem dX8_likes_33 : decode cX8_likes 33 = .ok (.ldc2_w 452, 3) := sdX8_likes_28.2.2.2.1
theorem dX8_likes_36 : decode cX8_likes 36 = .ok (.lstore_n 3, 1) := sdX8_likes_28.2.2.2.2.1
theorem dX8_likes_37 : decode cX8_likes 37 = .ok (.iconst 0, 1) := sdX8_likes_28.2.2.2.2.2.1
theorem dX8_likes_38 : decode cX8_likes 38 = .ok (.istore 5, 2) := sdX8_likes_28.2.2.2.2.2.2.1
theorem dX8_likes_40 : decode cX8_likes 40 = .ok (.iload 5, 2) := sdX8_likes_28.2.2.2.2.2.2.2.1
theorem sdX8_likes_42 : dz_Seg cX8_likes [(42, .iconst 3, 1), (43, .if_icmp .ge 41, 3), (46, .aload_n 0, 1), (47, .getfield 7, 3), (50, .bipush 67, 2), (52, .iload 5, 2), (54, .iastore, 1), (55, .aload_n 0, 1)] := dz_sg _ 42 (by decide +kernel)
theorem dX8_likes_42 : decode cX8_likes 42 = .ok (.iconst 3, 1) := sdX8_likes_42.1
theorem dX8_likes_43 : decode cX8_likes 43 = .ok (.if_icmp .ge 41, 3) := sdX8_likes_42.2.1
theorem dX8_likes_46 : decode cX8_likes 46 = .ok (.aload_n 0, 1) := sdX8_likes_42.2.2.1
theorem dX8_likes_47 : decode cX8_likes 47 = .ok (.getfield 7, 3) := sdX8_likes_42.2.2.2.1
theorem dX8_likes_50 : decode cX8_likes 50 = .ok (.bipush 67, 2) := sdX8_likes_42.2.2.2.2.1
theorem dX8_likes_52 : decode cX8_likes 52 = .ok (.iload 5, 2) := sdX8_likes_42.2.2.2.2.2.1
theorem dX8_likes_54 : decode cX8_likes 54 = .ok (.iastore, 1) := sdX8_likes_42.2.2.2.2.2.2.1
theorem dX8_likes_55 : decode cX8_likes 55 = .ok (.aload_n 0, 1) := sdX8_likes_42.2.2.2.2.2.2.2.1
theorem sdX8_likes_56 : dz_Seg cX8_likes [(56, .invokevirtual 432, 3), (59, .aload_n 0, 1), (60, .iload_n 1, 1), (61, .invokevirtual 435, 3), (64, .lload_n 3, 1), (65, .lcmp, 1), (66, .ifCond .le 12, 3), (69, .iload 5, 2)] := dz_sg _ 56 (by decide +kernel)
theorem dX8_likes_56 : decode cX8_likes 56 = .ok (.invokevirtual 432, 3) := sdX8_likes_56.1
theorem dX8_likes_59 : decode cX8_likes 59 = .ok (.aload_n 0, 1) := sdX8_likes_56.2.1
theorem dX8_likes_60 : decode cX8_likes 60 = .ok (.iload_n 1, 1) := sdX8_likes_56.2.2.1
theorem dX8_likes_61 : decode cX8_likes 61 = .ok (.invokevirtual 435, 3) := sdX8_likes_56.2.2.2.1
theorem dX8_likes_64 : decode cX8_likes 64 = .ok (.lload_n 3, 1) := sdX8_likes_56.2.2.2.2.1
theorem dX8_likes_65 : decode cX8_likes 65 = .ok (.lcmp, 1) := sdX8_likes_56.2.2.2.2.2.1
theorem dX8_likes_66 : decode cX8_likes 66 = .ok (.ifCond .le 12, 3) := sdX8_likes_56.2.2.2.2.2.2.1
theorem dX8_likes_69 : decode cX8_likes 69 = .ok (.iload 5, 2) := sdX8_likes_56.2.2.2.2.2.2.2.1
theorem sdX8_likes_71 : dz_Seg cX8_likes [(71, .istore_n 2, 1), (72, .aload_n 0, 1), (73, .iload_n 1, 1), (74, .invokevirtual 435, 3), (77, .lstore_n 3, 1), (78, .iinc 5 1, 3), (81, .goto (-41), 3), (84, .aload_n 0, 1)] := dz_sg _ 71 (by decide +kernel)
theorem dX8_likes_71 : decode cX8_likes 71 = .ok (.istore_n 2, 1) := sdX8_likes_71.1
theorem dX8_likes_72 : decode cX8_likes 72 = .ok (.aload_n 0, 1) := sdX8_likes_71.2.1
theorem dX8_likes_73 : decode cX8_likes 73 = .ok (.iload_n 1, 1) := sdX8_likes_71.2.2.1
theorem dX8_likes_74 : decode cX8_likes 74 = .ok (.invokevirtual 435, 3) := sdX8_likes_71.2.2.2.1
theorem dX8_likes_77 : decode cX8_likes 77 = .ok (.lstore_n 3, 1) := sdX8_likes_71.2.2.2.2.1
theorem dX8_likes_78 : decode cX8_likes 78 = .ok (.iinc 5 1, 3) := sdX8_likes_71.2.2.2.2.2.1
theorem dX8_likes_81 : decode cX8_likes 81 = .ok (.goto (-41), 3) := sdX8_likes_71.2.2.2.2.2.2.1
theorem dX8_likes_84 : decode cX8_likes 84 = .ok (.aload_n 0, 1) := sdX8_likes_71.2.2.2.2.2.2.2.1
theorem sdX8_likes_85 : dz_Seg cX8_likes [(85, .invokevirtual 449, 3), (88, .aload_n 0, 1), (89, .iload_n 2, 1), (90, .invokevirtual 272, 3), (93, .ireturn, 1)] := dz_sg _ 85 (by decide +kernel)
theorem dX8_likes_85 : decode cX8_likes 85 = .ok (.invokevirtual 449, 3) := sdX8_likes_85.1
theorem dX8_likes_88 : decode cX8_likes 88 = .ok (.aload_n 0, 1) := sdX8_likes_85.2.1
theorem dX8_likes_89 : decode cX8_likes 89 = .ok (.iload_n 2, 1) := sdX8_likes_85.2.2.1
theorem dX8_likes_90 : decode cX8_likes 90 = .ok (.invokevirtual 272, 3) := sdX8_likes_85.2.2.2.1
theorem dX8_likes_93 : decode cX8_likes 93 = .ok (.ireturn, 1) := sdX8_likes_85.2.2.2.2.1
theorem sdX8_goesYear_0 : dz_Seg cX8_goesYear [(0, .aload_n 0, 1), (1, .iload_n 1, 1), (2, .invokevirtual 361, 3), (5, .iconst 0, 1), (6, .istore_n 2, 1), (7, .iload_n 2, 1), (8, .aload_n 0, 1), (9, .getfield 132, 3)] := dz_sg _ 0 (by decide +kernel)
theorem dX8_goesYear_0 : decode cX8_goesYear 0 = .ok (.aload_n 0, 1) := sdX8_goesYear_0.1
theorem dX8_goesYear_1 : decode cX8_goesYear 1 = .ok (.iload_n 1, 1) := sdX8_goesYear_0.2.1
theorem dX8_goesYear_2 : decode cX8_goesYear 2 = .ok (.invokevirtual 361, 3) := sdX8_goesYear_0.2.2.1
theorem dX8_goesYear_5 : decode cX8_goesYear 5 = .ok (.iconst 0, 1) := sdX8_goesYear_0.2.2.2.1
theorem dX8_goesYear_6 : decode cX8_goesYear 6 = .ok (.istore_n 2, 1) := sdX8_goesYear_0.2.2.2.2.1
theorem dX8_goesYear_7 : decode cX8_goesYear 7 = .ok (.iload_n 2, 1) := sdX8_goesYear_0.2.2.2.2.2.1
theorem dX8_goesYear_8 : decode cX8_goesYear 8 = .ok (.aload_n 0, 1) := sdX8_goesYear_0.2.2.2.2.2.2.1
theorem dX8_goesYear_9 : decode cX8_goesYear 9 = .ok (.getfield 132, 3) := sdX8_goesYear_0.2.2.2.2.2.2.2.1
theorem sdX8_goesYear_12 : dz_Seg cX8_goesYear [(12, .if_icmp .ge 20, 3), (15, .aload_n 0, 1), (16, .getfield 106, 3), (19, .iload_n 2, 1), (20, .aload_n 0, 1), (21, .iload_n 2, 1), (22, .invokevirtual 382, 3), (25, .iastore, 1)] := dz_sg _ 12 (by decide +kernel)
theorem dX8_goesYear_12 : decode cX8_goesYear 12 = .ok (.if_icmp .ge 20, 3) := sdX8_goesYear_12.1
theorem dX8_goesYear_15 : decode cX8_goesYear 15 = .ok (.aload_n 0, 1) := sdX8_goesYear_12.2.1
theorem dX8_goesYear_16 : decode cX8_goesYear 16 = .ok (.getfield 106, 3) := sdX8_goesYear_12.2.2.1
theorem dX8_goesYear_19 : decode cX8_goesYear 19 = .ok (.iload_n 2, 1) := sdX8_goesYear_12.2.2.2.1
theorem dX8_goesYear_20 : decode cX8_goesYear 20 = .ok (.aload_n 0, 1) := sdX8_goesYear_12.2.2.2.2.1
theorem dX8_goesYear_21 : decode cX8_goesYear 21 = .ok (.iload_n 2, 1) := sdX8_goesYear_12.2.2.2.2.2.1
theorem dX8_goesYear_22 : decode cX8_goesYear 22 = .ok (.invokevirtual 382, 3) := sdX8_goesYear_12.2.2.2.2.2.2.1
theorem dX8_goesYear_25 : decode cX8_goesYear 25 = .ok (.iastore, 1) := sdX8_goesYear_12.2.2.2.2.2.2.2.1
theorem sdX8_goesYear_26 : dz_Seg cX8_goesYear [(26, .iinc 2 1, 3), (29, .goto (-22), 3), (32, .iconst 0, 1), (33, .istore_n 2, 1), (34, .iload_n 2, 1), (35, .aload_n 0, 1), (36, .getfield 132, 3), (39, .if_icmp .ge 23, 3)] := dz_sg _ 26 (by decide +kernel)
theorem dX8_goesYear_26 : decode cX8_goesYear 26 = .ok (.iinc 2 1, 3) := sdX8_goesYear_26.1
theorem dX8_goesYear_29 : decode cX8_goesYear 29 = .ok (.goto (-22), 3) := sdX8_goesYear_26.2.1
theorem dX8_goesYear_32 : decode cX8_goesYear 32 = .ok (.iconst 0, 1) := sdX8_goesYear_26.2.2.1
theorem dX8_goesYear_33 : decode cX8_goesYear 33 = .ok (.istore_n 2, 1) := sdX8_goesYear_26.2.2.2.1
theorem dX8_goesYear_34 : decode cX8_goesYear 34 = .ok (.iload_n 2, 1) := sdX8_goesYear_26.2.2.2.2.1
theorem dX8_goesYear_35 : decode cX8_goesYear 35 = .ok (.aload_n 0, 1) := sdX8_goesYear_26.2.2.2.2.2.1
theorem dX8_goesYear_36 : decode cX8_goesYear 36 = .ok (.getfield 132, 3) := sdX8_goesYear_26.2.2.2.2.2.2.1
theorem dX8_goesYear_39 : decode cX8_goesYear 39 = .ok (.if_icmp .ge 23, 3) := sdX8_goesYear_26.2.2.2.2.2.2.2.1
theorem sdX8_goesYear_42 : dz_Seg cX8_goesYear [(42, .aload_n 0, 1), (43, .getfield 7, 3), (46, .iconst 0, 1), (47, .iload_n 2, 1), (48, .iadd, 1), (49, .aload_n 0, 1), (50, .getfield 106, 3), (53, .iload_n 2, 1)] := dz_sg _ 42 (by decide +kernel)
theorem dX8_goesYear_42 : decode cX8_goesYear 42 = .ok (.aload_n 0, 1) := sdX8_goesYear_42.1
theorem dX8_goesYear_43 : decode cX8_goesYear 43 = .ok (.getfield 7, 3) := sdX8_goesYear_42.2.1
theorem dX8_goesYear_46 : decode cX8_goesYear 46 = .ok (.iconst 0, 1) := sdX8_goesYear_42.2.2.1
theorem dX8_goesYear_47 : decode cX8_goesYear 47 = .ok (.iload_n 2, 1) := sdX8_goesYear_42.2.2.2.1
theorem dX8_goesYear_48 : decode cX8_goesYear 48 = .ok (.iadd, 1) := sdX8_goesYear_42.2.2.2.2.1
theorem dX8_goesYear_49 : decode cX8_goesYear 49 = .ok (.aload_n 0, 1) := sdX8_goesYear_42.2.2.2.2.2.1
theorem dX8_goesYear_50 : decode cX8_goesYear 50 = .ok (.getfield 106, 3) := sdX8_goesYear_42.2.2.2.2.2.2.1
theorem dX8_goesYear_53 : decode cX8_goesYear 53 = .ok (.iload_n 2, 1) := sdX8_goesYear_42.2.2.2.2.2.2.2.1
theorem sdX8_goesYear_54 : dz_Seg cX8_goesYear [(54, .iaload, 1), (55, .iastore, 1), (56, .iinc 2 1, 3), (59, .goto (-25), 3), (62, .return_, 1)] := dz_sg _ 54 (by decide +kernel)
theorem dX8_goesYear_54 : decode cX8_goesYear 54 = .ok (.iaload, 1) := sdX8_goesYear_54.1
theorem dX8_goesYear_55 : decode cX8_goesYear 55 = .ok (.iastore, 1) := sdX8_goesYear_54.2.1
theorem dX8_goesYear_56 : decode cX8_goesYear 56 = .ok (.iinc 2 1, 3) := sdX8_goesYear_54.2.2.1
theorem dX8_goesYear_59 : decode cX8_goesYear 59 = .ok (.goto (-25), 3) := sdX8_goesYear_54.2.2.2.1
theorem dX8_goesYear_62 : decode cX8_goesYear 62 = .ok (.return_, 1) := sdX8_goesYear_54.2.2.2.2.1
theorem sdX8_unitNow_0 : dz_Seg cX8_unitNow [(0, .iconst 0, 1), (1, .istore_n 2, 1), (2, .aload_n 0, 1), (3, .getfield 49, 3), (6, .iload_n 2, 1), (7, .iaload, 1), (8, .iload_n 1, 1), (9, .invokestatic 240, 3)] := dz_sg _ 0 (by decide +kernel)
theorem dX8_unitNow_0 : decode cX8_unitNow 0 = .ok (.iconst 0, 1) := sdX8_unitNow_0.1
theorem dX8_unitNow_1 : decode cX8_unitNow 1 = .ok (.istore_n 2, 1) := sdX8_unitNow_0.2.1
theorem dX8_unitNow_2 : decode cX8_unitNow 2 = .ok (.aload_n 0, 1) := sdX8_unitNow_0.2.2.1
theorem dX8_unitNow_3 : decode cX8_unitNow 3 = .ok (.getfield 49, 3) := sdX8_unitNow_0.2.2.2.1
theorem dX8_unitNow_6 : decode cX8_unitNow 6 = .ok (.iload_n 2, 1) := sdX8_unitNow_0.2.2.2.2.1
theorem dX8_unitNow_7 : decode cX8_unitNow 7 = .ok (.iaload, 1) := sdX8_unitNow_0.2.2.2.2.2.1
theorem dX8_unitNow_8 : decode cX8_unitNow 8 = .ok (.iload_n 1, 1) := sdX8_unitNow_0.2.2.2.2.2.2.1
theorem dX8_unitNow_9 : decode cX8_unitNow 9 = .ok (.invokestatic 240, 3) := sdX8_unitNow_0.2.2.2.2.2.2.2.1
theorem sdX8_unitNow_12 : dz_Seg cX8_unitNow [(12, .ifCond .ne 9, 3), (15, .iinc 2 1, 3), (18, .goto (-16), 3), (21, .aload_n 0, 1), (22, .getfield 73, 3), (25, .iload_n 2, 1), (26, .iaload, 1), (27, .ireturn, 1)] := dz_sg _ 12 (by decide +kernel)
theorem dX8_unitNow_12 : decode cX8_unitNow 12 = .ok (.ifCond .ne 9, 3) := sdX8_unitNow_12.1
theorem dX8_unitNow_15 : decode cX8_unitNow 15 = .ok (.iinc 2 1, 3) := sdX8_unitNow_12.2.1
theorem dX8_unitNow_18 : decode cX8_unitNow 18 = .ok (.goto (-16), 3) := sdX8_unitNow_12.2.2.1
theorem dX8_unitNow_21 : decode cX8_unitNow 21 = .ok (.aload_n 0, 1) := sdX8_unitNow_12.2.2.2.1
theorem dX8_unitNow_22 : decode cX8_unitNow 22 = .ok (.getfield 73, 3) := sdX8_unitNow_12.2.2.2.2.1
theorem dX8_unitNow_25 : decode cX8_unitNow 25 = .ok (.iload_n 2, 1) := sdX8_unitNow_12.2.2.2.2.2.1
theorem dX8_unitNow_26 : decode cX8_unitNow 26 = .ok (.iaload, 1) := sdX8_unitNow_12.2.2.2.2.2.2.1
theorem dX8_unitNow_27 : decode cX8_unitNow 27 = .ok (.ireturn, 1) := sdX8_unitNow_12.2.2.2.2.2.2.2.1
theorem sdX8_areYears_0 : dz_Seg cX8_areYears [(0, .iload_n 0, 1), (1, .invokestatic 358, 3), (4, .ifCond .eq 34, 3), (7, .iload_n 1, 1), (8, .i2l, 1), (9, .lconst 1, 1), (10, .ldc2_w 469, 3), (13, .invokestatic 128, 3)] := dz_sg _ 0 (by decide +kernel)
theorem dX8_areYears_0 : decode cX8_areYears 0 = .ok (.iload_n 0, 1) := sdX8_areYears_0.1
theorem dX8_areYears_1 : decode cX8_areYears 1 = .ok (.invokestatic 358, 3) := sdX8_areYears_0.2.1
theorem dX8_areYears_4 : decode cX8_areYears 4 = .ok (.ifCond .eq 34, 3) := sdX8_areYears_0.2.2.1
theorem dX8_areYears_7 : decode cX8_areYears 7 = .ok (.iload_n 1, 1) := sdX8_areYears_0.2.2.2.1
theorem dX8_areYears_8 : decode cX8_areYears 8 = .ok (.i2l, 1) := sdX8_areYears_0.2.2.2.2.1
theorem dX8_areYears_9 : decode cX8_areYears 9 = .ok (.lconst 1, 1) := sdX8_areYears_0.2.2.2.2.2.1
theorem dX8_areYears_10 : decode cX8_areYears 10 = .ok (.ldc2_w 469, 3) := sdX8_areYears_0.2.2.2.2.2.2.1
theorem dX8_areYears_13 : decode cX8_areYears 13 = .ok (.invokestatic 128, 3) := sdX8_areYears_0.2.2.2.2.2.2.2.1
theorem sdX8_areYears_16 : dz_Seg cX8_areYears [(16, .ifCond .eq 22, 3), (19, .iload_n 0, 1), (20, .i2l, 1), (21, .iload_n 1, 1), (22, .i2l, 1), (23, .ladd, 1), (24, .lconst 0, 1), (25, .ldc2_w 135, 3)] := dz_sg _ 16 (by decide +kernel)
theorem dX8_areYears_16 : decode cX8_areYears 16 = .ok (.ifCond .eq 22, 3) := sdX8_areYears_16.1
theorem dX8_areYears_19 : decode cX8_areYears 19 = .ok (.iload_n 0, 1) := sdX8_areYears_16.2.1
theorem dX8_areYears_20 : decode cX8_areYears 20 = .ok (.i2l, 1) := sdX8_areYears_16.2.2.1
theorem dX8_areYears_21 : decode cX8_areYears 21 = .ok (.iload_n 1, 1) := sdX8_areYears_16.2.2.2.1
theorem dX8_areYears_22 : decode cX8_areYears 22 = .ok (.i2l, 1) := sdX8_areYears_16.2.2.2.2.1
theorem dX8_areYears_23 : decode cX8_areYears 23 = .ok (.ladd, 1) := sdX8_areYears_16.2.2.2.2.2.1
theorem dX8_areYears_24 : decode cX8_areYears 24 = .ok (.lconst 0, 1) := sdX8_areYears_16.2.2.2.2.2.2.1
theorem dX8_areYears_25 : decode cX8_areYears 25 = .ok (.ldc2_w 135, 3) := sdX8_areYears_16.2.2.2.2.2.2.2.1
theorem sdX8_areYears_28 : dz_Seg cX8_areYears [(28, .invokestatic 128, 3), (31, .ifCond .eq 7, 3), (34, .iconst 1, 1), (35, .goto 4, 3), (38, .iconst 0, 1), (39, .ireturn, 1)] := dz_sg _ 28 (by decide +kernel)
theorem dX8_areYears_28 : decode cX8_areYears 28 = .ok (.invokestatic 128, 3) := sdX8_areYears_28.1
theorem dX8_areYears_31 : decode cX8_areYears 31 = .ok (.ifCond .eq 7, 3) := sdX8_areYears_28.2.1
theorem dX8_areYears_34 : decode cX8_areYears 34 = .ok (.iconst 1, 1) := sdX8_areYears_28.2.2.1
theorem dX8_areYears_35 : decode cX8_areYears 35 = .ok (.goto 4, 3) := sdX8_areYears_28.2.2.2.1
theorem dX8_areYears_38 : decode cX8_areYears 38 = .ok (.iconst 0, 1) := sdX8_areYears_28.2.2.2.2.1
theorem dX8_areYears_39 : decode cX8_areYears 39 = .ok (.ireturn, 1) := sdX8_areYears_28.2.2.2.2.2.1
theorem sdX8_years_0 : dz_Seg cX8_years [(0, .iload_n 1, 1), (1, .iload_n 2, 1), (2, .invokestatic 471, 3), (5, .ifCond .eq 15, 3), (8, .iload_n 3, 1), (9, .i2l, 1), (10, .lconst 0, 1), (11, .ldc2_w 427, 3)] := dz_sg _ 0 (by decide +kernel)
theorem dX8_years_0 : decode cX8_years 0 = .ok (.iload_n 1, 1) := sdX8_years_0.1
theorem dX8_years_1 : decode cX8_years 1 = .ok (.iload_n 2, 1) := sdX8_years_0.2.1
theorem dX8_years_2 : decode cX8_years 2 = .ok (.invokestatic 471, 3) := sdX8_years_0.2.2.1
theorem dX8_years_5 : decode cX8_years 5 = .ok (.ifCond .eq 15, 3) := sdX8_years_0.2.2.2.1
theorem dX8_years_8 : decode cX8_years 8 = .ok (.iload_n 3, 1) := sdX8_years_0.2.2.2.2.1
theorem dX8_years_9 : decode cX8_years 9 = .ok (.i2l, 1) := sdX8_years_0.2.2.2.2.2.1
theorem dX8_years_10 : decode cX8_years 10 = .ok (.lconst 0, 1) := sdX8_years_0.2.2.2.2.2.2.1
theorem dX8_years_11 : decode cX8_years 11 = .ok (.ldc2_w 427, 3) := sdX8_years_0.2.2.2.2.2.2.2.1
theorem sdX8_years_14 : dz_Seg cX8_years [(14, .invokestatic 128, 3), (17, .ifCond .ne 9, 3), (20, .aload_n 0, 1), (21, .iconst 1, 1), (22, .invokevirtual 263, 3), (25, .ireturn, 1), (26, .aload_n 0, 1), (27, .invokevirtual 444, 3)] := dz_sg _ 14 (by decide +kernel)
theorem dX8_years_14 : decode cX8_years 14 = .ok (.invokestatic 128, 3) := sdX8_years_14.1
theorem dX8_years_17 : decode cX8_years 17 = .ok (.ifCond .ne 9, 3) := sdX8_years_14.2.1
theorem dX8_years_20 : decode cX8_years 20 = .ok (.aload_n 0, 1) := sdX8_years_14.2.2.1
theorem dX8_years_21 : decode cX8_years 21 = .ok (.iconst 1, 1) := sdX8_years_14.2.2.2.1
theorem dX8_years_22 : decode cX8_years 22 = .ok (.invokevirtual 263, 3) := sdX8_years_14.2.2.2.2.1
theorem dX8_years_25 : decode cX8_years 25 = .ok (.ireturn, 1) := sdX8_years_14.2.2.2.2.2.1
theorem dX8_years_26 : decode cX8_years 26 = .ok (.aload_n 0, 1) := sdX8_years_14.2.2.2.2.2.2.1
theorem dX8_years_27 : decode cX8_years 27 = .ok (.invokevirtual 444, 3) := sdX8_years_14.2.2.2.2.2.2.2.1
theorem sdX8_years_30 : dz_Seg cX8_years [(30, .iconst 0, 1), (31, .istore 4, 2), (33, .iconst 1, 1), (34, .aload_n 0, 1), (35, .getfield 132, 3), (38, .ishl, 1), (39, .iconst 1, 1), (40, .isub, 1)] := dz_sg _ 30 (by decide +kernel)
theorem dX8_years_30 : decode cX8_years 30 = .ok (.iconst 0, 1) := sdX8_years_30.1
theorem dX8_years_31 : decode cX8_years 31 = .ok (.istore 4, 2) := sdX8_years_30.2.1
theorem dX8_years_33 : decode cX8_years 33 = .ok (.iconst 1, 1) := sdX8_years_30.2.2.1
theorem dX8_years_34 : decode cX8_years 34 = .ok (.aload_n 0, 1) := sdX8_years_30.2.2.2.1
theorem dX8_years_35 : decode cX8_years 35 = .ok (.getfield 132, 3) := sdX8_years_30.2.2.2.2.1
theorem dX8_years_38 : decode cX8_years 38 = .ok (.ishl, 1) := sdX8_years_30.2.2.2.2.2.1
theorem dX8_years_39 : decode cX8_years 39 = .ok (.iconst 1, 1) := sdX8_years_30.2.2.2.2.2.2.1
theorem dX8_years_40 : decode cX8_years 40 = .ok (.isub, 1) := sdX8_years_30.2.2.2.2.2.2.2.1
theorem sdX8_years_41 : dz_Seg cX8_years [(41, .istore 5, 2), (43, .iconst 0, 1), (44, .istore 6, 2), (46, .iconst 0, 1), (47, .istore 7, 2), (49, .iload 7, 2), (51, .aload_n 0, 1), (52, .getfield 132, 3)] := dz_sg _ 41 (by decide +kernel)
theorem dX8_years_41 : decode cX8_years 41 = .ok (.istore 5, 2) := sdX8_years_41.1
theorem dX8_years_43 : decode cX8_years 43 = .ok (.iconst 0, 1) := sdX8_years_41.2.1
theorem dX8_years_44 : decode cX8_years 44 = .ok (.istore 6, 2) := sdX8_years_41.2.2.1
theorem dX8_years_46 : decode cX8_years 46 = .ok (.iconst 0, 1) := sdX8_years_41.2.2.2.1
theorem dX8_years_47 : decode cX8_years 47 = .ok (.istore 7, 2) := sdX8_years_41.2.2.2.2.1
theorem dX8_years_49 : decode cX8_years 49 = .ok (.iload 7, 2) := sdX8_years_41.2.2.2.2.2.1
theorem dX8_years_51 : decode cX8_years 51 = .ok (.aload_n 0, 1) := sdX8_years_41.2.2.2.2.2.2.1
theorem dX8_years_52 : decode cX8_years 52 = .ok (.getfield 132, 3) := sdX8_years_41.2.2.2.2.2.2.2.1
theorem sdX8_years_55 : dz_Seg cX8_years [(55, .if_icmp .ge 17, 3), (58, .aload_n 0, 1), (59, .getfield 109, 3), (62, .iload 7, 2), (64, .iconst 0, 1), (65, .iastore, 1), (66, .iinc 7 1, 3), (69, .goto (-20), 3)] := dz_sg _ 55 (by decide +kernel)
theorem dX8_years_55 : decode cX8_years 55 = .ok (.if_icmp .ge 17, 3) := sdX8_years_55.1
theorem dX8_years_58 : decode cX8_years 58 = .ok (.aload_n 0, 1) := sdX8_years_55.2.1
theorem dX8_years_59 : decode cX8_years 59 = .ok (.getfield 109, 3) := sdX8_years_55.2.2.1
theorem dX8_years_62 : decode cX8_years 62 = .ok (.iload 7, 2) := sdX8_years_55.2.2.2.1
theorem dX8_years_64 : decode cX8_years 64 = .ok (.iconst 0, 1) := sdX8_years_55.2.2.2.2.1
theorem dX8_years_65 : decode cX8_years 65 = .ok (.iastore, 1) := sdX8_years_55.2.2.2.2.2.1
theorem dX8_years_66 : decode cX8_years 66 = .ok (.iinc 7 1, 3) := sdX8_years_55.2.2.2.2.2.2.1
theorem dX8_years_69 : decode cX8_years 69 = .ok (.goto (-20), 3) := sdX8_years_55.2.2.2.2.2.2.2.1
theorem sdX8_years_72 : dz_Seg cX8_years [(72, .iconst 0, 1), (73, .istore 7, 2), (75, .iload 7, 2), (77, .iload_n 2, 1), (78, .if_icmp .ge 99, 3), (81, .aload_n 0, 1), (82, .iload_n 1, 1), (83, .iload 7, 2)] := dz_sg _ 72 (by decide +kernel)
theorem dX8_years_72 : decode cX8_years 72 = .ok (.iconst 0, 1) := sdX8_years_72.1
theorem dX8_years_73 : decode cX8_years 73 = .ok (.istore 7, 2) := sdX8_years_72.2.1
theorem dX8_years_75 : decode cX8_years 75 = .ok (.iload 7, 2) := sdX8_years_72.2.2.1
theorem dX8_years_77 : decode cX8_years 77 = .ok (.iload_n 2, 1) := sdX8_years_72.2.2.2.1
theorem dX8_years_78 : decode cX8_years 78 = .ok (.if_icmp .ge 99, 3) := sdX8_years_72.2.2.2.2.1
theorem dX8_years_81 : decode cX8_years 81 = .ok (.aload_n 0, 1) := sdX8_years_72.2.2.2.2.2.1
theorem dX8_years_82 : decode cX8_years 82 = .ok (.iload_n 1, 1) := sdX8_years_72.2.2.2.2.2.2.1
theorem dX8_years_83 : decode cX8_years 83 = .ok (.iload 7, 2) := sdX8_years_72.2.2.2.2.2.2.2.1
theorem sdX8_years_85 : dz_Seg cX8_years [(85, .iadd, 1), (86, .invokevirtual 474, 3), (89, .iload 4, 2), (91, .aload_n 0, 1), (92, .invokevirtual 421, 3), (95, .iadd, 1), (96, .istore 4, 2), (98, .iload 5, 2)] := dz_sg _ 85 (by decide +kernel)
theorem dX8_years_85 : decode cX8_years 85 = .ok (.iadd, 1) := sdX8_years_85.1
theorem dX8_years_86 : decode cX8_years 86 = .ok (.invokevirtual 474, 3) := sdX8_years_85.2.1
theorem dX8_years_89 : decode cX8_years 89 = .ok (.iload 4, 2) := sdX8_years_85.2.2.1
theorem dX8_years_91 : decode cX8_years 91 = .ok (.aload_n 0, 1) := sdX8_years_85.2.2.2.1
theorem dX8_years_92 : decode cX8_years 92 = .ok (.invokevirtual 421, 3) := sdX8_years_85.2.2.2.2.1
theorem dX8_years_95 : decode cX8_years 95 = .ok (.iadd, 1) := sdX8_years_85.2.2.2.2.2.1
theorem dX8_years_96 : decode cX8_years 96 = .ok (.istore 4, 2) := sdX8_years_85.2.2.2.2.2.2.1
theorem dX8_years_98 : decode cX8_years 98 = .ok (.iload 5, 2) := sdX8_years_85.2.2.2.2.2.2.2.1
theorem sdX8_years_100 : dz_Seg cX8_years [(100, .aload_n 0, 1), (101, .invokevirtual 371, 3), (104, .iconst (-1), 1), (105, .ixor, 1), (106, .iand, 1), (107, .istore 5, 2), (109, .iconst 0, 1), (110, .istore 8, 2)] := dz_sg _ 100 (by decide +kernel)
theorem dX8_years_100 : decode cX8_years 100 = .ok (.aload_n 0, 1) := sdX8_years_100.1
theorem dX8_years_101 : decode cX8_years 101 = .ok (.invokevirtual 371, 3) := sdX8_years_100.2.1
theorem dX8_years_104 : decode cX8_years 104 = .ok (.iconst (-1), 1) := sdX8_years_100.2.2.1
theorem dX8_years_105 : decode cX8_years 105 = .ok (.ixor, 1) := sdX8_years_100.2.2.2.1
theorem dX8_years_106 : decode cX8_years 106 = .ok (.iand, 1) := sdX8_years_100.2.2.2.2.1
theorem dX8_years_107 : decode cX8_years 107 = .ok (.istore 5, 2) := sdX8_years_100.2.2.2.2.2.1
theorem dX8_years_109 : decode cX8_years 109 = .ok (.iconst 0, 1) := sdX8_years_100.2.2.2.2.2.2.1
theorem dX8_years_110 : decode cX8_years 110 = .ok (.istore 8, 2) := sdX8_years_100.2.2.2.2.2.2.2.1
theorem sdX8_years_112 : dz_Seg cX8_years [(112, .iload 8, 2), (114, .aload_n 0, 1), (115, .getfield 132, 3), (118, .if_icmp .ge 53, 3), (121, .aload_n 0, 1), (122, .getfield 109, 3), (125, .iload 8, 2), (127, .aload_n 0, 1)] := dz_sg _ 112 (by decide +kernel)
theorem dX8_years_112 : decode cX8_years 112 = .ok (.iload 8, 2) := sdX8_years_112.1
theorem dX8_years_114 : decode cX8_years 114 = .ok (.aload_n 0, 1) := sdX8_years_112.2.1
theorem dX8_years_115 : decode cX8_years 115 = .ok (.getfield 132, 3) := sdX8_years_112.2.2.1
theorem dX8_years_118 : decode cX8_years 118 = .ok (.if_icmp .ge 53, 3) := sdX8_years_112.2.2.2.1
theorem dX8_years_121 : decode cX8_years 121 = .ok (.aload_n 0, 1) := sdX8_years_112.2.2.2.2.1
theorem dX8_years_122 : decode cX8_years 122 = .ok (.getfield 109, 3) := sdX8_years_112.2.2.2.2.2.1
theorem dX8_years_125 : decode cX8_years 125 = .ok (.iload 8, 2) := sdX8_years_112.2.2.2.2.2.2.1
theorem dX8_years_127 : decode cX8_years 127 = .ok (.aload_n 0, 1) := sdX8_years_112.2.2.2.2.2.2.2.1
theorem sdX8_years_128 : dz_Seg cX8_years [(128, .iload 8, 2), (130, .invokevirtual 477, 3), (133, .iconst (-1), 1), (134, .if_icmp .ne 15, 3), (137, .aload_n 0, 1), (138, .getfield 109, 3), (141, .iload 8, 2), (143, .iaload, 1)] := dz_sg _ 128 (by decide +kernel)
theorem dX8_years_128 : decode cX8_years 128 = .ok (.iload 8, 2) := sdX8_years_128.1
theorem dX8_years_130 : decode cX8_years 130 = .ok (.invokevirtual 477, 3) := sdX8_years_128.2.1
theorem dX8_years_133 : decode cX8_years 133 = .ok (.iconst (-1), 1) := sdX8_years_128.2.2.1
theorem dX8_years_134 : decode cX8_years 134 = .ok (.if_icmp .ne 15, 3) := sdX8_years_128.2.2.2.1
theorem dX8_years_137 : decode cX8_years 137 = .ok (.aload_n 0, 1) := sdX8_years_128.2.2.2.2.1
theorem dX8_years_138 : decode cX8_years 138 = .ok (.getfield 109, 3) := sdX8_years_128.2.2.2.2.2.1
theorem dX8_years_141 : decode cX8_years 141 = .ok (.iload 8, 2) := sdX8_years_128.2.2.2.2.2.2.1
theorem dX8_years_143 : decode cX8_years 143 = .ok (.iaload, 1) := sdX8_years_128.2.2.2.2.2.2.2.1
theorem sdX8_years_144 : dz_Seg cX8_years [(144, .iconst 1, 1), (145, .iadd, 1), (146, .goto 4, 3), (149, .iconst 0, 1), (150, .iastore, 1), (151, .iload 6, 2), (153, .aload_n 0, 1), (154, .getfield 109, 3)] := dz_sg _ 144 (by decide +kernel)
theorem dX8_years_144 : decode cX8_years 144 = .ok (.iconst 1, 1) := sdX8_years_144.1
theorem dX8_years_145 : decode cX8_years 145 = .ok (.iadd, 1) := sdX8_years_144.2.1
theorem dX8_years_146 : decode cX8_years 146 = .ok (.goto 4, 3) := sdX8_years_144.2.2.1
theorem dX8_years_149 : decode cX8_years 149 = .ok (.iconst 0, 1) := sdX8_years_144.2.2.2.1
theorem dX8_years_150 : decode cX8_years 150 = .ok (.iastore, 1) := sdX8_years_144.2.2.2.2.1
theorem dX8_years_151 : decode cX8_years 151 = .ok (.iload 6, 2) := sdX8_years_144.2.2.2.2.2.1
theorem dX8_years_153 : decode cX8_years 153 = .ok (.aload_n 0, 1) := sdX8_years_144.2.2.2.2.2.2.1
theorem dX8_years_154 : decode cX8_years 154 = .ok (.getfield 109, 3) := sdX8_years_144.2.2.2.2.2.2.2.1
theorem sdX8_years_157 : dz_Seg cX8_years [(157, .iload 8, 2), (159, .iaload, 1), (160, .invokestatic 424, 3), (163, .istore 6, 2), (165, .iinc 8 1, 3), (168, .goto (-56), 3), (171, .iinc 7 1, 3), (174, .goto (-99), 3)] := dz_sg _ 157 (by decide +kernel)
theorem dX8_years_157 : decode cX8_years 157 = .ok (.iload 8, 2) := sdX8_years_157.1
theorem dX8_years_159 : decode cX8_years 159 = .ok (.iaload, 1) := sdX8_years_157.2.1
theorem dX8_years_160 : decode cX8_years 160 = .ok (.invokestatic 424, 3) := sdX8_years_157.2.2.1
theorem dX8_years_163 : decode cX8_years 163 = .ok (.istore 6, 2) := sdX8_years_157.2.2.2.1
theorem dX8_years_165 : decode cX8_years 165 = .ok (.iinc 8 1, 3) := sdX8_years_157.2.2.2.2.1
theorem dX8_years_168 : decode cX8_years 168 = .ok (.goto (-56), 3) := sdX8_years_157.2.2.2.2.2.1
theorem dX8_years_171 : decode cX8_years 171 = .ok (.iinc 7 1, 3) := sdX8_years_157.2.2.2.2.2.2.1
theorem dX8_years_174 : decode cX8_years 174 = .ok (.goto (-99), 3) := sdX8_years_157.2.2.2.2.2.2.2.1
theorem sdX8_years_177 : dz_Seg cX8_years [(177, .aload_n 0, 1), (178, .invokevirtual 449, 3), (181, .aload_n 0, 1), (182, .iload_n 3, 1), (183, .ifCond .ne 8, 3), (186, .iload 4, 2), (188, .goto 15, 3), (191, .iload_n 3, 1)] := dz_sg _ 177 (by decide +kernel)
theorem dX8_years_177 : decode cX8_years 177 = .ok (.aload_n 0, 1) := sdX8_years_177.1
theorem dX8_years_178 : decode cX8_years 178 = .ok (.invokevirtual 449, 3) := sdX8_years_177.2.1
theorem dX8_years_181 : decode cX8_years 181 = .ok (.aload_n 0, 1) := sdX8_years_177.2.2.1
theorem dX8_years_182 : decode cX8_years 182 = .ok (.iload_n 3, 1) := sdX8_years_177.2.2.2.1
theorem dX8_years_183 : decode cX8_years 183 = .ok (.ifCond .ne 8, 3) := sdX8_years_177.2.2.2.2.1
theorem dX8_years_186 : decode cX8_years 186 = .ok (.iload 4, 2) := sdX8_years_177.2.2.2.2.2.1
theorem dX8_years_188 : decode cX8_years 188 = .ok (.goto 15, 3) := sdX8_years_177.2.2.2.2.2.2.1
theorem dX8_years_191 : decode cX8_years 191 = .ok (.iload_n 3, 1) := sdX8_years_177.2.2.2.2.2.2.2.1
theorem sdX8_years_192 : dz_Seg cX8_years [(192, .iconst 1, 1), (193, .if_icmp .ne 8, 3), (196, .iload 5, 2), (198, .goto 5, 3), (201, .iload 6, 2), (203, .invokevirtual 272, 3), (206, .ireturn, 1)] := dz_sg _ 192 (by decide +kernel)
theorem dX8_years_192 : decode cX8_years 192 = .ok (.iconst 1, 1) := sdX8_years_192.1
theorem dX8_years_193 : decode cX8_years 193 = .ok (.if_icmp .ne 8, 3) := sdX8_years_192.2.1
theorem dX8_years_196 : decode cX8_years 196 = .ok (.iload 5, 2) := sdX8_years_192.2.2.1
theorem dX8_years_198 : decode cX8_years 198 = .ok (.goto 5, 3) := sdX8_years_192.2.2.2.1
theorem dX8_years_201 : decode cX8_years 201 = .ok (.iload 6, 2) := sdX8_years_192.2.2.2.2.1
theorem dX8_years_203 : decode cX8_years 203 = .ok (.invokevirtual 272, 3) := sdX8_years_192.2.2.2.2.2.1
theorem dX8_years_206 : decode cX8_years 206 = .ok (.ireturn, 1) := sdX8_years_192.2.2.2.2.2.2.1
theorem sdX8_often_0 : dz_Seg cX8_often [(0, .iload_n 1, 1), (1, .iload_n 2, 1), (2, .invokestatic 471, 3), (5, .ifCond .ne 9, 3), (8, .aload_n 0, 1), (9, .iconst 1, 1), (10, .invokevirtual 263, 3), (13, .ireturn, 1)] := dz_sg _ 0 (by decide +kernel)
theorem dX8_often_0 : decode cX8_often 0 = .ok (.iload_n 1, 1) := sdX8_often_0.1
theorem dX8_often_1 : decode cX8_often 1 = .ok (.iload_n 2, 1) := sdX8_often_0.2.1
theorem dX8_often_2 : decode cX8_often 2 = .ok (.invokestatic 471, 3) := sdX8_often_0.2.2.1
theorem dX8_often_5 : decode cX8_often 5 = .ok (.ifCond .ne 9, 3) := sdX8_often_0.2.2.2.1
theorem dX8_often_8 : decode cX8_often 8 = .ok (.aload_n 0, 1) := sdX8_often_0.2.2.2.2.1
theorem dX8_often_9 : decode cX8_often 9 = .ok (.iconst 1, 1) := sdX8_often_0.2.2.2.2.2.1
theorem dX8_often_10 : decode cX8_often 10 = .ok (.invokevirtual 263, 3) := sdX8_often_0.2.2.2.2.2.2.1
theorem dX8_often_13 : decode cX8_often 13 = .ok (.ireturn, 1) := sdX8_often_0.2.2.2.2.2.2.2.1
theorem sdX8_often_14 : dz_Seg cX8_often [(14, .aload_n 0, 1), (15, .iload_n 3, 1), (16, .invokevirtual 293, 3), (19, .ifCond .ne 9, 3), (22, .aload_n 0, 1), (23, .iconst 2, 1), (24, .invokevirtual 263, 3), (27, .ireturn, 1)] := dz_sg _ 14 (by decide +kernel)
theorem dX8_often_14 : decode cX8_often 14 = .ok (.aload_n 0, 1) := sdX8_often_14.1
theorem dX8_often_15 : decode cX8_often 15 = .ok (.iload_n 3, 1) := sdX8_often_14.2.1
theorem dX8_often_16 : decode cX8_often 16 = .ok (.invokevirtual 293, 3) := sdX8_often_14.2.2.1
theorem dX8_often_19 : decode cX8_often 19 = .ok (.ifCond .ne 9, 3) := sdX8_often_14.2.2.2.1
theorem dX8_often_22 : decode cX8_often 22 = .ok (.aload_n 0, 1) := sdX8_often_14.2.2.2.2.1
theorem dX8_often_23 : decode cX8_often 23 = .ok (.iconst 2, 1) := sdX8_often_14.2.2.2.2.2.1
theorem dX8_often_24 : decode cX8_often 24 = .ok (.invokevirtual 263, 3) := sdX8_often_14.2.2.2.2.2.2.1
theorem dX8_often_27 : decode cX8_often 27 = .ok (.ireturn, 1) := sdX8_often_14.2.2.2.2.2.2.2.1
theorem sdX8_often_28 : dz_Seg cX8_often [(28, .aload_n 0, 1), (29, .invokevirtual 444, 3), (32, .iconst 0, 1), (33, .istore 4, 2), (35, .iconst 0, 1), (36, .istore 5, 2), (38, .iload 5, 2), (40, .iload_n 2, 1)] := dz_sg _ 28 (by decide +kernel)
theorem dX8_often_28 : decode cX8_often 28 = .ok (.aload_n 0, 1) := sdX8_often_28.1
theorem dX8_often_29 : decode cX8_often 29 = .ok (.invokevirtual 444, 3) := sdX8_often_28.2.1
theorem dX8_often_32 : decode cX8_often 32 = .ok (.iconst 0, 1) := sdX8_often_28.2.2.1
theorem dX8_often_33 : decode cX8_often 33 = .ok (.istore 4, 2) := sdX8_often_28.2.2.2.1
theorem dX8_often_35 : decode cX8_often 35 = .ok (.iconst 0, 1) := sdX8_often_28.2.2.2.2.1
theorem dX8_often_36 : decode cX8_often 36 = .ok (.istore 5, 2) := sdX8_often_28.2.2.2.2.2.1
theorem dX8_often_38 : decode cX8_often 38 = .ok (.iload 5, 2) := sdX8_often_28.2.2.2.2.2.2.1
theorem dX8_often_40 : decode cX8_often 40 = .ok (.iload_n 2, 1) := sdX8_often_28.2.2.2.2.2.2.2.1
theorem sdX8_often_41 : dz_Seg cX8_often [(41, .if_icmp .ge 36, 3), (44, .aload_n 0, 1), (45, .iload_n 1, 1), (46, .iload 5, 2), (48, .iadd, 1), (49, .invokevirtual 474, 3), (52, .iload 4, 2), (54, .aload_n 0, 1)] := dz_sg _ 41 (by decide +kernel)
theorem dX8_often_41 : decode cX8_often 41 = .ok (.if_icmp .ge 36, 3) := sdX8_often_41.1
theorem dX8_often_44 : decode cX8_often 44 = .ok (.aload_n 0, 1) := sdX8_often_41.2.1
theorem dX8_often_45 : decode cX8_often 45 = .ok (.iload_n 1, 1) := sdX8_often_41.2.2.1
theorem dX8_often_46 : decode cX8_often 46 = .ok (.iload 5, 2) := sdX8_often_41.2.2.2.1
theorem dX8_often_48 : decode cX8_often 48 = .ok (.iadd, 1) := sdX8_often_41.2.2.2.2.1
theorem dX8_often_49 : decode cX8_often 49 = .ok (.invokevirtual 474, 3) := sdX8_often_41.2.2.2.2.2.1
theorem dX8_often_52 : decode cX8_often 52 = .ok (.iload 4, 2) := sdX8_often_41.2.2.2.2.2.2.1
theorem dX8_often_54 : decode cX8_often 54 = .ok (.aload_n 0, 1) := sdX8_often_41.2.2.2.2.2.2.2.1
theorem sdX8_often_55 : dz_Seg cX8_often [(55, .iload_n 3, 1), (56, .invokevirtual 477, 3), (59, .iconst (-1), 1), (60, .if_icmp .ne 7, 3), (63, .iconst 0, 1), (64, .goto 4, 3), (67, .iconst 1, 1), (68, .iadd, 1)] := dz_sg _ 55 (by decide +kernel)
theorem dX8_often_55 : decode cX8_often 55 = .ok (.iload_n 3, 1) := sdX8_often_55.1
theorem dX8_often_56 : decode cX8_often 56 = .ok (.invokevirtual 477, 3) := sdX8_often_55.2.1
theorem dX8_often_59 : decode cX8_often 59 = .ok (.iconst (-1), 1) := sdX8_often_55.2.2.1
theorem dX8_often_60 : decode cX8_often 60 = .ok (.if_icmp .ne 7, 3) := sdX8_often_55.2.2.2.1
theorem dX8_often_63 : decode cX8_often 63 = .ok (.iconst 0, 1) := sdX8_often_55.2.2.2.2.1
theorem dX8_often_64 : decode cX8_often 64 = .ok (.goto 4, 3) := sdX8_often_55.2.2.2.2.2.1
theorem dX8_often_67 : decode cX8_often 67 = .ok (.iconst 1, 1) := sdX8_often_55.2.2.2.2.2.2.1
theorem dX8_often_68 : decode cX8_often 68 = .ok (.iadd, 1) := sdX8_often_55.2.2.2.2.2.2.2.1
theorem sdX8_often_69 : dz_Seg cX8_often [(69, .istore 4, 2), (71, .iinc 5 1, 3), (74, .goto (-36), 3), (77, .aload_n 0, 1), (78, .invokevirtual 449, 3), (81, .aload_n 0, 1), (82, .iload 4, 2), (84, .invokevirtual 272, 3)] := dz_sg _ 69 (by decide +kernel)
theorem dX8_often_69 : decode cX8_often 69 = .ok (.istore 4, 2) := sdX8_often_69.1
theorem dX8_often_71 : decode cX8_often 71 = .ok (.iinc 5 1, 3) := sdX8_often_69.2.1
theorem dX8_often_74 : decode cX8_often 74 = .ok (.goto (-36), 3) := sdX8_often_69.2.2.1
theorem dX8_often_77 : decode cX8_often 77 = .ok (.aload_n 0, 1) := sdX8_often_69.2.2.2.1
theorem dX8_often_78 : decode cX8_often 78 = .ok (.invokevirtual 449, 3) := sdX8_often_69.2.2.2.2.1
theorem dX8_often_81 : decode cX8_often 81 = .ok (.aload_n 0, 1) := sdX8_often_69.2.2.2.2.2.1
theorem dX8_often_82 : decode cX8_often 82 = .ok (.iload 4, 2) := sdX8_often_69.2.2.2.2.2.2.1
theorem dX8_often_84 : decode cX8_often 84 = .ok (.invokevirtual 272, 3) := sdX8_often_69.2.2.2.2.2.2.2.1
theorem sdX8_often_87 : dz_Seg cX8_often [(87, .ireturn, 1)] := dz_sg _ 87 (by decide +kernel)
theorem dX8_often_87 : decode cX8_often 87 = .ok (.ireturn, 1) := sdX8_often_87.1
theorem sdX8_soonest_0 : dz_Seg cX8_soonest [(0, .iload_n 1, 1), (1, .iload_n 2, 1), (2, .invokestatic 471, 3), (5, .ifCond .ne 9, 3), (8, .aload_n 0, 1), (9, .iconst 1, 1), (10, .invokevirtual 263, 3), (13, .ireturn, 1)] := dz_sg _ 0 (by decide +kernel)
theorem dX8_soonest_0 : decode cX8_soonest 0 = .ok (.iload_n 1, 1) := sdX8_soonest_0.1
theorem dX8_soonest_1 : decode cX8_soonest 1 = .ok (.iload_n 2, 1) := sdX8_soonest_0.2.1
theorem dX8_soonest_2 : decode cX8_soonest 2 = .ok (.invokestatic 471, 3) := sdX8_soonest_0.2.2.1
theorem dX8_soonest_5 : decode cX8_soonest 5 = .ok (.ifCond .ne 9, 3) := sdX8_soonest_0.2.2.2.1
theorem dX8_soonest_8 : decode cX8_soonest 8 = .ok (.aload_n 0, 1) := sdX8_soonest_0.2.2.2.2.1
theorem dX8_soonest_9 : decode cX8_soonest 9 = .ok (.iconst 1, 1) := sdX8_soonest_0.2.2.2.2.2.1
theorem dX8_soonest_10 : decode cX8_soonest 10 = .ok (.invokevirtual 263, 3) := sdX8_soonest_0.2.2.2.2.2.2.1
theorem dX8_soonest_13 : decode cX8_soonest 13 = .ok (.ireturn, 1) := sdX8_soonest_0.2.2.2.2.2.2.2.1
theorem sdX8_soonest_14 : dz_Seg cX8_soonest [(14, .aload_n 0, 1), (15, .iload_n 3, 1), (16, .invokevirtual 293, 3), (19, .ifCond .ne 9, 3), (22, .aload_n 0, 1), (23, .iconst 2, 1), (24, .invokevirtual 263, 3), (27, .ireturn, 1)] := dz_sg _ 14 (by decide +kernel)
theorem dX8_soonest_14 : decode cX8_soonest 14 = .ok (.aload_n 0, 1) := sdX8_soonest_14.1
theorem dX8_soonest_15 : decode cX8_soonest 15 = .ok (.iload_n 3, 1) := sdX8_soonest_14.2.1
theorem dX8_soonest_16 : decode cX8_soonest 16 = .ok (.invokevirtual 293, 3) := sdX8_soonest_14.2.2.1
theorem dX8_soonest_19 : decode cX8_soonest 19 = .ok (.ifCond .ne 9, 3) := sdX8_soonest_14.2.2.2.1
theorem dX8_soonest_22 : decode cX8_soonest 22 = .ok (.aload_n 0, 1) := sdX8_soonest_14.2.2.2.2.1
theorem dX8_soonest_23 : decode cX8_soonest 23 = .ok (.iconst 2, 1) := sdX8_soonest_14.2.2.2.2.2.1
theorem dX8_soonest_24 : decode cX8_soonest 24 = .ok (.invokevirtual 263, 3) := sdX8_soonest_14.2.2.2.2.2.2.1
theorem dX8_soonest_27 : decode cX8_soonest 27 = .ok (.ireturn, 1) := sdX8_soonest_14.2.2.2.2.2.2.2.1
theorem sdX8_soonest_28 : dz_Seg cX8_soonest [(28, .aload_n 0, 1), (29, .invokevirtual 444, 3), (32, .iconst (-1), 1), (33, .istore 4, 2), (35, .iconst 0, 1), (36, .istore 5, 2), (38, .iload 5, 2), (40, .iload_n 2, 1)] := dz_sg _ 28 (by decide +kernel)
theorem dX8_soonest_28 : decode cX8_soonest 28 = .ok (.aload_n 0, 1) := sdX8_soonest_28.1
theorem dX8_soonest_29 : decode cX8_soonest 29 = .ok (.invokevirtual 444, 3) := sdX8_soonest_28.2.1
theorem dX8_soonest_32 : decode cX8_soonest 32 = .ok (.iconst (-1), 1) := sdX8_soonest_28.2.2.1
theorem dX8_soonest_33 : decode cX8_soonest 33 = .ok (.istore 4, 2) := sdX8_soonest_28.2.2.2.1
theorem dX8_soonest_35 : decode cX8_soonest 35 = .ok (.iconst 0, 1) := sdX8_soonest_28.2.2.2.2.1
theorem dX8_soonest_36 : decode cX8_soonest 36 = .ok (.istore 5, 2) := sdX8_soonest_28.2.2.2.2.2.1
theorem dX8_soonest_38 : decode cX8_soonest 38 = .ok (.iload 5, 2) := sdX8_soonest_28.2.2.2.2.2.2.1
theorem dX8_soonest_40 : decode cX8_soonest 40 = .ok (.iload_n 2, 1) := sdX8_soonest_28.2.2.2.2.2.2.2.1
theorem sdX8_soonest_41 : dz_Seg cX8_soonest [(41, .if_icmp .ge 65, 3), (44, .iload 4, 2), (46, .iconst (-1), 1), (47, .if_icmp .ne 59, 3), (50, .aload_n 0, 1), (51, .iload_n 1, 1), (52, .iload 5, 2), (54, .iadd, 1)] := dz_sg _ 41 (by decide +kernel)
theorem dX8_soonest_41 : decode cX8_soonest 41 = .ok (.if_icmp .ge 65, 3) := sdX8_soonest_41.1
theorem dX8_soonest_44 : decode cX8_soonest 44 = .ok (.iload 4, 2) := sdX8_soonest_41.2.1
theorem dX8_soonest_46 : decode cX8_soonest 46 = .ok (.iconst (-1), 1) := sdX8_soonest_41.2.2.1
theorem dX8_soonest_47 : decode cX8_soonest 47 = .ok (.if_icmp .ne 59, 3) := sdX8_soonest_41.2.2.2.1
theorem dX8_soonest_50 : decode cX8_soonest 50 = .ok (.aload_n 0, 1) := sdX8_soonest_41.2.2.2.2.1
theorem dX8_soonest_51 : decode cX8_soonest 51 = .ok (.iload_n 1, 1) := sdX8_soonest_41.2.2.2.2.2.1
theorem dX8_soonest_52 : decode cX8_soonest 52 = .ok (.iload 5, 2) := sdX8_soonest_41.2.2.2.2.2.2.1
theorem dX8_soonest_54 : decode cX8_soonest 54 = .ok (.iadd, 1) := sdX8_soonest_41.2.2.2.2.2.2.2.1
theorem sdX8_soonest_55 : dz_Seg cX8_soonest [(55, .invokevirtual 474, 3), (58, .iconst 0, 1), (59, .istore 6, 2), (61, .aload_n 0, 1), (62, .getfield 49, 3), (65, .iload 6, 2), (67, .iaload, 1), (68, .iload_n 3, 1)] := dz_sg _ 55 (by decide +kernel)
theorem dX8_soonest_55 : decode cX8_soonest 55 = .ok (.invokevirtual 474, 3) := sdX8_soonest_55.1
theorem dX8_soonest_58 : decode cX8_soonest 58 = .ok (.iconst 0, 1) := sdX8_soonest_55.2.1
theorem dX8_soonest_59 : decode cX8_soonest 59 = .ok (.istore 6, 2) := sdX8_soonest_55.2.2.1
theorem dX8_soonest_61 : decode cX8_soonest 61 = .ok (.aload_n 0, 1) := sdX8_soonest_55.2.2.2.1
theorem dX8_soonest_62 : decode cX8_soonest 62 = .ok (.getfield 49, 3) := sdX8_soonest_55.2.2.2.2.1
theorem dX8_soonest_65 : decode cX8_soonest 65 = .ok (.iload 6, 2) := sdX8_soonest_55.2.2.2.2.2.1
theorem dX8_soonest_67 : decode cX8_soonest 67 = .ok (.iaload, 1) := sdX8_soonest_55.2.2.2.2.2.2.1
theorem dX8_soonest_68 : decode cX8_soonest 68 = .ok (.iload_n 3, 1) := sdX8_soonest_55.2.2.2.2.2.2.2.1
theorem sdX8_soonest_69 : dz_Seg cX8_soonest [(69, .invokestatic 240, 3), (72, .ifCond .ne 9, 3), (75, .iinc 6 1, 3), (78, .goto (-17), 3), (81, .aload_n 0, 1), (82, .iload 6, 2), (84, .invokevirtual 387, 3), (87, .ifCond .eq 10, 3)] := dz_sg _ 69 (by decide +kernel)
theorem dX8_soonest_69 : decode cX8_soonest 69 = .ok (.invokestatic 240, 3) := sdX8_soonest_69.1
theorem dX8_soonest_72 : decode cX8_soonest 72 = .ok (.ifCond .ne 9, 3) := sdX8_soonest_69.2.1
theorem dX8_soonest_75 : decode cX8_soonest 75 = .ok (.iinc 6 1, 3) := sdX8_soonest_69.2.2.1
theorem dX8_soonest_78 : decode cX8_soonest 78 = .ok (.goto (-17), 3) := sdX8_soonest_69.2.2.2.1
theorem dX8_soonest_81 : decode cX8_soonest 81 = .ok (.aload_n 0, 1) := sdX8_soonest_69.2.2.2.2.1
theorem dX8_soonest_82 : decode cX8_soonest 82 = .ok (.iload 6, 2) := sdX8_soonest_69.2.2.2.2.2.1
theorem dX8_soonest_84 : decode cX8_soonest 84 = .ok (.invokevirtual 387, 3) := sdX8_soonest_69.2.2.2.2.2.2.1
theorem dX8_soonest_87 : decode cX8_soonest 87 = .ok (.ifCond .eq 10, 3) := sdX8_soonest_69.2.2.2.2.2.2.2.1
theorem sdX8_soonest_90 : dz_Seg cX8_soonest [(90, .iload 5, 2), (92, .iconst 1, 1), (93, .iadd, 1), (94, .goto 4, 3), (97, .iconst (-1), 1), (98, .istore 4, 2), (100, .iinc 5 1, 3), (103, .goto (-65), 3)] := dz_sg _ 90 (by decide +kernel)
theorem dX8_soonest_90 : decode cX8_soonest 90 = .ok (.iload 5, 2) := sdX8_soonest_90.1
theorem dX8_soonest_92 : decode cX8_soonest 92 = .ok (.iconst 1, 1) := sdX8_soonest_90.2.1
theorem dX8_soonest_93 : decode cX8_soonest 93 = .ok (.iadd, 1) := sdX8_soonest_90.2.2.1
theorem dX8_soonest_94 : decode cX8_soonest 94 = .ok (.goto 4, 3) := sdX8_soonest_90.2.2.2.1
theorem dX8_soonest_97 : decode cX8_soonest 97 = .ok (.iconst (-1), 1) := sdX8_soonest_90.2.2.2.2.1
theorem dX8_soonest_98 : decode cX8_soonest 98 = .ok (.istore 4, 2) := sdX8_soonest_90.2.2.2.2.2.1
theorem dX8_soonest_100 : decode cX8_soonest 100 = .ok (.iinc 5 1, 3) := sdX8_soonest_90.2.2.2.2.2.2.1
theorem dX8_soonest_103 : decode cX8_soonest 103 = .ok (.goto (-65), 3) := sdX8_soonest_90.2.2.2.2.2.2.2.1
theorem sdX8_soonest_106 : dz_Seg cX8_soonest [(106, .aload_n 0, 1), (107, .invokevirtual 449, 3), (110, .iload 4, 2), (112, .iconst (-1), 1), (113, .if_icmp .ne 11, 3), (116, .aload_n 0, 1), (117, .iconst 5, 1), (118, .invokevirtual 263, 3)] := dz_sg _ 106 (by decide +kernel)
theorem dX8_soonest_106 : decode cX8_soonest 106 = .ok (.aload_n 0, 1) := sdX8_soonest_106.1
theorem dX8_soonest_107 : decode cX8_soonest 107 = .ok (.invokevirtual 449, 3) := sdX8_soonest_106.2.1
theorem dX8_soonest_110 : decode cX8_soonest 110 = .ok (.iload 4, 2) := sdX8_soonest_106.2.2.1
theorem dX8_soonest_112 : decode cX8_soonest 112 = .ok (.iconst (-1), 1) := sdX8_soonest_106.2.2.2.1
theorem dX8_soonest_113 : decode cX8_soonest 113 = .ok (.if_icmp .ne 11, 3) := sdX8_soonest_106.2.2.2.2.1
theorem dX8_soonest_116 : decode cX8_soonest 116 = .ok (.aload_n 0, 1) := sdX8_soonest_106.2.2.2.2.2.1
theorem dX8_soonest_117 : decode cX8_soonest 117 = .ok (.iconst 5, 1) := sdX8_soonest_106.2.2.2.2.2.2.1
theorem dX8_soonest_118 : decode cX8_soonest 118 = .ok (.invokevirtual 263, 3) := sdX8_soonest_106.2.2.2.2.2.2.2.1
theorem sdX8_soonest_121 : dz_Seg cX8_soonest [(121, .goto 9, 3), (124, .aload_n 0, 1), (125, .iload 4, 2), (127, .invokevirtual 272, 3), (130, .ireturn, 1)] := dz_sg _ 121 (by decide +kernel)
theorem dX8_soonest_121 : decode cX8_soonest 121 = .ok (.goto 9, 3) := sdX8_soonest_121.1
theorem dX8_soonest_124 : decode cX8_soonest 124 = .ok (.aload_n 0, 1) := sdX8_soonest_121.2.1
theorem dX8_soonest_125 : decode cX8_soonest 125 = .ok (.iload 4, 2) := sdX8_soonest_121.2.2.1
theorem dX8_soonest_127 : decode cX8_soonest 127 = .ok (.invokevirtual 272, 3) := sdX8_soonest_121.2.2.2.1
theorem dX8_soonest_130 : decode cX8_soonest 130 = .ok (.ireturn, 1) := sdX8_soonest_121.2.2.2.2.1
theorem sdX8_keeps_0 : dz_Seg cX8_keeps [(0, .aload_n 0, 1), (1, .getfield 269, 3), (4, .bipush 8, 2), (6, .if_icmp .ne 44, 3), (9, .bipush 82, 2), (11, .istore_n 1, 1), (12, .iload_n 1, 1), (13, .sipush 656, 3)] := dz_sg _ 0 (by decide +kernel)
theorem dX8_keeps_0 : decode cX8_keeps 0 = .ok (.aload_n 0, 1) := sdX8_keeps_0.1
theorem dX8_keeps_1 : decode cX8_keeps 1 = .ok (.getfield 269, 3) := sdX8_keeps_0.2.1
theorem dX8_keeps_4 : decode cX8_keeps 4 = .ok (.bipush 8, 2) := sdX8_keeps_0.2.2.1
theorem dX8_keeps_6 : decode cX8_keeps 6 = .ok (.if_icmp .ne 44, 3) := sdX8_keeps_0.2.2.2.1
theorem dX8_keeps_9 : decode cX8_keeps 9 = .ok (.bipush 82, 2) := sdX8_keeps_0.2.2.2.2.1
theorem dX8_keeps_11 : decode cX8_keeps 11 = .ok (.istore_n 1, 1) := sdX8_keeps_0.2.2.2.2.2.1
theorem dX8_keeps_12 : decode cX8_keeps 12 = .ok (.iload_n 1, 1) := sdX8_keeps_0.2.2.2.2.2.2.1
theorem dX8_keeps_13 : decode cX8_keeps 13 = .ok (.sipush 656, 3) := sdX8_keeps_0.2.2.2.2.2.2.2.1
theorem sdX8_keeps_16 : dz_Seg cX8_keeps [(16, .if_icmp .ge 24, 3), (19, .aload_n 0, 1), (20, .getfield 19, 3), (23, .iload_n 1, 1), (24, .bipush 82, 2), (26, .isub, 1), (27, .aload_n 0, 1), (28, .getfield 19, 3)] := dz_sg _ 16 (by decide +kernel)
theorem dX8_keeps_16 : decode cX8_keeps 16 = .ok (.if_icmp .ge 24, 3) := sdX8_keeps_16.1
theorem dX8_keeps_19 : decode cX8_keeps 19 = .ok (.aload_n 0, 1) := sdX8_keeps_16.2.1
theorem dX8_keeps_20 : decode cX8_keeps 20 = .ok (.getfield 19, 3) := sdX8_keeps_16.2.2.1
theorem dX8_keeps_23 : decode cX8_keeps 23 = .ok (.iload_n 1, 1) := sdX8_keeps_16.2.2.2.1
theorem dX8_keeps_24 : decode cX8_keeps 24 = .ok (.bipush 82, 2) := sdX8_keeps_16.2.2.2.2.1
theorem dX8_keeps_26 : decode cX8_keeps 26 = .ok (.isub, 1) := sdX8_keeps_16.2.2.2.2.2.1
theorem dX8_keeps_27 : decode cX8_keeps 27 = .ok (.aload_n 0, 1) := sdX8_keeps_16.2.2.2.2.2.2.1
theorem dX8_keeps_28 : decode cX8_keeps 28 = .ok (.getfield 19, 3) := sdX8_keeps_16.2.2.2.2.2.2.2.1
theorem sdX8_keeps_31 : dz_Seg cX8_keeps [(31, .iload_n 1, 1), (32, .iaload, 1), (33, .iastore, 1), (34, .iinc 1 1, 3), (37, .goto (-25), 3), (40, .aload_n 0, 1), (41, .dup, 1), (42, .getfield 269, 3)] := dz_sg _ 31 (by decide +kernel)
theorem dX8_keeps_31 : decode cX8_keeps 31 = .ok (.iload_n 1, 1) := sdX8_keeps_31.1
theorem dX8_keeps_32 : decode cX8_keeps 32 = .ok (.iaload, 1) := sdX8_keeps_31.2.1
theorem dX8_keeps_33 : decode cX8_keeps 33 = .ok (.iastore, 1) := sdX8_keeps_31.2.2.1
theorem dX8_keeps_34 : decode cX8_keeps 34 = .ok (.iinc 1 1, 3) := sdX8_keeps_31.2.2.2.1
theorem dX8_keeps_37 : decode cX8_keeps 37 = .ok (.goto (-25), 3) := sdX8_keeps_31.2.2.2.2.1
theorem dX8_keeps_40 : decode cX8_keeps 40 = .ok (.aload_n 0, 1) := sdX8_keeps_31.2.2.2.2.2.1
theorem dX8_keeps_41 : decode cX8_keeps 41 = .ok (.dup, 1) := sdX8_keeps_31.2.2.2.2.2.2.1
theorem dX8_keeps_42 : decode cX8_keeps 42 = .ok (.getfield 269, 3) := sdX8_keeps_31.2.2.2.2.2.2.2.1
theorem sdX8_keeps_45 : dz_Seg cX8_keeps [(45, .iconst 1, 1), (46, .isub, 1), (47, .putfield 269, 3), (50, .iconst 0, 1), (51, .istore_n 1, 1), (52, .iload_n 1, 1), (53, .bipush 82, 2), (55, .if_icmp .ge 29, 3)] := dz_sg _ 45 (by decide +kernel)
theorem dX8_keeps_45 : decode cX8_keeps 45 = .ok (.iconst 1, 1) := sdX8_keeps_45.1
theorem dX8_keeps_46 : decode cX8_keeps 46 = .ok (.isub, 1) := sdX8_keeps_45.2.1
theorem dX8_keeps_47 : decode cX8_keeps 47 = .ok (.putfield 269, 3) := sdX8_keeps_45.2.2.1
theorem dX8_keeps_50 : decode cX8_keeps 50 = .ok (.iconst 0, 1) := sdX8_keeps_45.2.2.2.1
theorem dX8_keeps_51 : decode cX8_keeps 51 = .ok (.istore_n 1, 1) := sdX8_keeps_45.2.2.2.2.1
theorem dX8_keeps_52 : decode cX8_keeps 52 = .ok (.iload_n 1, 1) := sdX8_keeps_45.2.2.2.2.2.1
theorem dX8_keeps_53 : decode cX8_keeps 53 = .ok (.bipush 82, 2) := sdX8_keeps_45.2.2.2.2.2.2.1
theorem dX8_keeps_55 : decode cX8_keeps 55 = .ok (.if_icmp .ge 29, 3) := sdX8_keeps_45.2.2.2.2.2.2.2.1
theorem sdX8_keeps_58 : dz_Seg cX8_keeps [(58, .aload_n 0, 1), (59, .getfield 19, 3), (62, .bipush 82, 2), (64, .aload_n 0, 1), (65, .getfield 269, 3), (68, .imul, 1), (69, .iload_n 1, 1), (70, .iadd, 1)] := dz_sg _ 58 (by decide +kernel)
theorem dX8_keeps_58 : decode cX8_keeps 58 = .ok (.aload_n 0, 1) := sdX8_keeps_58.1
theorem dX8_keeps_59 : decode cX8_keeps 59 = .ok (.getfield 19, 3) := sdX8_keeps_58.2.1
theorem dX8_keeps_62 : decode cX8_keeps 62 = .ok (.bipush 82, 2) := sdX8_keeps_58.2.2.1
theorem dX8_keeps_64 : decode cX8_keeps 64 = .ok (.aload_n 0, 1) := sdX8_keeps_58.2.2.2.1
theorem dX8_keeps_65 : decode cX8_keeps 65 = .ok (.getfield 269, 3) := sdX8_keeps_58.2.2.2.2.1
theorem dX8_keeps_68 : decode cX8_keeps 68 = .ok (.imul, 1) := sdX8_keeps_58.2.2.2.2.2.1
theorem dX8_keeps_69 : decode cX8_keeps 69 = .ok (.iload_n 1, 1) := sdX8_keeps_58.2.2.2.2.2.2.1
theorem dX8_keeps_70 : decode cX8_keeps 70 = .ok (.iadd, 1) := sdX8_keeps_58.2.2.2.2.2.2.2.1
theorem sdX8_keeps_71 : dz_Seg cX8_keeps [(71, .aload_n 0, 1), (72, .getfield 7, 3), (75, .iload_n 1, 1), (76, .iaload, 1), (77, .iastore, 1), (78, .iinc 1 1, 3), (81, .goto (-29), 3), (84, .aload_n 0, 1)] := dz_sg _ 71 (by decide +kernel)
theorem dX8_keeps_71 : decode cX8_keeps 71 = .ok (.aload_n 0, 1) := sdX8_keeps_71.1
theorem dX8_keeps_72 : decode cX8_keeps 72 = .ok (.getfield 7, 3) := sdX8_keeps_71.2.1
theorem dX8_keeps_75 : decode cX8_keeps 75 = .ok (.iload_n 1, 1) := sdX8_keeps_71.2.2.1
theorem dX8_keeps_76 : decode cX8_keeps 76 = .ok (.iaload, 1) := sdX8_keeps_71.2.2.2.1
theorem dX8_keeps_77 : decode cX8_keeps 77 = .ok (.iastore, 1) := sdX8_keeps_71.2.2.2.2.1
theorem dX8_keeps_78 : decode cX8_keeps 78 = .ok (.iinc 1 1, 3) := sdX8_keeps_71.2.2.2.2.2.1
theorem dX8_keeps_81 : decode cX8_keeps 81 = .ok (.goto (-29), 3) := sdX8_keeps_71.2.2.2.2.2.2.1
theorem dX8_keeps_84 : decode cX8_keeps 84 = .ok (.aload_n 0, 1) := sdX8_keeps_71.2.2.2.2.2.2.2.1
theorem sdX8_keeps_85 : dz_Seg cX8_keeps [(85, .dup, 1), (86, .getfield 269, 3), (89, .iconst 1, 1), (90, .iadd, 1), (91, .putfield 269, 3), (94, .return_, 1)] := dz_sg _ 85 (by decide +kernel)
theorem dX8_keeps_85 : decode cX8_keeps 85 = .ok (.dup, 1) := sdX8_keeps_85.1
theorem dX8_keeps_86 : decode cX8_keeps 86 = .ok (.getfield 269, 3) := sdX8_keeps_85.2.1
theorem dX8_keeps_89 : decode cX8_keeps 89 = .ok (.iconst 1, 1) := sdX8_keeps_85.2.2.1
theorem dX8_keeps_90 : decode cX8_keeps 90 = .ok (.iadd, 1) := sdX8_keeps_85.2.2.2.1
theorem dX8_keeps_91 : decode cX8_keeps 91 = .ok (.putfield 269, 3) := sdX8_keeps_85.2.2.2.2.1
theorem dX8_keeps_94 : decode cX8_keeps 94 = .ok (.return_, 1) := sdX8_keeps_85.2.2.2.2.2.1
theorem sdX8_undo_0 : dz_Seg cX8_undo [(0, .aload_n 0, 1), (1, .getfield 269, 3), (4, .ifCond .ne 9, 3), (7, .aload_n 0, 1), (8, .iconst 5, 1), (9, .invokevirtual 263, 3), (12, .ireturn, 1), (13, .aload_n 0, 1)] := dz_sg _ 0 (by decide +kernel)
theorem dX8_undo_0 : decode cX8_undo 0 = .ok (.aload_n 0, 1) := sdX8_undo_0.1
theorem dX8_undo_1 : decode cX8_undo 1 = .ok (.getfield 269, 3) := sdX8_undo_0.2.1
theorem dX8_undo_4 : decode cX8_undo 4 = .ok (.ifCond .ne 9, 3) := sdX8_undo_0.2.2.1
theorem dX8_undo_7 : decode cX8_undo 7 = .ok (.aload_n 0, 1) := sdX8_undo_0.2.2.2.1
theorem dX8_undo_8 : decode cX8_undo 8 = .ok (.iconst 5, 1) := sdX8_undo_0.2.2.2.2.1
theorem dX8_undo_9 : decode cX8_undo 9 = .ok (.invokevirtual 263, 3) := sdX8_undo_0.2.2.2.2.2.1
theorem dX8_undo_12 : decode cX8_undo 12 = .ok (.ireturn, 1) := sdX8_undo_0.2.2.2.2.2.2.1
theorem dX8_undo_13 : decode cX8_undo 13 = .ok (.aload_n 0, 1) := sdX8_undo_0.2.2.2.2.2.2.2.1
theorem sdX8_undo_14 : dz_Seg cX8_undo [(14, .dup, 1), (15, .getfield 269, 3), (18, .iconst 1, 1), (19, .isub, 1), (20, .putfield 269, 3), (23, .iconst 0, 1), (24, .istore_n 1, 1), (25, .iload_n 1, 1)] := dz_sg _ 14 (by decide +kernel)
theorem dX8_undo_14 : decode cX8_undo 14 = .ok (.dup, 1) := sdX8_undo_14.1
theorem dX8_undo_15 : decode cX8_undo 15 = .ok (.getfield 269, 3) := sdX8_undo_14.2.1
theorem dX8_undo_18 : decode cX8_undo 18 = .ok (.iconst 1, 1) := sdX8_undo_14.2.2.1
theorem dX8_undo_19 : decode cX8_undo 19 = .ok (.isub, 1) := sdX8_undo_14.2.2.2.1
theorem dX8_undo_20 : decode cX8_undo 20 = .ok (.putfield 269, 3) := sdX8_undo_14.2.2.2.2.1
theorem dX8_undo_23 : decode cX8_undo 23 = .ok (.iconst 0, 1) := sdX8_undo_14.2.2.2.2.2.1
theorem dX8_undo_24 : decode cX8_undo 24 = .ok (.istore_n 1, 1) := sdX8_undo_14.2.2.2.2.2.2.1
theorem dX8_undo_25 : decode cX8_undo 25 = .ok (.iload_n 1, 1) := sdX8_undo_14.2.2.2.2.2.2.2.1
theorem sdX8_undo_26 : dz_Seg cX8_undo [(26, .bipush 82, 2), (28, .if_icmp .ge 29, 3), (31, .aload_n 0, 1), (32, .getfield 7, 3), (35, .iload_n 1, 1), (36, .aload_n 0, 1), (37, .getfield 19, 3), (40, .bipush 82, 2)] := dz_sg _ 26 (by decide +kernel)
theorem dX8_undo_26 : decode cX8_undo 26 = .ok (.bipush 82, 2) := sdX8_undo_26.1
theorem dX8_undo_28 : decode cX8_undo 28 = .ok (.if_icmp .ge 29, 3) := sdX8_undo_26.2.1
theorem dX8_undo_31 : decode cX8_undo 31 = .ok (.aload_n 0, 1) := sdX8_undo_26.2.2.1
theorem dX8_undo_32 : decode cX8_undo 32 = .ok (.getfield 7, 3) := sdX8_undo_26.2.2.2.1
theorem dX8_undo_35 : decode cX8_undo 35 = .ok (.iload_n 1, 1) := sdX8_undo_26.2.2.2.2.1
theorem dX8_undo_36 : decode cX8_undo 36 = .ok (.aload_n 0, 1) := sdX8_undo_26.2.2.2.2.2.1
theorem dX8_undo_37 : decode cX8_undo 37 = .ok (.getfield 19, 3) := sdX8_undo_26.2.2.2.2.2.2.1
theorem dX8_undo_40 : decode cX8_undo 40 = .ok (.bipush 82, 2) := sdX8_undo_26.2.2.2.2.2.2.2.1
theorem sdX8_undo_42 : dz_Seg cX8_undo [(42, .aload_n 0, 1), (43, .getfield 269, 3), (46, .imul, 1), (47, .iload_n 1, 1), (48, .iadd, 1), (49, .iaload, 1), (50, .iastore, 1), (51, .iinc 1 1, 3)] := dz_sg _ 42 (by decide +kernel)
theorem dX8_undo_42 : decode cX8_undo 42 = .ok (.aload_n 0, 1) := sdX8_undo_42.1
theorem dX8_undo_43 : decode cX8_undo 43 = .ok (.getfield 269, 3) := sdX8_undo_42.2.1
theorem dX8_undo_46 : decode cX8_undo 46 = .ok (.imul, 1) := sdX8_undo_42.2.2.1
theorem dX8_undo_47 : decode cX8_undo 47 = .ok (.iload_n 1, 1) := sdX8_undo_42.2.2.2.1
theorem dX8_undo_48 : decode cX8_undo 48 = .ok (.iadd, 1) := sdX8_undo_42.2.2.2.2.1
theorem dX8_undo_49 : decode cX8_undo 49 = .ok (.iaload, 1) := sdX8_undo_42.2.2.2.2.2.1
theorem dX8_undo_50 : decode cX8_undo 50 = .ok (.iastore, 1) := sdX8_undo_42.2.2.2.2.2.2.1
theorem dX8_undo_51 : decode cX8_undo 51 = .ok (.iinc 1 1, 3) := sdX8_undo_42.2.2.2.2.2.2.2.1
theorem sdX8_undo_54 : dz_Seg cX8_undo [(54, .goto (-29), 3), (57, .aload_n 0, 1), (58, .aload_n 0, 1), (59, .getfield 269, 3), (62, .invokevirtual 272, 3), (65, .ireturn, 1)] := dz_sg _ 54 (by decide +kernel)
theorem dX8_undo_54 : decode cX8_undo 54 = .ok (.goto (-29), 3) := sdX8_undo_54.1
theorem dX8_undo_57 : decode cX8_undo 57 = .ok (.aload_n 0, 1) := sdX8_undo_54.2.1
theorem dX8_undo_58 : decode cX8_undo 58 = .ok (.aload_n 0, 1) := sdX8_undo_54.2.2.1
theorem dX8_undo_59 : decode cX8_undo 59 = .ok (.getfield 269, 3) := sdX8_undo_54.2.2.2.1
theorem dX8_undo_62 : decode cX8_undo 62 = .ok (.invokevirtual 272, 3) := sdX8_undo_54.2.2.2.2.1
theorem dX8_undo_65 : decode cX8_undo 65 = .ok (.ireturn, 1) := sdX8_undo_54.2.2.2.2.2.1
theorem sdX8_draw_0 : dz_Seg cX8_draw [(0, .iload_n 1, 1), (1, .invokestatic 358, 3), (4, .ifCond .ne 9, 3), (7, .aload_n 0, 1), (8, .iconst 1, 1), (9, .invokevirtual 263, 3), (12, .ireturn, 1), (13, .aload_n 0, 1)] := dz_sg _ 0 (by decide +kernel)
theorem dX8_draw_0 : decode cX8_draw 0 = .ok (.iload_n 1, 1) := sdX8_draw_0.1
theorem dX8_draw_1 : decode cX8_draw 1 = .ok (.invokestatic 358, 3) := sdX8_draw_0.2.1
theorem dX8_draw_4 : decode cX8_draw 4 = .ok (.ifCond .ne 9, 3) := sdX8_draw_0.2.2.1
theorem dX8_draw_7 : decode cX8_draw 7 = .ok (.aload_n 0, 1) := sdX8_draw_0.2.2.2.1
theorem dX8_draw_8 : decode cX8_draw 8 = .ok (.iconst 1, 1) := sdX8_draw_0.2.2.2.2.1
theorem dX8_draw_9 : decode cX8_draw 9 = .ok (.invokevirtual 263, 3) := sdX8_draw_0.2.2.2.2.2.1
theorem dX8_draw_12 : decode cX8_draw 12 = .ok (.ireturn, 1) := sdX8_draw_0.2.2.2.2.2.2.1
theorem dX8_draw_13 : decode cX8_draw 13 = .ok (.aload_n 0, 1) := sdX8_draw_0.2.2.2.2.2.2.2.1
theorem sdX8_draw_14 : dz_Seg cX8_draw [(14, .invokevirtual 480, 3), (17, .aload_n 0, 1), (18, .iload_n 1, 1), (19, .invokevirtual 474, 3), (22, .iconst 0, 1), (23, .istore_n 2, 1), (24, .iload_n 2, 1), (25, .aload_n 0, 1)] := dz_sg _ 14 (by decide +kernel)
theorem dX8_draw_14 : decode cX8_draw 14 = .ok (.invokevirtual 480, 3) := sdX8_draw_14.1
theorem dX8_draw_17 : decode cX8_draw 17 = .ok (.aload_n 0, 1) := sdX8_draw_14.2.1
theorem dX8_draw_18 : decode cX8_draw 18 = .ok (.iload_n 1, 1) := sdX8_draw_14.2.2.1
theorem dX8_draw_19 : decode cX8_draw 19 = .ok (.invokevirtual 474, 3) := sdX8_draw_14.2.2.2.1
theorem dX8_draw_22 : decode cX8_draw 22 = .ok (.iconst 0, 1) := sdX8_draw_14.2.2.2.2.1
theorem dX8_draw_23 : decode cX8_draw 23 = .ok (.istore_n 2, 1) := sdX8_draw_14.2.2.2.2.2.1
theorem dX8_draw_24 : decode cX8_draw 24 = .ok (.iload_n 2, 1) := sdX8_draw_14.2.2.2.2.2.2.1
theorem dX8_draw_25 : decode cX8_draw 25 = .ok (.aload_n 0, 1) := sdX8_draw_14.2.2.2.2.2.2.2.1
theorem sdX8_draw_26 : dz_Seg cX8_draw [(26, .getfield 132, 3), (29, .if_icmp .ge 23, 3), (32, .aload_n 0, 1), (33, .getfield 7, 3), (36, .bipush 72, 2), (38, .iload_n 2, 1), (39, .iadd, 1), (40, .aload_n 0, 1)] := dz_sg _ 26 (by decide +kernel)
theorem dX8_draw_26 : decode cX8_draw 26 = .ok (.getfield 132, 3) := sdX8_draw_26.1
theorem dX8_draw_29 : decode cX8_draw 29 = .ok (.if_icmp .ge 23, 3) := sdX8_draw_26.2.1
theorem dX8_draw_32 : decode cX8_draw 32 = .ok (.aload_n 0, 1) := sdX8_draw_26.2.2.1
theorem dX8_draw_33 : decode cX8_draw 33 = .ok (.getfield 7, 3) := sdX8_draw_26.2.2.2.1
theorem dX8_draw_36 : decode cX8_draw 36 = .ok (.bipush 72, 2) := sdX8_draw_26.2.2.2.2.1
theorem dX8_draw_38 : decode cX8_draw 38 = .ok (.iload_n 2, 1) := sdX8_draw_26.2.2.2.2.2.1
theorem dX8_draw_39 : decode cX8_draw 39 = .ok (.iadd, 1) := sdX8_draw_26.2.2.2.2.2.2.1
theorem dX8_draw_40 : decode cX8_draw 40 = .ok (.aload_n 0, 1) := sdX8_draw_26.2.2.2.2.2.2.2.1
theorem sdX8_draw_41 : dz_Seg cX8_draw [(41, .iload_n 2, 1), (42, .invokevirtual 477, 3), (45, .iastore, 1), (46, .iinc 2 1, 3), (49, .goto (-25), 3), (52, .aload_n 0, 1), (53, .getfield 7, 3), (56, .bipush 71, 2)] := dz_sg _ 41 (by decide +kernel)
theorem dX8_draw_41 : decode cX8_draw 41 = .ok (.iload_n 2, 1) := sdX8_draw_41.1
theorem dX8_draw_42 : decode cX8_draw 42 = .ok (.invokevirtual 477, 3) := sdX8_draw_41.2.1
theorem dX8_draw_45 : decode cX8_draw 45 = .ok (.iastore, 1) := sdX8_draw_41.2.2.1
theorem dX8_draw_46 : decode cX8_draw 46 = .ok (.iinc 2 1, 3) := sdX8_draw_41.2.2.2.1
theorem dX8_draw_49 : decode cX8_draw 49 = .ok (.goto (-25), 3) := sdX8_draw_41.2.2.2.2.1
theorem dX8_draw_52 : decode cX8_draw 52 = .ok (.aload_n 0, 1) := sdX8_draw_41.2.2.2.2.2.1
theorem dX8_draw_53 : decode cX8_draw 53 = .ok (.getfield 7, 3) := sdX8_draw_41.2.2.2.2.2.2.1
theorem dX8_draw_56 : decode cX8_draw 56 = .ok (.bipush 71, 2) := sdX8_draw_41.2.2.2.2.2.2.2.1
theorem sdX8_draw_58 : dz_Seg cX8_draw [(58, .dup2, 1), (59, .iaload, 1), (60, .iconst 1, 1), (61, .iadd, 1), (62, .iastore, 1), (63, .aload_n 0, 1), (64, .aload_n 0, 1), (65, .invokevirtual 421, 3)] := dz_sg _ 58 (by decide +kernel)
theorem dX8_draw_58 : decode cX8_draw 58 = .ok (.dup2, 1) := sdX8_draw_58.1
theorem dX8_draw_59 : decode cX8_draw 59 = .ok (.iaload, 1) := sdX8_draw_58.2.1
theorem dX8_draw_60 : decode cX8_draw 60 = .ok (.iconst 1, 1) := sdX8_draw_58.2.2.1
theorem dX8_draw_61 : decode cX8_draw 61 = .ok (.iadd, 1) := sdX8_draw_58.2.2.2.1
theorem dX8_draw_62 : decode cX8_draw 62 = .ok (.iastore, 1) := sdX8_draw_58.2.2.2.2.1
theorem dX8_draw_63 : decode cX8_draw 63 = .ok (.aload_n 0, 1) := sdX8_draw_58.2.2.2.2.2.1
theorem dX8_draw_64 : decode cX8_draw 64 = .ok (.aload_n 0, 1) := sdX8_draw_58.2.2.2.2.2.2.1
theorem dX8_draw_65 : decode cX8_draw 65 = .ok (.invokevirtual 421, 3) := sdX8_draw_58.2.2.2.2.2.2.2.1
theorem sdX8_draw_68 : dz_Seg cX8_draw [(68, .invokevirtual 272, 3), (71, .ireturn, 1)] := dz_sg _ 68 (by decide +kernel)
theorem dX8_draw_68 : decode cX8_draw 68 = .ok (.invokevirtual 272, 3) := sdX8_draw_68.1
theorem dX8_draw_71 : decode cX8_draw 71 = .ok (.ireturn, 1) := sdX8_draw_68.2.1
theorem sdX8_becomes_0 : dz_Seg cX8_becomes [(0, .aload_n 0, 1), (1, .getfield 7, 3), (4, .iload_n 1, 1), (5, .iaload, 1), (6, .iload_n 2, 1), (7, .if_icmp .ne 9, 3), (10, .aload_n 0, 1), (11, .iconst 4, 1)] := dz_sg _ 0 (by decide +kernel)
theorem dX8_becomes_0 : decode cX8_becomes 0 = .ok (.aload_n 0, 1) := sdX8_becomes_0.1
theorem dX8_becomes_1 : decode cX8_becomes 1 = .ok (.getfield 7, 3) := sdX8_becomes_0.2.1
theorem dX8_becomes_4 : decode cX8_becomes 4 = .ok (.iload_n 1, 1) := sdX8_becomes_0.2.2.1
theorem dX8_becomes_5 : decode cX8_becomes 5 = .ok (.iaload, 1) := sdX8_becomes_0.2.2.2.1
theorem dX8_becomes_6 : decode cX8_becomes 6 = .ok (.iload_n 2, 1) := sdX8_becomes_0.2.2.2.2.1
theorem dX8_becomes_7 : decode cX8_becomes 7 = .ok (.if_icmp .ne 9, 3) := sdX8_becomes_0.2.2.2.2.2.1
theorem dX8_becomes_10 : decode cX8_becomes 10 = .ok (.aload_n 0, 1) := sdX8_becomes_0.2.2.2.2.2.2.1
theorem dX8_becomes_11 : decode cX8_becomes 11 = .ok (.iconst 4, 1) := sdX8_becomes_0.2.2.2.2.2.2.2.1
theorem sdX8_becomes_12 : dz_Seg cX8_becomes [(12, .invokevirtual 263, 3), (15, .ireturn, 1), (16, .aload_n 0, 1), (17, .invokevirtual 480, 3), (20, .aload_n 0, 1), (21, .getfield 7, 3), (24, .iload_n 1, 1), (25, .iaload, 1)] := dz_sg _ 12 (by decide +kernel)
theorem dX8_becomes_12 : decode cX8_becomes 12 = .ok (.invokevirtual 263, 3) := sdX8_becomes_12.1
theorem dX8_becomes_15 : decode cX8_becomes 15 = .ok (.ireturn, 1) := sdX8_becomes_12.2.1
theorem dX8_becomes_16 : decode cX8_becomes 16 = .ok (.aload_n 0, 1) := sdX8_becomes_12.2.2.1
theorem dX8_becomes_17 : decode cX8_becomes 17 = .ok (.invokevirtual 480, 3) := sdX8_becomes_12.2.2.2.1
theorem dX8_becomes_20 : decode cX8_becomes 20 = .ok (.aload_n 0, 1) := sdX8_becomes_12.2.2.2.2.1
theorem dX8_becomes_21 : decode cX8_becomes 21 = .ok (.getfield 7, 3) := sdX8_becomes_12.2.2.2.2.2.1
theorem dX8_becomes_24 : decode cX8_becomes 24 = .ok (.iload_n 1, 1) := sdX8_becomes_12.2.2.2.2.2.2.1
theorem dX8_becomes_25 : decode cX8_becomes 25 = .ok (.iaload, 1) := sdX8_becomes_12.2.2.2.2.2.2.2.1
theorem sdX8_becomes_26 : dz_Seg cX8_becomes [(26, .istore_n 3, 1), (27, .aload_n 0, 1), (28, .getfield 7, 3), (31, .iload_n 1, 1), (32, .iload_n 2, 1), (33, .iastore, 1), (34, .aload_n 0, 1), (35, .iload_n 3, 1)] := dz_sg _ 26 (by decide +kernel)
theorem dX8_becomes_26 : decode cX8_becomes 26 = .ok (.istore_n 3, 1) := sdX8_becomes_26.1
theorem dX8_becomes_27 : decode cX8_becomes 27 = .ok (.aload_n 0, 1) := sdX8_becomes_26.2.1
theorem dX8_becomes_28 : decode cX8_becomes 28 = .ok (.getfield 7, 3) := sdX8_becomes_26.2.2.1
theorem dX8_becomes_31 : decode cX8_becomes 31 = .ok (.iload_n 1, 1) := sdX8_becomes_26.2.2.2.1
theorem dX8_becomes_32 : decode cX8_becomes 32 = .ok (.iload_n 2, 1) := sdX8_becomes_26.2.2.2.2.1
theorem dX8_becomes_33 : decode cX8_becomes 33 = .ok (.iastore, 1) := sdX8_becomes_26.2.2.2.2.2.1
theorem dX8_becomes_34 : decode cX8_becomes 34 = .ok (.aload_n 0, 1) := sdX8_becomes_26.2.2.2.2.2.2.1
theorem dX8_becomes_35 : decode cX8_becomes 35 = .ok (.iload_n 3, 1) := sdX8_becomes_26.2.2.2.2.2.2.2.1
theorem sdX8_becomes_36 : dz_Seg cX8_becomes [(36, .invokevirtual 272, 3), (39, .ireturn, 1)] := dz_sg _ 36 (by decide +kernel)
theorem dX8_becomes_36 : decode cX8_becomes 36 = .ok (.invokevirtual 272, 3) := sdX8_becomes_36.1
theorem dX8_becomes_39 : decode cX8_becomes 39 = .ok (.ireturn, 1) := sdX8_becomes_36.2.1
theorem sdX8_points_0 : dz_Seg cX8_points [(0, .iload_n 2, 1), (1, .i2l, 1), (2, .lconst 0, 1), (3, .ldc2_w 377, 3), (6, .invokestatic 128, 3), (9, .ifCond .ne 9, 3), (12, .aload_n 0, 1), (13, .iconst 1, 1)] := dz_sg _ 0 (by decide +kernel)
theorem dX8_points_0 : decode cX8_points 0 = .ok (.iload_n 2, 1) := sdX8_points_0.1
theorem dX8_points_1 : decode cX8_points 1 = .ok (.i2l, 1) := sdX8_points_0.2.1
theorem dX8_points_2 : decode cX8_points 2 = .ok (.lconst 0, 1) := sdX8_points_0.2.2.1
theorem dX8_points_3 : decode cX8_points 3 = .ok (.ldc2_w 377, 3) := sdX8_points_0.2.2.2.1
theorem dX8_points_6 : decode cX8_points 6 = .ok (.invokestatic 128, 3) := sdX8_points_0.2.2.2.2.1
theorem dX8_points_9 : decode cX8_points 9 = .ok (.ifCond .ne 9, 3) := sdX8_points_0.2.2.2.2.2.1
theorem dX8_points_12 : decode cX8_points 12 = .ok (.aload_n 0, 1) := sdX8_points_0.2.2.2.2.2.2.1
theorem dX8_points_13 : decode cX8_points 13 = .ok (.iconst 1, 1) := sdX8_points_0.2.2.2.2.2.2.2.1
theorem sdX8_points_14 : dz_Seg cX8_points [(14, .invokevirtual 263, 3), (17, .ireturn, 1), (18, .aload_n 0, 1), (19, .iload_n 1, 1), (20, .invokevirtual 293, 3), (23, .ifCond .eq 14, 3), (26, .aload_n 0, 1), (27, .iconst 0, 1)] := dz_sg _ 14 (by decide +kernel)
theorem dX8_points_14 : decode cX8_points 14 = .ok (.invokevirtual 263, 3) := sdX8_points_14.1
theorem dX8_points_17 : decode cX8_points 17 = .ok (.ireturn, 1) := sdX8_points_14.2.1
theorem dX8_points_18 : decode cX8_points 18 = .ok (.aload_n 0, 1) := sdX8_points_14.2.2.1
theorem dX8_points_19 : decode cX8_points 19 = .ok (.iload_n 1, 1) := sdX8_points_14.2.2.2.1
theorem dX8_points_20 : decode cX8_points 20 = .ok (.invokevirtual 293, 3) := sdX8_points_14.2.2.2.2.1
theorem dX8_points_23 : decode cX8_points 23 = .ok (.ifCond .eq 14, 3) := sdX8_points_14.2.2.2.2.2.1
theorem dX8_points_26 : decode cX8_points 26 = .ok (.aload_n 0, 1) := sdX8_points_14.2.2.2.2.2.2.1
theorem dX8_points_27 : decode cX8_points 27 = .ok (.iconst 0, 1) := sdX8_points_14.2.2.2.2.2.2.2.1
theorem sdX8_points_28 : dz_Seg cX8_points [(28, .iload_n 1, 1), (29, .iadd, 1), (30, .iload_n 2, 1), (31, .invokevirtual 483, 3), (34, .goto 8, 3), (37, .aload_n 0, 1), (38, .iconst 2, 1), (39, .invokevirtual 263, 3)] := dz_sg _ 28 (by decide +kernel)
theorem dX8_points_28 : decode cX8_points 28 = .ok (.iload_n 1, 1) := sdX8_points_28.1
theorem dX8_points_29 : decode cX8_points 29 = .ok (.iadd, 1) := sdX8_points_28.2.1
theorem dX8_points_30 : decode cX8_points 30 = .ok (.iload_n 2, 1) := sdX8_points_28.2.2.1
theorem dX8_points_31 : decode cX8_points 31 = .ok (.invokevirtual 483, 3) := sdX8_points_28.2.2.2.1
theorem dX8_points_34 : decode cX8_points 34 = .ok (.goto 8, 3) := sdX8_points_28.2.2.2.2.1
theorem dX8_points_37 : decode cX8_points 37 = .ok (.aload_n 0, 1) := sdX8_points_28.2.2.2.2.2.1
theorem dX8_points_38 : decode cX8_points 38 = .ok (.iconst 2, 1) := sdX8_points_28.2.2.2.2.2.2.1
theorem dX8_points_39 : decode cX8_points 39 = .ok (.invokevirtual 263, 3) := sdX8_points_28.2.2.2.2.2.2.2.1
theorem sdX8_points_42 : dz_Seg cX8_points [(42, .ireturn, 1)] := dz_sg _ 42 (by decide +kernel)
theorem dX8_points_42 : decode cX8_points 42 = .ok (.ireturn, 1) := sdX8_points_42.1
theorem sdX8_quota_0 : dz_Seg cX8_quota [(0, .iload_n 2, 1), (1, .i2l, 1), (2, .lconst 0, 1), (3, .ldc2_w 377, 3), (6, .invokestatic 128, 3), (9, .ifCond .ne 9, 3), (12, .aload_n 0, 1), (13, .iconst 1, 1)] := dz_sg _ 0 (by decide +kernel)
theorem dX8_quota_0 : decode cX8_quota 0 = .ok (.iload_n 2, 1) := sdX8_quota_0.1
theorem dX8_quota_1 : decode cX8_quota 1 = .ok (.i2l, 1) := sdX8_quota_0.2.1
theorem dX8_quota_2 : decode cX8_quota 2 = .ok (.lconst 0, 1) := sdX8_quota_0.2.2.1
theorem dX8_quota_3 : decode cX8_quota 3 = .ok (.ldc2_w 377, 3) := sdX8_quota_0.2.2.2.1
theorem dX8_quota_6 : decode cX8_quota 6 = .ok (.invokestatic 128, 3) := sdX8_quota_0.2.2.2.2.1
theorem dX8_quota_9 : decode cX8_quota 9 = .ok (.ifCond .ne 9, 3) := sdX8_quota_0.2.2.2.2.2.1
theorem dX8_quota_12 : decode cX8_quota 12 = .ok (.aload_n 0, 1) := sdX8_quota_0.2.2.2.2.2.2.1
theorem dX8_quota_13 : decode cX8_quota 13 = .ok (.iconst 1, 1) := sdX8_quota_0.2.2.2.2.2.2.2.1
theorem sdX8_quota_14 : dz_Seg cX8_quota [(14, .invokevirtual 263, 3), (17, .ireturn, 1), (18, .aload_n 0, 1), (19, .iload_n 1, 1), (20, .invokevirtual 301, 3), (23, .ifCond .eq 15, 3), (26, .aload_n 0, 1), (27, .bipush 62, 2)] := dz_sg _ 14 (by decide +kernel)
theorem dX8_quota_14 : decode cX8_quota 14 = .ok (.invokevirtual 263, 3) := sdX8_quota_14.1
theorem dX8_quota_17 : decode cX8_quota 17 = .ok (.ireturn, 1) := sdX8_quota_14.2.1
theorem dX8_quota_18 : decode cX8_quota 18 = .ok (.aload_n 0, 1) := sdX8_quota_14.2.2.1
theorem dX8_quota_19 : decode cX8_quota 19 = .ok (.iload_n 1, 1) := sdX8_quota_14.2.2.2.1
theorem dX8_quota_20 : decode cX8_quota 20 = .ok (.invokevirtual 301, 3) := sdX8_quota_14.2.2.2.2.1
theorem dX8_quota_23 : decode cX8_quota 23 = .ok (.ifCond .eq 15, 3) := sdX8_quota_14.2.2.2.2.2.1
theorem dX8_quota_26 : decode cX8_quota 26 = .ok (.aload_n 0, 1) := sdX8_quota_14.2.2.2.2.2.2.1
theorem dX8_quota_27 : decode cX8_quota 27 = .ok (.bipush 62, 2) := sdX8_quota_14.2.2.2.2.2.2.2.1
theorem sdX8_quota_29 : dz_Seg cX8_quota [(29, .iload_n 1, 1), (30, .iadd, 1), (31, .iload_n 2, 1), (32, .invokevirtual 483, 3), (35, .goto 8, 3), (38, .aload_n 0, 1), (39, .iconst 2, 1), (40, .invokevirtual 263, 3)] := dz_sg _ 29 (by decide +kernel)
theorem dX8_quota_29 : decode cX8_quota 29 = .ok (.iload_n 1, 1) := sdX8_quota_29.1
theorem dX8_quota_30 : decode cX8_quota 30 = .ok (.iadd, 1) := sdX8_quota_29.2.1
theorem dX8_quota_31 : decode cX8_quota 31 = .ok (.iload_n 2, 1) := sdX8_quota_29.2.2.1
theorem dX8_quota_32 : decode cX8_quota 32 = .ok (.invokevirtual 483, 3) := sdX8_quota_29.2.2.2.1
theorem dX8_quota_35 : decode cX8_quota 35 = .ok (.goto 8, 3) := sdX8_quota_29.2.2.2.2.1
theorem dX8_quota_38 : decode cX8_quota 38 = .ok (.aload_n 0, 1) := sdX8_quota_29.2.2.2.2.2.1
theorem dX8_quota_39 : decode cX8_quota 39 = .ok (.iconst 2, 1) := sdX8_quota_29.2.2.2.2.2.2.1
theorem dX8_quota_40 : decode cX8_quota 40 = .ok (.invokevirtual 263, 3) := sdX8_quota_29.2.2.2.2.2.2.2.1
theorem sdX8_quota_43 : dz_Seg cX8_quota [(43, .ireturn, 1)] := dz_sg _ 43 (by decide +kernel)
theorem dX8_quota_43 : decode cX8_quota 43 = .ok (.ireturn, 1) := sdX8_quota_43.1
theorem sdX8_choose_0 : dz_Seg cX8_choose [(0, .iload_n 2, 1), (1, .iconst (-1), 1), (2, .if_icmp .ne 8, 3), (5, .iload_n 3, 1), (6, .iconst (-1), 1), (7, .if_icmp .ne 14, 3), (10, .iload_n 3, 1), (11, .iconst (-1), 1)] := dz_sg _ 0 (by decide +kernel)
theorem dX8_choose_0 : decode cX8_choose 0 = .ok (.iload_n 2, 1) := sdX8_choose_0.1
theorem dX8_choose_1 : decode cX8_choose 1 = .ok (.iconst (-1), 1) := sdX8_choose_0.2.1
theorem dX8_choose_2 : decode cX8_choose 2 = .ok (.if_icmp .ne 8, 3) := sdX8_choose_0.2.2.1
theorem dX8_choose_5 : decode cX8_choose 5 = .ok (.iload_n 3, 1) := sdX8_choose_0.2.2.2.1
theorem dX8_choose_6 : decode cX8_choose 6 = .ok (.iconst (-1), 1) := sdX8_choose_0.2.2.2.2.1
theorem dX8_choose_7 : decode cX8_choose 7 = .ok (.if_icmp .ne 14, 3) := sdX8_choose_0.2.2.2.2.2.1
theorem dX8_choose_10 : decode cX8_choose 10 = .ok (.iload_n 3, 1) := sdX8_choose_0.2.2.2.2.2.2.1
theorem dX8_choose_11 : decode cX8_choose 11 = .ok (.iconst (-1), 1) := sdX8_choose_0.2.2.2.2.2.2.2.1
theorem sdX8_choose_12 : dz_Seg cX8_choose [(12, .if_icmp .ne 13, 3), (15, .iload 4, 2), (17, .iconst (-1), 1), (18, .if_icmp .eq 7, 3), (21, .iconst 1, 1), (22, .goto 4, 3), (25, .iconst 0, 1), (26, .istore 5, 2)] := dz_sg _ 12 (by decide +kernel)
theorem dX8_choose_12 : decode cX8_choose 12 = .ok (.if_icmp .ne 13, 3) := sdX8_choose_12.1
theorem dX8_choose_15 : decode cX8_choose 15 = .ok (.iload 4, 2) := sdX8_choose_12.2.1
theorem dX8_choose_17 : decode cX8_choose 17 = .ok (.iconst (-1), 1) := sdX8_choose_12.2.2.1
theorem dX8_choose_18 : decode cX8_choose 18 = .ok (.if_icmp .eq 7, 3) := sdX8_choose_12.2.2.2.1
theorem dX8_choose_21 : decode cX8_choose 21 = .ok (.iconst 1, 1) := sdX8_choose_12.2.2.2.2.1
theorem dX8_choose_22 : decode cX8_choose 22 = .ok (.goto 4, 3) := sdX8_choose_12.2.2.2.2.2.1
theorem dX8_choose_25 : decode cX8_choose 25 = .ok (.iconst 0, 1) := sdX8_choose_12.2.2.2.2.2.2.1
theorem dX8_choose_26 : decode cX8_choose 26 = .ok (.istore 5, 2) := sdX8_choose_12.2.2.2.2.2.2.2.1
theorem sdX8_choose_28 : dz_Seg cX8_choose [(28, .iload_n 2, 1), (29, .iconst (-1), 1), (30, .if_icmp .eq 14, 3), (33, .iload_n 2, 1), (34, .iload_n 3, 1), (35, .if_icmp .eq 20, 3), (38, .iload_n 2, 1), (39, .iload 4, 2)] := dz_sg _ 28 (by decide +kernel)
theorem dX8_choose_28 : decode cX8_choose 28 = .ok (.iload_n 2, 1) := sdX8_choose_28.1
theorem dX8_choose_29 : decode cX8_choose 29 = .ok (.iconst (-1), 1) := sdX8_choose_28.2.1
theorem dX8_choose_30 : decode cX8_choose 30 = .ok (.if_icmp .eq 14, 3) := sdX8_choose_28.2.2.1
theorem dX8_choose_33 : decode cX8_choose 33 = .ok (.iload_n 2, 1) := sdX8_choose_28.2.2.2.1
theorem dX8_choose_34 : decode cX8_choose 34 = .ok (.iload_n 3, 1) := sdX8_choose_28.2.2.2.2.1
theorem dX8_choose_35 : decode cX8_choose 35 = .ok (.if_icmp .eq 20, 3) := sdX8_choose_28.2.2.2.2.2.1
theorem dX8_choose_38 : decode cX8_choose 38 = .ok (.iload_n 2, 1) := sdX8_choose_28.2.2.2.2.2.2.1
theorem dX8_choose_39 : decode cX8_choose 39 = .ok (.iload 4, 2) := sdX8_choose_28.2.2.2.2.2.2.2.1
theorem sdX8_choose_41 : dz_Seg cX8_choose [(41, .if_icmp .eq 14, 3), (44, .iload_n 3, 1), (45, .iconst (-1), 1), (46, .if_icmp .eq 13, 3), (49, .iload_n 3, 1), (50, .iload 4, 2), (52, .if_icmp .ne 7, 3), (55, .iconst 1, 1)] := dz_sg _ 41 (by decide +kernel)
theorem dX8_choose_41 : decode cX8_choose 41 = .ok (.if_icmp .eq 14, 3) := sdX8_choose_41.1
theorem dX8_choose_44 : decode cX8_choose 44 = .ok (.iload_n 3, 1) := sdX8_choose_41.2.1
theorem dX8_choose_45 : decode cX8_choose 45 = .ok (.iconst (-1), 1) := sdX8_choose_41.2.2.1
theorem dX8_choose_46 : decode cX8_choose 46 = .ok (.if_icmp .eq 13, 3) := sdX8_choose_41.2.2.2.1
theorem dX8_choose_49 : decode cX8_choose 49 = .ok (.iload_n 3, 1) := sdX8_choose_41.2.2.2.2.1
theorem dX8_choose_50 : decode cX8_choose 50 = .ok (.iload 4, 2) := sdX8_choose_41.2.2.2.2.2.1
theorem dX8_choose_52 : decode cX8_choose 52 = .ok (.if_icmp .ne 7, 3) := sdX8_choose_41.2.2.2.2.2.2.1
theorem dX8_choose_55 : decode cX8_choose 55 = .ok (.iconst 1, 1) := sdX8_choose_41.2.2.2.2.2.2.2.1
theorem sdX8_choose_56 : dz_Seg cX8_choose [(56, .goto 4, 3), (59, .iconst 0, 1), (60, .istore 6, 2), (62, .iload_n 2, 1), (63, .iconst (-1), 1), (64, .if_icmp .lt 24, 3), (67, .iload_n 3, 1), (68, .iconst (-1), 1)] := dz_sg _ 56 (by decide +kernel)
theorem dX8_choose_56 : decode cX8_choose 56 = .ok (.goto 4, 3) := sdX8_choose_56.1
theorem dX8_choose_59 : decode cX8_choose 59 = .ok (.iconst 0, 1) := sdX8_choose_56.2.1
theorem dX8_choose_60 : decode cX8_choose 60 = .ok (.istore 6, 2) := sdX8_choose_56.2.2.1
theorem dX8_choose_62 : decode cX8_choose 62 = .ok (.iload_n 2, 1) := sdX8_choose_56.2.2.2.1
theorem dX8_choose_63 : decode cX8_choose 63 = .ok (.iconst (-1), 1) := sdX8_choose_56.2.2.2.2.1
theorem dX8_choose_64 : decode cX8_choose 64 = .ok (.if_icmp .lt 24, 3) := sdX8_choose_56.2.2.2.2.2.1
theorem dX8_choose_67 : decode cX8_choose 67 = .ok (.iload_n 3, 1) := sdX8_choose_56.2.2.2.2.2.2.1
theorem dX8_choose_68 : decode cX8_choose 68 = .ok (.iconst (-1), 1) := sdX8_choose_56.2.2.2.2.2.2.2.1
theorem sdX8_choose_69 : dz_Seg cX8_choose [(69, .if_icmp .lt 19, 3), (72, .iload 4, 2), (74, .iconst (-1), 1), (75, .if_icmp .lt 13, 3), (78, .iload 5, 2), (80, .ifCond .ne 8, 3), (83, .iload 6, 2), (85, .ifCond .eq 9, 3)] := dz_sg _ 69 (by decide +kernel)
theorem dX8_choose_69 : decode cX8_choose 69 = .ok (.if_icmp .lt 19, 3) := sdX8_choose_69.1
theorem dX8_choose_72 : decode cX8_choose 72 = .ok (.iload 4, 2) := sdX8_choose_69.2.1
theorem dX8_choose_74 : decode cX8_choose 74 = .ok (.iconst (-1), 1) := sdX8_choose_69.2.2.1
theorem dX8_choose_75 : decode cX8_choose 75 = .ok (.if_icmp .lt 13, 3) := sdX8_choose_69.2.2.2.1
theorem dX8_choose_78 : decode cX8_choose 78 = .ok (.iload 5, 2) := sdX8_choose_69.2.2.2.2.1
theorem dX8_choose_80 : decode cX8_choose 80 = .ok (.ifCond .ne 8, 3) := sdX8_choose_69.2.2.2.2.2.1
theorem dX8_choose_83 : decode cX8_choose 83 = .ok (.iload 6, 2) := sdX8_choose_69.2.2.2.2.2.2.1
theorem dX8_choose_85 : decode cX8_choose 85 = .ok (.ifCond .eq 9, 3) := sdX8_choose_69.2.2.2.2.2.2.2.1
theorem sdX8_choose_88 : dz_Seg cX8_choose [(88, .aload_n 0, 1), (89, .iconst 1, 1), (90, .invokevirtual 263, 3), (93, .ireturn, 1), (94, .aload_n 0, 1), (95, .iload_n 1, 1), (96, .invokevirtual 315, 3), (99, .ifCond .eq 28, 3)] := dz_sg _ 88 (by decide +kernel)
theorem dX8_choose_88 : decode cX8_choose 88 = .ok (.aload_n 0, 1) := sdX8_choose_88.1
theorem dX8_choose_89 : decode cX8_choose 89 = .ok (.iconst 1, 1) := sdX8_choose_88.2.1
theorem dX8_choose_90 : decode cX8_choose 90 = .ok (.invokevirtual 263, 3) := sdX8_choose_88.2.2.1
theorem dX8_choose_93 : decode cX8_choose 93 = .ok (.ireturn, 1) := sdX8_choose_88.2.2.2.1
theorem dX8_choose_94 : decode cX8_choose 94 = .ok (.aload_n 0, 1) := sdX8_choose_88.2.2.2.2.1
theorem dX8_choose_95 : decode cX8_choose 95 = .ok (.iload_n 1, 1) := sdX8_choose_88.2.2.2.2.2.1
theorem dX8_choose_96 : decode cX8_choose 96 = .ok (.invokevirtual 315, 3) := sdX8_choose_88.2.2.2.2.2.2.1
theorem dX8_choose_99 : decode cX8_choose 99 = .ok (.ifCond .eq 28, 3) := sdX8_choose_88.2.2.2.2.2.2.2.1
theorem sdX8_choose_102 : dz_Seg cX8_choose [(102, .iload_n 2, 1), (103, .aload_n 0, 1), (104, .getfield 125, 3), (107, .if_icmp .ge 20, 3), (110, .iload_n 3, 1), (111, .aload_n 0, 1), (112, .getfield 125, 3), (115, .if_icmp .ge 12, 3)] := dz_sg _ 102 (by decide +kernel)
theorem dX8_choose_102 : decode cX8_choose 102 = .ok (.iload_n 2, 1) := sdX8_choose_102.1
theorem dX8_choose_103 : decode cX8_choose 103 = .ok (.aload_n 0, 1) := sdX8_choose_102.2.1
theorem dX8_choose_104 : decode cX8_choose 104 = .ok (.getfield 125, 3) := sdX8_choose_102.2.2.1
theorem dX8_choose_107 : decode cX8_choose 107 = .ok (.if_icmp .ge 20, 3) := sdX8_choose_102.2.2.2.1
theorem dX8_choose_110 : decode cX8_choose 110 = .ok (.iload_n 3, 1) := sdX8_choose_102.2.2.2.2.1
theorem dX8_choose_111 : decode cX8_choose 111 = .ok (.aload_n 0, 1) := sdX8_choose_102.2.2.2.2.2.1
theorem dX8_choose_112 : decode cX8_choose 112 = .ok (.getfield 125, 3) := sdX8_choose_102.2.2.2.2.2.2.1
theorem dX8_choose_115 : decode cX8_choose 115 = .ok (.if_icmp .ge 12, 3) := sdX8_choose_102.2.2.2.2.2.2.2.1
theorem sdX8_choose_118 : dz_Seg cX8_choose [(118, .iload 4, 2), (120, .aload_n 0, 1), (121, .getfield 125, 3), (124, .if_icmp .lt 9, 3), (127, .aload_n 0, 1), (128, .iconst 2, 1), (129, .invokevirtual 263, 3), (132, .ireturn, 1)] := dz_sg _ 118 (by decide +kernel)
theorem dX8_choose_118 : decode cX8_choose 118 = .ok (.iload 4, 2) := sdX8_choose_118.1
theorem dX8_choose_120 : decode cX8_choose 120 = .ok (.aload_n 0, 1) := sdX8_choose_118.2.1
theorem dX8_choose_121 : decode cX8_choose 121 = .ok (.getfield 125, 3) := sdX8_choose_118.2.2.1
theorem dX8_choose_124 : decode cX8_choose 124 = .ok (.if_icmp .lt 9, 3) := sdX8_choose_118.2.2.2.1
theorem dX8_choose_127 : decode cX8_choose 127 = .ok (.aload_n 0, 1) := sdX8_choose_118.2.2.2.2.1
theorem dX8_choose_128 : decode cX8_choose 128 = .ok (.iconst 2, 1) := sdX8_choose_118.2.2.2.2.2.1
theorem dX8_choose_129 : decode cX8_choose 129 = .ok (.invokevirtual 263, 3) := sdX8_choose_118.2.2.2.2.2.2.1
theorem dX8_choose_132 : decode cX8_choose 132 = .ok (.ireturn, 1) := sdX8_choose_118.2.2.2.2.2.2.2.1
theorem sdX8_choose_133 : dz_Seg cX8_choose [(133, .aload_n 0, 1), (134, .getfield 55, 3), (137, .iload_n 1, 1), (138, .iaload, 1), (139, .istore 7, 2), (141, .aload_n 0, 1), (142, .getfield 7, 3), (145, .iload 7, 2)] := dz_sg _ 133 (by decide +kernel)
theorem dX8_choose_133 : decode cX8_choose 133 = .ok (.aload_n 0, 1) := sdX8_choose_133.1
theorem dX8_choose_134 : decode cX8_choose 134 = .ok (.getfield 55, 3) := sdX8_choose_133.2.1
theorem dX8_choose_137 : decode cX8_choose 137 = .ok (.iload_n 1, 1) := sdX8_choose_133.2.2.1
theorem dX8_choose_138 : decode cX8_choose 138 = .ok (.iaload, 1) := sdX8_choose_133.2.2.2.1
theorem dX8_choose_139 : decode cX8_choose 139 = .ok (.istore 7, 2) := sdX8_choose_133.2.2.2.2.1
theorem dX8_choose_141 : decode cX8_choose 141 = .ok (.aload_n 0, 1) := sdX8_choose_133.2.2.2.2.2.1
theorem dX8_choose_142 : decode cX8_choose 142 = .ok (.getfield 7, 3) := sdX8_choose_133.2.2.2.2.2.2.1
theorem dX8_choose_145 : decode cX8_choose 145 = .ok (.iload 7, 2) := sdX8_choose_133.2.2.2.2.2.2.2.1
theorem sdX8_choose_147 : dz_Seg cX8_choose [(147, .iaload, 1), (148, .iload_n 2, 1), (149, .if_icmp .ne 36, 3), (152, .aload_n 0, 1), (153, .getfield 7, 3), (156, .iload 7, 2), (158, .iconst 1, 1), (159, .iadd, 1)] := dz_sg _ 147 (by decide +kernel)
theorem dX8_choose_147 : decode cX8_choose 147 = .ok (.iaload, 1) := sdX8_choose_147.1
theorem dX8_choose_148 : decode cX8_choose 148 = .ok (.iload_n 2, 1) := sdX8_choose_147.2.1
theorem dX8_choose_149 : decode cX8_choose 149 = .ok (.if_icmp .ne 36, 3) := sdX8_choose_147.2.2.1
theorem dX8_choose_152 : decode cX8_choose 152 = .ok (.aload_n 0, 1) := sdX8_choose_147.2.2.2.1
theorem dX8_choose_153 : decode cX8_choose 153 = .ok (.getfield 7, 3) := sdX8_choose_147.2.2.2.2.1
theorem dX8_choose_156 : decode cX8_choose 156 = .ok (.iload 7, 2) := sdX8_choose_147.2.2.2.2.2.1
theorem dX8_choose_158 : decode cX8_choose 158 = .ok (.iconst 1, 1) := sdX8_choose_147.2.2.2.2.2.2.1
theorem dX8_choose_159 : decode cX8_choose 159 = .ok (.iadd, 1) := sdX8_choose_147.2.2.2.2.2.2.2.1
theorem sdX8_choose_160 : dz_Seg cX8_choose [(160, .iaload, 1), (161, .iload_n 3, 1), (162, .if_icmp .ne 23, 3), (165, .aload_n 0, 1), (166, .getfield 7, 3), (169, .iload 7, 2), (171, .iconst 2, 1), (172, .iadd, 1)] := dz_sg _ 160 (by decide +kernel)
theorem dX8_choose_160 : decode cX8_choose 160 = .ok (.iaload, 1) := sdX8_choose_160.1
theorem dX8_choose_161 : decode cX8_choose 161 = .ok (.iload_n 3, 1) := sdX8_choose_160.2.1
theorem dX8_choose_162 : decode cX8_choose 162 = .ok (.if_icmp .ne 23, 3) := sdX8_choose_160.2.2.1
theorem dX8_choose_165 : decode cX8_choose 165 = .ok (.aload_n 0, 1) := sdX8_choose_160.2.2.2.1
theorem dX8_choose_166 : decode cX8_choose 166 = .ok (.getfield 7, 3) := sdX8_choose_160.2.2.2.2.1
theorem dX8_choose_169 : decode cX8_choose 169 = .ok (.iload 7, 2) := sdX8_choose_160.2.2.2.2.2.1
theorem dX8_choose_171 : decode cX8_choose 171 = .ok (.iconst 2, 1) := sdX8_choose_160.2.2.2.2.2.2.1
theorem dX8_choose_172 : decode cX8_choose 172 = .ok (.iadd, 1) := sdX8_choose_160.2.2.2.2.2.2.2.1
theorem sdX8_choose_173 : dz_Seg cX8_choose [(173, .iaload, 1), (174, .iload 4, 2), (176, .if_icmp .ne 9, 3), (179, .aload_n 0, 1), (180, .iconst 4, 1), (181, .invokevirtual 263, 3), (184, .ireturn, 1), (185, .aload_n 0, 1)] := dz_sg _ 173 (by decide +kernel)
theorem dX8_choose_173 : decode cX8_choose 173 = .ok (.iaload, 1) := sdX8_choose_173.1
theorem dX8_choose_174 : decode cX8_choose 174 = .ok (.iload 4, 2) := sdX8_choose_173.2.1
theorem dX8_choose_176 : decode cX8_choose 176 = .ok (.if_icmp .ne 9, 3) := sdX8_choose_173.2.2.1
theorem dX8_choose_179 : decode cX8_choose 179 = .ok (.aload_n 0, 1) := sdX8_choose_173.2.2.2.1
theorem dX8_choose_180 : decode cX8_choose 180 = .ok (.iconst 4, 1) := sdX8_choose_173.2.2.2.2.1
theorem dX8_choose_181 : decode cX8_choose 181 = .ok (.invokevirtual 263, 3) := sdX8_choose_173.2.2.2.2.2.1
theorem dX8_choose_184 : decode cX8_choose 184 = .ok (.ireturn, 1) := sdX8_choose_173.2.2.2.2.2.2.1
theorem dX8_choose_185 : decode cX8_choose 185 = .ok (.aload_n 0, 1) := sdX8_choose_173.2.2.2.2.2.2.2.1
theorem sdX8_choose_186 : dz_Seg cX8_choose [(186, .iload_n 1, 1), (187, .invokevirtual 288, 3), (190, .istore 8, 2), (192, .aload_n 0, 1), (193, .invokevirtual 480, 3), (196, .aload_n 0, 1), (197, .getfield 7, 3), (200, .iload 7, 2)] := dz_sg _ 186 (by decide +kernel)
theorem dX8_choose_186 : decode cX8_choose 186 = .ok (.iload_n 1, 1) := sdX8_choose_186.1
theorem dX8_choose_187 : decode cX8_choose 187 = .ok (.invokevirtual 288, 3) := sdX8_choose_186.2.1
theorem dX8_choose_190 : decode cX8_choose 190 = .ok (.istore 8, 2) := sdX8_choose_186.2.2.1
theorem dX8_choose_192 : decode cX8_choose 192 = .ok (.aload_n 0, 1) := sdX8_choose_186.2.2.2.1
theorem dX8_choose_193 : decode cX8_choose 193 = .ok (.invokevirtual 480, 3) := sdX8_choose_186.2.2.2.2.1
theorem dX8_choose_196 : decode cX8_choose 196 = .ok (.aload_n 0, 1) := sdX8_choose_186.2.2.2.2.2.1
theorem dX8_choose_197 : decode cX8_choose 197 = .ok (.getfield 7, 3) := sdX8_choose_186.2.2.2.2.2.2.1
theorem dX8_choose_200 : decode cX8_choose 200 = .ok (.iload 7, 2) := sdX8_choose_186.2.2.2.2.2.2.2.1
theorem sdX8_choose_202 : dz_Seg cX8_choose [(202, .iload_n 2, 1), (203, .iastore, 1), (204, .aload_n 0, 1), (205, .getfield 7, 3), (208, .iload 7, 2), (210, .iconst 1, 1), (211, .iadd, 1), (212, .iload_n 3, 1)] := dz_sg _ 202 (by decide +kernel)
theorem dX8_choose_202 : decode cX8_choose 202 = .ok (.iload_n 2, 1) := sdX8_choose_202.1
theorem dX8_choose_203 : decode cX8_choose 203 = .ok (.iastore, 1) := sdX8_choose_202.2.1
theorem dX8_choose_204 : decode cX8_choose 204 = .ok (.aload_n 0, 1) := sdX8_choose_202.2.2.1
theorem dX8_choose_205 : decode cX8_choose 205 = .ok (.getfield 7, 3) := sdX8_choose_202.2.2.2.1
theorem dX8_choose_208 : decode cX8_choose 208 = .ok (.iload 7, 2) := sdX8_choose_202.2.2.2.2.1
theorem dX8_choose_210 : decode cX8_choose 210 = .ok (.iconst 1, 1) := sdX8_choose_202.2.2.2.2.2.1
theorem dX8_choose_211 : decode cX8_choose 211 = .ok (.iadd, 1) := sdX8_choose_202.2.2.2.2.2.2.1
theorem dX8_choose_212 : decode cX8_choose 212 = .ok (.iload_n 3, 1) := sdX8_choose_202.2.2.2.2.2.2.2.1
theorem sdX8_choose_213 : dz_Seg cX8_choose [(213, .iastore, 1), (214, .aload_n 0, 1), (215, .getfield 7, 3), (218, .iload 7, 2), (220, .iconst 2, 1), (221, .iadd, 1), (222, .iload 4, 2), (224, .iastore, 1)] := dz_sg _ 213 (by decide +kernel)
theorem dX8_choose_213 : decode cX8_choose 213 = .ok (.iastore, 1) := sdX8_choose_213.1
theorem dX8_choose_214 : decode cX8_choose 214 = .ok (.aload_n 0, 1) := sdX8_choose_213.2.1
theorem dX8_choose_215 : decode cX8_choose 215 = .ok (.getfield 7, 3) := sdX8_choose_213.2.2.1
theorem dX8_choose_218 : decode cX8_choose 218 = .ok (.iload 7, 2) := sdX8_choose_213.2.2.2.1
theorem dX8_choose_220 : decode cX8_choose 220 = .ok (.iconst 2, 1) := sdX8_choose_213.2.2.2.2.1
theorem dX8_choose_221 : decode cX8_choose 221 = .ok (.iadd, 1) := sdX8_choose_213.2.2.2.2.2.1
theorem dX8_choose_222 : decode cX8_choose 222 = .ok (.iload 4, 2) := sdX8_choose_213.2.2.2.2.2.2.1
theorem dX8_choose_224 : decode cX8_choose 224 = .ok (.iastore, 1) := sdX8_choose_213.2.2.2.2.2.2.2.1
theorem sdX8_choose_225 : dz_Seg cX8_choose [(225, .aload_n 0, 1), (226, .iload 8, 2), (228, .invokevirtual 272, 3), (231, .ireturn, 1)] := dz_sg _ 225 (by decide +kernel)
theorem dX8_choose_225 : decode cX8_choose 225 = .ok (.aload_n 0, 1) := sdX8_choose_225.1
theorem dX8_choose_226 : decode cX8_choose 226 = .ok (.iload 8, 2) := sdX8_choose_225.2.1
theorem dX8_choose_228 : decode cX8_choose 228 = .ok (.invokevirtual 272, 3) := sdX8_choose_225.2.2.1
theorem dX8_choose_231 : decode cX8_choose 231 = .ok (.ireturn, 1) := sdX8_choose_225.2.2.2.1
theorem sdX8_law_0 : dz_Seg cX8_law [(0, .iload_n 1, 1), (1, .i2l, 1), (2, .lconst 0, 1), (3, .ldc2_w 427, 3), (6, .invokestatic 128, 3), (9, .ifCond .eq 13, 3), (12, .aload_n 0, 1), (13, .bipush 67, 2)] := dz_sg _ 0 (by decide +kernel)
theorem dX8_law_0 : decode cX8_law 0 = .ok (.iload_n 1, 1) := sdX8_law_0.1
theorem dX8_law_1 : decode cX8_law 1 = .ok (.i2l, 1) := sdX8_law_0.2.1
theorem dX8_law_2 : decode cX8_law 2 = .ok (.lconst 0, 1) := sdX8_law_0.2.2.1
theorem dX8_law_3 : decode cX8_law 3 = .ok (.ldc2_w 427, 3) := sdX8_law_0.2.2.2.1
theorem dX8_law_6 : decode cX8_law 6 = .ok (.invokestatic 128, 3) := sdX8_law_0.2.2.2.2.1
theorem dX8_law_9 : decode cX8_law 9 = .ok (.ifCond .eq 13, 3) := sdX8_law_0.2.2.2.2.2.1
theorem dX8_law_12 : decode cX8_law 12 = .ok (.aload_n 0, 1) := sdX8_law_0.2.2.2.2.2.2.1
theorem dX8_law_13 : decode cX8_law 13 = .ok (.bipush 67, 2) := sdX8_law_0.2.2.2.2.2.2.2.1
theorem sdX8_law_15 : dz_Seg cX8_law [(15, .iload_n 1, 1), (16, .invokevirtual 483, 3), (19, .goto 8, 3), (22, .aload_n 0, 1), (23, .iconst 1, 1), (24, .invokevirtual 263, 3), (27, .ireturn, 1)] := dz_sg _ 15 (by decide +kernel)
theorem dX8_law_15 : decode cX8_law 15 = .ok (.iload_n 1, 1) := sdX8_law_15.1
theorem dX8_law_16 : decode cX8_law 16 = .ok (.invokevirtual 483, 3) := sdX8_law_15.2.1
theorem dX8_law_19 : decode cX8_law 19 = .ok (.goto 8, 3) := sdX8_law_15.2.2.1
theorem dX8_law_22 : decode cX8_law 22 = .ok (.aload_n 0, 1) := sdX8_law_15.2.2.2.1
theorem dX8_law_23 : decode cX8_law 23 = .ok (.iconst 1, 1) := sdX8_law_15.2.2.2.2.1
theorem dX8_law_24 : decode cX8_law 24 = .ok (.invokevirtual 263, 3) := sdX8_law_15.2.2.2.2.2.1
theorem dX8_law_27 : decode cX8_law 27 = .ok (.ireturn, 1) := sdX8_law_15.2.2.2.2.2.2.1
theorem sdX8_prefer_0 : dz_Seg cX8_prefer [(0, .iload_n 1, 1), (1, .i2l, 1), (2, .lconst 0, 1), (3, .ldc2_w 486, 3), (6, .invokestatic 128, 3), (9, .ifCond .eq 13, 3), (12, .aload_n 0, 1), (13, .bipush 68, 2)] := dz_sg _ 0 (by decide +kernel)
theorem dX8_prefer_0 : decode cX8_prefer 0 = .ok (.iload_n 1, 1) := sdX8_prefer_0.1
theorem dX8_prefer_1 : decode cX8_prefer 1 = .ok (.i2l, 1) := sdX8_prefer_0.2.1
theorem dX8_prefer_2 : decode cX8_prefer 2 = .ok (.lconst 0, 1) := sdX8_prefer_0.2.2.1
theorem dX8_prefer_3 : decode cX8_prefer 3 = .ok (.ldc2_w 486, 3) := sdX8_prefer_0.2.2.2.1
theorem dX8_prefer_6 : decode cX8_prefer 6 = .ok (.invokestatic 128, 3) := sdX8_prefer_0.2.2.2.2.1
theorem dX8_prefer_9 : decode cX8_prefer 9 = .ok (.ifCond .eq 13, 3) := sdX8_prefer_0.2.2.2.2.2.1
theorem dX8_prefer_12 : decode cX8_prefer 12 = .ok (.aload_n 0, 1) := sdX8_prefer_0.2.2.2.2.2.2.1
theorem dX8_prefer_13 : decode cX8_prefer 13 = .ok (.bipush 68, 2) := sdX8_prefer_0.2.2.2.2.2.2.2.1
theorem sdX8_prefer_15 : dz_Seg cX8_prefer [(15, .iload_n 1, 1), (16, .invokevirtual 483, 3), (19, .goto 8, 3), (22, .aload_n 0, 1), (23, .iconst 1, 1), (24, .invokevirtual 263, 3), (27, .ireturn, 1)] := dz_sg _ 15 (by decide +kernel)
theorem dX8_prefer_15 : decode cX8_prefer 15 = .ok (.iload_n 1, 1) := sdX8_prefer_15.1
theorem dX8_prefer_16 : decode cX8_prefer 16 = .ok (.invokevirtual 483, 3) := sdX8_prefer_15.2.1
theorem dX8_prefer_19 : decode cX8_prefer 19 = .ok (.goto 8, 3) := sdX8_prefer_15.2.2.1
theorem dX8_prefer_22 : decode cX8_prefer 22 = .ok (.aload_n 0, 1) := sdX8_prefer_15.2.2.2.1
theorem dX8_prefer_23 : decode cX8_prefer 23 = .ok (.iconst 1, 1) := sdX8_prefer_15.2.2.2.2.1
theorem dX8_prefer_24 : decode cX8_prefer 24 = .ok (.invokevirtual 263, 3) := sdX8_prefer_15.2.2.2.2.2.1
theorem dX8_prefer_27 : decode cX8_prefer 27 = .ok (.ireturn, 1) := sdX8_prefer_15.2.2.2.2.2.2.1
theorem sdX8_guests_0 : dz_Seg cX8_guests [(0, .iload_n 1, 1), (1, .i2l, 1), (2, .lconst 0, 1), (3, .ldc2_w 486, 3), (6, .invokestatic 128, 3), (9, .ifCond .eq 13, 3), (12, .aload_n 0, 1), (13, .bipush 69, 2)] := dz_sg _ 0 (by decide +kernel)
theorem dX8_guests_0 : decode cX8_guests 0 = .ok (.iload_n 1, 1) := sdX8_guests_0.1
theorem dX8_guests_1 : decode cX8_guests 1 = .ok (.i2l, 1) := sdX8_guests_0.2.1
theorem dX8_guests_2 : decode cX8_guests 2 = .ok (.lconst 0, 1) := sdX8_guests_0.2.2.1
theorem dX8_guests_3 : decode cX8_guests 3 = .ok (.ldc2_w 486, 3) := sdX8_guests_0.2.2.2.1
theorem dX8_guests_6 : decode cX8_guests 6 = .ok (.invokestatic 128, 3) := sdX8_guests_0.2.2.2.2.1
theorem dX8_guests_9 : decode cX8_guests 9 = .ok (.ifCond .eq 13, 3) := sdX8_guests_0.2.2.2.2.2.1
theorem dX8_guests_12 : decode cX8_guests 12 = .ok (.aload_n 0, 1) := sdX8_guests_0.2.2.2.2.2.2.1
theorem dX8_guests_13 : decode cX8_guests 13 = .ok (.bipush 69, 2) := sdX8_guests_0.2.2.2.2.2.2.2.1
theorem sdX8_guests_15 : dz_Seg cX8_guests [(15, .iload_n 1, 1), (16, .invokevirtual 483, 3), (19, .goto 8, 3), (22, .aload_n 0, 1), (23, .iconst 1, 1), (24, .invokevirtual 263, 3), (27, .ireturn, 1)] := dz_sg _ 15 (by decide +kernel)
theorem dX8_guests_15 : decode cX8_guests 15 = .ok (.iload_n 1, 1) := sdX8_guests_15.1
theorem dX8_guests_16 : decode cX8_guests 16 = .ok (.invokevirtual 483, 3) := sdX8_guests_15.2.1
theorem dX8_guests_19 : decode cX8_guests 19 = .ok (.goto 8, 3) := sdX8_guests_15.2.2.1
theorem dX8_guests_22 : decode cX8_guests 22 = .ok (.aload_n 0, 1) := sdX8_guests_15.2.2.2.1
theorem dX8_guests_23 : decode cX8_guests 23 = .ok (.iconst 1, 1) := sdX8_guests_15.2.2.2.2.1
theorem dX8_guests_24 : decode cX8_guests 24 = .ok (.invokevirtual 263, 3) := sdX8_guests_15.2.2.2.2.2.1
theorem dX8_guests_27 : decode cX8_guests 27 = .ok (.ireturn, 1) := sdX8_guests_15.2.2.2.2.2.2.1
theorem sdX8_split_0 : dz_Seg cX8_split [(0, .aload_n 0, 1), (1, .iload_n 1, 1), (2, .invokevirtual 463, 3), (5, .ifCond .ne 9, 3), (8, .aload_n 0, 1), (9, .iconst 2, 1), (10, .invokevirtual 263, 3), (13, .ireturn, 1)] := dz_sg _ 0 (by decide +kernel)
theorem dX8_split_0 : decode cX8_split 0 = .ok (.aload_n 0, 1) := sdX8_split_0.1
theorem dX8_split_1 : decode cX8_split 1 = .ok (.iload_n 1, 1) := sdX8_split_0.2.1
theorem dX8_split_2 : decode cX8_split 2 = .ok (.invokevirtual 463, 3) := sdX8_split_0.2.2.1
theorem dX8_split_5 : decode cX8_split 5 = .ok (.ifCond .ne 9, 3) := sdX8_split_0.2.2.2.1
theorem dX8_split_8 : decode cX8_split 8 = .ok (.aload_n 0, 1) := sdX8_split_0.2.2.2.2.1
theorem dX8_split_9 : decode cX8_split 9 = .ok (.iconst 2, 1) := sdX8_split_0.2.2.2.2.2.1
theorem dX8_split_10 : decode cX8_split 10 = .ok (.invokevirtual 263, 3) := sdX8_split_0.2.2.2.2.2.2.1
theorem dX8_split_13 : decode cX8_split 13 = .ok (.ireturn, 1) := sdX8_split_0.2.2.2.2.2.2.2.1
theorem sdX8_split_14 : dz_Seg cX8_split [(14, .aload_n 0, 1), (15, .invokevirtual 480, 3), (18, .aload_n 0, 1), (19, .iload_n 1, 1), (20, .invokevirtual 466, 3), (23, .aload_n 0, 1), (24, .invokevirtual 281, 3), (27, .aload_n 0, 1)] := dz_sg _ 14 (by decide +kernel)
theorem dX8_split_14 : decode cX8_split 14 = .ok (.aload_n 0, 1) := sdX8_split_14.1
theorem dX8_split_15 : decode cX8_split 15 = .ok (.invokevirtual 480, 3) := sdX8_split_14.2.1
theorem dX8_split_18 : decode cX8_split 18 = .ok (.aload_n 0, 1) := sdX8_split_14.2.2.1
theorem dX8_split_19 : decode cX8_split 19 = .ok (.iload_n 1, 1) := sdX8_split_14.2.2.2.1
theorem dX8_split_20 : decode cX8_split 20 = .ok (.invokevirtual 466, 3) := sdX8_split_14.2.2.2.2.1
theorem dX8_split_23 : decode cX8_split 23 = .ok (.aload_n 0, 1) := sdX8_split_14.2.2.2.2.2.1
theorem dX8_split_24 : decode cX8_split 24 = .ok (.invokevirtual 281, 3) := sdX8_split_14.2.2.2.2.2.2.1
theorem dX8_split_27 : decode cX8_split 27 = .ok (.aload_n 0, 1) := sdX8_split_14.2.2.2.2.2.2.2.1
theorem sdX8_split_28 : dz_Seg cX8_split [(28, .aload_n 0, 1), (29, .getfield 275, 3), (32, .invokevirtual 272, 3), (35, .ireturn, 1)] := dz_sg _ 28 (by decide +kernel)
theorem dX8_split_28 : decode cX8_split 28 = .ok (.aload_n 0, 1) := sdX8_split_28.1
theorem dX8_split_29 : decode cX8_split 29 = .ok (.getfield 275, 3) := sdX8_split_28.2.1
theorem dX8_split_32 : decode cX8_split 32 = .ok (.invokevirtual 272, 3) := sdX8_split_28.2.2.1
theorem dX8_split_35 : decode cX8_split 35 = .ok (.ireturn, 1) := sdX8_split_28.2.2.2.1
theorem sdX8_prints_0 : dz_Seg cX8_prints [(0, .aload_n 0, 1), (1, .getfield 112, 3), (4, .aload_n 0, 1), (5, .getfield 488, 3), (8, .iload_n 1, 1), (9, .iastore, 1), (10, .aload_n 0, 1), (11, .dup, 1)] := dz_sg _ 0 (by decide +kernel)
theorem dX8_prints_0 : decode cX8_prints 0 = .ok (.aload_n 0, 1) := sdX8_prints_0.1
theorem dX8_prints_1 : decode cX8_prints 1 = .ok (.getfield 112, 3) := sdX8_prints_0.2.1
theorem dX8_prints_4 : decode cX8_prints 4 = .ok (.aload_n 0, 1) := sdX8_prints_0.2.2.1
theorem dX8_prints_5 : decode cX8_prints 5 = .ok (.getfield 488, 3) := sdX8_prints_0.2.2.2.1
theorem dX8_prints_8 : decode cX8_prints 8 = .ok (.iload_n 1, 1) := sdX8_prints_0.2.2.2.2.1
theorem dX8_prints_9 : decode cX8_prints 9 = .ok (.iastore, 1) := sdX8_prints_0.2.2.2.2.2.1
theorem dX8_prints_10 : decode cX8_prints 10 = .ok (.aload_n 0, 1) := sdX8_prints_0.2.2.2.2.2.2.1
theorem dX8_prints_11 : decode cX8_prints 11 = .ok (.dup, 1) := sdX8_prints_0.2.2.2.2.2.2.2.1
theorem sdX8_prints_12 : dz_Seg cX8_prints [(12, .getfield 488, 3), (15, .iconst 1, 1), (16, .iadd, 1), (17, .putfield 488, 3), (20, .return_, 1)] := dz_sg _ 12 (by decide +kernel)
theorem dX8_prints_12 : decode cX8_prints 12 = .ok (.getfield 488, 3) := sdX8_prints_12.1
theorem dX8_prints_15 : decode cX8_prints 15 = .ok (.iconst 1, 1) := sdX8_prints_12.2.1
theorem dX8_prints_16 : decode cX8_prints 16 = .ok (.iadd, 1) := sdX8_prints_12.2.2.1
theorem dX8_prints_17 : decode cX8_prints 17 = .ok (.putfield 488, 3) := sdX8_prints_12.2.2.2.1
theorem dX8_prints_20 : decode cX8_prints 20 = .ok (.return_, 1) := sdX8_prints_12.2.2.2.2.1
theorem sdX8_print_0 : dz_Seg cX8_print [(0, .iload_n 1, 1), (1, .invokestatic 358, 3), (4, .ifCond .ne 9, 3), (7, .aload_n 0, 1), (8, .iconst 1, 1), (9, .invokevirtual 263, 3), (12, .ireturn, 1), (13, .aload_n 0, 1)] := dz_sg _ 0 (by decide +kernel)
theorem dX8_print_0 : decode cX8_print 0 = .ok (.iload_n 1, 1) := sdX8_print_0.1
theorem dX8_print_1 : decode cX8_print 1 = .ok (.invokestatic 358, 3) := sdX8_print_0.2.1
theorem dX8_print_4 : decode cX8_print 4 = .ok (.ifCond .ne 9, 3) := sdX8_print_0.2.2.1
theorem dX8_print_7 : decode cX8_print 7 = .ok (.aload_n 0, 1) := sdX8_print_0.2.2.2.1
theorem dX8_print_8 : decode cX8_print 8 = .ok (.iconst 1, 1) := sdX8_print_0.2.2.2.2.1
theorem dX8_print_9 : decode cX8_print 9 = .ok (.invokevirtual 263, 3) := sdX8_print_0.2.2.2.2.2.1
theorem dX8_print_12 : decode cX8_print 12 = .ok (.ireturn, 1) := sdX8_print_0.2.2.2.2.2.2.1
theorem dX8_print_13 : decode cX8_print 13 = .ok (.aload_n 0, 1) := sdX8_print_0.2.2.2.2.2.2.2.1
theorem sdX8_print_14 : dz_Seg cX8_print [(14, .iload_n 1, 1), (15, .invokevirtual 361, 3), (18, .aload_n 0, 1), (19, .iconst 0, 1), (20, .putfield 488, 3), (23, .iconst 0, 1), (24, .istore_n 2, 1), (25, .iload_n 2, 1)] := dz_sg _ 14 (by decide +kernel)
theorem dX8_print_14 : decode cX8_print 14 = .ok (.iload_n 1, 1) := sdX8_print_14.1
theorem dX8_print_15 : decode cX8_print 15 = .ok (.invokevirtual 361, 3) := sdX8_print_14.2.1
theorem dX8_print_18 : decode cX8_print 18 = .ok (.aload_n 0, 1) := sdX8_print_14.2.2.1
theorem dX8_print_19 : decode cX8_print 19 = .ok (.iconst 0, 1) := sdX8_print_14.2.2.2.1
theorem dX8_print_20 : decode cX8_print 20 = .ok (.putfield 488, 3) := sdX8_print_14.2.2.2.2.1
theorem dX8_print_23 : decode cX8_print 23 = .ok (.iconst 0, 1) := sdX8_print_14.2.2.2.2.2.1
theorem dX8_print_24 : decode cX8_print 24 = .ok (.istore_n 2, 1) := sdX8_print_14.2.2.2.2.2.2.1
theorem dX8_print_25 : decode cX8_print 25 = .ok (.iload_n 2, 1) := sdX8_print_14.2.2.2.2.2.2.2.1
theorem sdX8_print_26 : dz_Seg cX8_print [(26, .aload_n 0, 1), (27, .getfield 275, 3), (30, .if_icmp .ge 80, 3), (33, .aload_n 0, 1), (34, .getfield 70, 3), (37, .iload_n 2, 1), (38, .iaload, 1), (39, .istore_n 3, 1)] := dz_sg _ 26 (by decide +kernel)
theorem dX8_print_26 : decode cX8_print 26 = .ok (.aload_n 0, 1) := sdX8_print_26.1
theorem dX8_print_27 : decode cX8_print 27 = .ok (.getfield 275, 3) := sdX8_print_26.2.1
theorem dX8_print_30 : decode cX8_print 30 = .ok (.if_icmp .ge 80, 3) := sdX8_print_26.2.2.1
theorem dX8_print_33 : decode cX8_print 33 = .ok (.aload_n 0, 1) := sdX8_print_26.2.2.2.1
theorem dX8_print_34 : decode cX8_print 34 = .ok (.getfield 70, 3) := sdX8_print_26.2.2.2.2.1
theorem dX8_print_37 : decode cX8_print 37 = .ok (.iload_n 2, 1) := sdX8_print_26.2.2.2.2.2.1
theorem dX8_print_38 : decode cX8_print 38 = .ok (.iaload, 1) := sdX8_print_26.2.2.2.2.2.2.1
theorem dX8_print_39 : decode cX8_print 39 = .ok (.istore_n 3, 1) := sdX8_print_26.2.2.2.2.2.2.2.1
theorem sdX8_print_40 : dz_Seg cX8_print [(40, .aload_n 0, 1), (41, .bipush 48, 2), (43, .iload_n 3, 1), (44, .iadd, 1), (45, .invokevirtual 491, 3), (48, .aload_n 0, 1), (49, .bipush 61, 2), (51, .invokevirtual 491, 3)] := dz_sg _ 40 (by decide +kernel)
theorem dX8_print_40 : decode cX8_print 40 = .ok (.aload_n 0, 1) := sdX8_print_40.1
theorem dX8_print_41 : decode cX8_print 41 = .ok (.bipush 48, 2) := sdX8_print_40.2.1
theorem dX8_print_43 : decode cX8_print 43 = .ok (.iload_n 3, 1) := sdX8_print_40.2.2.1
theorem dX8_print_44 : decode cX8_print 44 = .ok (.iadd, 1) := sdX8_print_40.2.2.2.1
theorem dX8_print_45 : decode cX8_print 45 = .ok (.invokevirtual 491, 3) := sdX8_print_40.2.2.2.2.1
theorem dX8_print_48 : decode cX8_print 48 = .ok (.aload_n 0, 1) := sdX8_print_40.2.2.2.2.2.1
theorem dX8_print_49 : decode cX8_print 49 = .ok (.bipush 61, 2) := sdX8_print_40.2.2.2.2.2.2.1
theorem dX8_print_51 : decode cX8_print 51 = .ok (.invokevirtual 491, 3) := sdX8_print_40.2.2.2.2.2.2.2.1
theorem sdX8_print_54 : dz_Seg cX8_print [(54, .aload_n 0, 1), (55, .aload_n 0, 1), (56, .getfield 73, 3), (59, .iload_n 3, 1), (60, .iaload, 1), (61, .iconst (-1), 1), (62, .if_icmp .ne 8, 3), (65, .bipush 45, 2)] := dz_sg _ 54 (by decide +kernel)
theorem dX8_print_54 : decode cX8_print 54 = .ok (.aload_n 0, 1) := sdX8_print_54.1
theorem dX8_print_55 : decode cX8_print 55 = .ok (.aload_n 0, 1) := sdX8_print_54.2.1
theorem dX8_print_56 : decode cX8_print 56 = .ok (.getfield 73, 3) := sdX8_print_54.2.2.1
theorem dX8_print_59 : decode cX8_print 59 = .ok (.iload_n 3, 1) := sdX8_print_54.2.2.2.1
theorem dX8_print_60 : decode cX8_print 60 = .ok (.iaload, 1) := sdX8_print_54.2.2.2.2.1
theorem dX8_print_61 : decode cX8_print 61 = .ok (.iconst (-1), 1) := sdX8_print_54.2.2.2.2.2.1
theorem dX8_print_62 : decode cX8_print 62 = .ok (.if_icmp .ne 8, 3) := sdX8_print_54.2.2.2.2.2.2.1
theorem dX8_print_65 : decode cX8_print 65 = .ok (.bipush 45, 2) := sdX8_print_54.2.2.2.2.2.2.2.1
theorem sdX8_print_67 : dz_Seg cX8_print [(67, .goto 12, 3), (70, .bipush 48, 2), (72, .aload_n 0, 1), (73, .getfield 73, 3), (76, .iload_n 3, 1), (77, .iaload, 1), (78, .iadd, 1), (79, .invokevirtual 491, 3)] := dz_sg _ 67 (by decide +kernel)
theorem dX8_print_67 : decode cX8_print 67 = .ok (.goto 12, 3) := sdX8_print_67.1
theorem dX8_print_70 : decode cX8_print 70 = .ok (.bipush 48, 2) := sdX8_print_67.2.1
theorem dX8_print_72 : decode cX8_print 72 = .ok (.aload_n 0, 1) := sdX8_print_67.2.2.1
theorem dX8_print_73 : decode cX8_print 73 = .ok (.getfield 73, 3) := sdX8_print_67.2.2.2.1
theorem dX8_print_76 : decode cX8_print 76 = .ok (.iload_n 3, 1) := sdX8_print_67.2.2.2.2.1
theorem dX8_print_77 : decode cX8_print 77 = .ok (.iaload, 1) := sdX8_print_67.2.2.2.2.2.1
theorem dX8_print_78 : decode cX8_print 78 = .ok (.iadd, 1) := sdX8_print_67.2.2.2.2.2.2.1
theorem dX8_print_79 : decode cX8_print 79 = .ok (.invokevirtual 491, 3) := sdX8_print_67.2.2.2.2.2.2.2.1
theorem sdX8_print_82 : dz_Seg cX8_print [(82, .aload_n 0, 1), (83, .getfield 76, 3), (86, .iload_n 3, 1), (87, .iaload, 1), (88, .iconst 1, 1), (89, .if_icmp .ne 9, 3), (92, .aload_n 0, 1), (93, .bipush 33, 2)] := dz_sg _ 82 (by decide +kernel)
theorem dX8_print_82 : decode cX8_print 82 = .ok (.aload_n 0, 1) := sdX8_print_82.1
theorem dX8_print_83 : decode cX8_print 83 = .ok (.getfield 76, 3) := sdX8_print_82.2.1
theorem dX8_print_86 : decode cX8_print 86 = .ok (.iload_n 3, 1) := sdX8_print_82.2.2.1
theorem dX8_print_87 : decode cX8_print 87 = .ok (.iaload, 1) := sdX8_print_82.2.2.2.1
theorem dX8_print_88 : decode cX8_print 88 = .ok (.iconst 1, 1) := sdX8_print_82.2.2.2.2.1
theorem dX8_print_89 : decode cX8_print 89 = .ok (.if_icmp .ne 9, 3) := sdX8_print_82.2.2.2.2.2.1
theorem dX8_print_92 : decode cX8_print 92 = .ok (.aload_n 0, 1) := sdX8_print_82.2.2.2.2.2.2.1
theorem dX8_print_93 : decode cX8_print 93 = .ok (.bipush 33, 2) := sdX8_print_82.2.2.2.2.2.2.2.1
theorem sdX8_print_95 : dz_Seg cX8_print [(95, .invokevirtual 491, 3), (98, .aload_n 0, 1), (99, .bipush 59, 2), (101, .invokevirtual 491, 3), (104, .iinc 2 1, 3), (107, .goto (-82), 3), (110, .aload_n 0, 1), (111, .aload_n 0, 1)] := dz_sg _ 95 (by decide +kernel)
theorem dX8_print_95 : decode cX8_print 95 = .ok (.invokevirtual 491, 3) := sdX8_print_95.1
theorem dX8_print_98 : decode cX8_print 98 = .ok (.aload_n 0, 1) := sdX8_print_95.2.1
theorem dX8_print_99 : decode cX8_print 99 = .ok (.bipush 59, 2) := sdX8_print_95.2.2.1
theorem dX8_print_101 : decode cX8_print 101 = .ok (.invokevirtual 491, 3) := sdX8_print_95.2.2.2.1
theorem dX8_print_104 : decode cX8_print 104 = .ok (.iinc 2 1, 3) := sdX8_print_95.2.2.2.2.1
theorem dX8_print_107 : decode cX8_print 107 = .ok (.goto (-82), 3) := sdX8_print_95.2.2.2.2.2.1
theorem dX8_print_110 : decode cX8_print 110 = .ok (.aload_n 0, 1) := sdX8_print_95.2.2.2.2.2.2.1
theorem dX8_print_111 : decode cX8_print 111 = .ok (.aload_n 0, 1) := sdX8_print_95.2.2.2.2.2.2.2.1
theorem sdX8_print_112 : dz_Seg cX8_print [(112, .getfield 488, 3), (115, .invokevirtual 272, 3), (118, .ireturn, 1)] := dz_sg _ 112 (by decide +kernel)
theorem dX8_print_112 : decode cX8_print 112 = .ok (.getfield 488, 3) := sdX8_print_112.1
theorem dX8_print_115 : decode cX8_print 115 = .ok (.invokevirtual 272, 3) := sdX8_print_112.2.1
theorem dX8_print_118 : decode cX8_print 118 = .ok (.ireturn, 1) := sdX8_print_112.2.2.1
theorem sdX8_out_0 : dz_Seg cX8_out [(0, .iload_n 1, 1), (1, .ifCond .ge 9, 3), (4, .aload_n 0, 1), (5, .iconst 1, 1), (6, .invokevirtual 263, 3), (9, .ireturn, 1), (10, .iload_n 1, 1), (11, .aload_n 0, 1)] := dz_sg _ 0 (by decide +kernel)
theorem dX8_out_0 : decode cX8_out 0 = .ok (.iload_n 1, 1) := sdX8_out_0.1
theorem dX8_out_1 : decode cX8_out 1 = .ok (.ifCond .ge 9, 3) := sdX8_out_0.2.1
theorem dX8_out_4 : decode cX8_out 4 = .ok (.aload_n 0, 1) := sdX8_out_0.2.2.1
theorem dX8_out_5 : decode cX8_out 5 = .ok (.iconst 1, 1) := sdX8_out_0.2.2.2.1
theorem dX8_out_6 : decode cX8_out 6 = .ok (.invokevirtual 263, 3) := sdX8_out_0.2.2.2.2.1
theorem dX8_out_9 : decode cX8_out 9 = .ok (.ireturn, 1) := sdX8_out_0.2.2.2.2.2.1
theorem dX8_out_10 : decode cX8_out 10 = .ok (.iload_n 1, 1) := sdX8_out_0.2.2.2.2.2.2.1
theorem dX8_out_11 : decode cX8_out 11 = .ok (.aload_n 0, 1) := sdX8_out_0.2.2.2.2.2.2.2.1
theorem sdX8_out_12 : dz_Seg cX8_out [(12, .getfield 488, 3), (15, .if_icmp .ge 16, 3), (18, .aload_n 0, 1), (19, .aload_n 0, 1), (20, .getfield 112, 3), (23, .iload_n 1, 1), (24, .iaload, 1), (25, .invokevirtual 272, 3)] := dz_sg _ 12 (by decide +kernel)
theorem dX8_out_12 : decode cX8_out 12 = .ok (.getfield 488, 3) := sdX8_out_12.1
theorem dX8_out_15 : decode cX8_out 15 = .ok (.if_icmp .ge 16, 3) := sdX8_out_12.2.1
theorem dX8_out_18 : decode cX8_out 18 = .ok (.aload_n 0, 1) := sdX8_out_12.2.2.1
theorem dX8_out_19 : decode cX8_out 19 = .ok (.aload_n 0, 1) := sdX8_out_12.2.2.2.1
theorem dX8_out_20 : decode cX8_out 20 = .ok (.getfield 112, 3) := sdX8_out_12.2.2.2.2.1
theorem dX8_out_23 : decode cX8_out 23 = .ok (.iload_n 1, 1) := sdX8_out_12.2.2.2.2.2.1
theorem dX8_out_24 : decode cX8_out 24 = .ok (.iaload, 1) := sdX8_out_12.2.2.2.2.2.2.1
theorem dX8_out_25 : decode cX8_out 25 = .ok (.invokevirtual 272, 3) := sdX8_out_12.2.2.2.2.2.2.2.1
theorem sdX8_out_28 : dz_Seg cX8_out [(28, .goto 8, 3), (31, .aload_n 0, 1), (32, .iconst 5, 1), (33, .invokevirtual 263, 3), (36, .ireturn, 1)] := dz_sg _ 28 (by decide +kernel)
theorem dX8_out_28 : decode cX8_out 28 = .ok (.goto 8, 3) := sdX8_out_28.1
theorem dX8_out_31 : decode cX8_out 31 = .ok (.aload_n 0, 1) := sdX8_out_28.2.1
theorem dX8_out_32 : decode cX8_out 32 = .ok (.iconst 5, 1) := sdX8_out_28.2.2.1
theorem dX8_out_33 : decode cX8_out 33 = .ok (.invokevirtual 263, 3) := sdX8_out_28.2.2.2.1
theorem dX8_out_36 : decode cX8_out 36 = .ok (.ireturn, 1) := sdX8_out_28.2.2.2.2.1
theorem sdJ0_length_8abf5_0 : dz_Seg cJ0_length_8abf5 [(0, .aload_n 0, 1), (1, .getfield 9, 3), (4, .arraylength, 1), (5, .aload_n 0, 1), (6, .invokevirtual 335, 3), (9, .ishr, 1), (10, .ireturn, 1)] := dz_sg _ 0 (by decide +kernel)
theorem dJ0_length_8abf5_0 : decode cJ0_length_8abf5 0 = .ok (.aload_n 0, 1) := sdJ0_length_8abf5_0.1
theorem dJ0_length_8abf5_1 : decode cJ0_length_8abf5 1 = .ok (.getfield 9, 3) := sdJ0_length_8abf5_0.2.1
theorem dJ0_length_8abf5_4 : decode cJ0_length_8abf5 4 = .ok (.arraylength, 1) := sdJ0_length_8abf5_0.2.2.1
theorem dJ0_length_8abf5_5 : decode cJ0_length_8abf5 5 = .ok (.aload_n 0, 1) := sdJ0_length_8abf5_0.2.2.2.1
theorem dJ0_length_8abf5_6 : decode cJ0_length_8abf5 6 = .ok (.invokevirtual 335, 3) := sdJ0_length_8abf5_0.2.2.2.2.1
theorem dJ0_length_8abf5_9 : decode cJ0_length_8abf5 9 = .ok (.ishr, 1) := sdJ0_length_8abf5_0.2.2.2.2.2.1
theorem dJ0_length_8abf5_10 : decode cJ0_length_8abf5 10 = .ok (.ireturn, 1) := sdJ0_length_8abf5_0.2.2.2.2.2.2.1
theorem sdJ0_charAt_5068e_0 : dz_Seg cJ0_charAt_5068e [(0, .aload_n 0, 1), (1, .invokevirtual 492, 3), (4, .ifCond .eq 12, 3), (7, .aload_n 0, 1), (8, .getfield 9, 3), (11, .iload_n 1, 1), (12, .invokestatic 495, 3), (15, .ireturn, 1)] := dz_sg _ 0 (by decide +kernel)
theorem dJ0_charAt_5068e_0 : decode cJ0_charAt_5068e 0 = .ok (.aload_n 0, 1) := sdJ0_charAt_5068e_0.1
theorem dJ0_charAt_5068e_1 : decode cJ0_charAt_5068e 1 = .ok (.invokevirtual 492, 3) := sdJ0_charAt_5068e_0.2.1
theorem dJ0_charAt_5068e_4 : decode cJ0_charAt_5068e 4 = .ok (.ifCond .eq 12, 3) := sdJ0_charAt_5068e_0.2.2.1
theorem dJ0_charAt_5068e_7 : decode cJ0_charAt_5068e 7 = .ok (.aload_n 0, 1) := sdJ0_charAt_5068e_0.2.2.2.1
theorem dJ0_charAt_5068e_8 : decode cJ0_charAt_5068e 8 = .ok (.getfield 9, 3) := sdJ0_charAt_5068e_0.2.2.2.2.1
theorem dJ0_charAt_5068e_11 : decode cJ0_charAt_5068e 11 = .ok (.iload_n 1, 1) := sdJ0_charAt_5068e_0.2.2.2.2.2.1
theorem dJ0_charAt_5068e_12 : decode cJ0_charAt_5068e 12 = .ok (.invokestatic 495, 3) := sdJ0_charAt_5068e_0.2.2.2.2.2.2.1
theorem dJ0_charAt_5068e_15 : decode cJ0_charAt_5068e 15 = .ok (.ireturn, 1) := sdJ0_charAt_5068e_0.2.2.2.2.2.2.2.1
theorem sdJ0_charAt_5068e_16 : dz_Seg cJ0_charAt_5068e [(16, .aload_n 0, 1), (17, .getfield 9, 3), (20, .iload_n 1, 1), (21, .invokestatic 498, 3), (24, .ireturn, 1)] := dz_sg _ 16 (by decide +kernel)
theorem dJ0_charAt_5068e_16 : decode cJ0_charAt_5068e 16 = .ok (.aload_n 0, 1) := sdJ0_charAt_5068e_16.1
theorem dJ0_charAt_5068e_17 : decode cJ0_charAt_5068e 17 = .ok (.getfield 9, 3) := sdJ0_charAt_5068e_16.2.1
theorem dJ0_charAt_5068e_20 : decode cJ0_charAt_5068e 20 = .ok (.iload_n 1, 1) := sdJ0_charAt_5068e_16.2.2.1
theorem dJ0_charAt_5068e_21 : decode cJ0_charAt_5068e 21 = .ok (.invokestatic 498, 3) := sdJ0_charAt_5068e_16.2.2.2.1
theorem dJ0_charAt_5068e_24 : decode cJ0_charAt_5068e 24 = .ok (.ireturn, 1) := sdJ0_charAt_5068e_16.2.2.2.2.1
theorem sdJ0_coder_7d493_0 : dz_Seg cJ0_coder_7d493 [(0, .getstatic 38, 3), (3, .ifCond .eq 10, 3), (6, .aload_n 0, 1), (7, .getfield 15, 3), (10, .goto 4, 3), (13, .iconst 1, 1), (14, .ireturn, 1)] := dz_sg _ 0 (by decide +kernel)
theorem dJ0_coder_7d493_0 : decode cJ0_coder_7d493 0 = .ok (.getstatic 38, 3) := sdJ0_coder_7d493_0.1
theorem dJ0_coder_7d493_3 : decode cJ0_coder_7d493 3 = .ok (.ifCond .eq 10, 3) := sdJ0_coder_7d493_0.2.1
theorem dJ0_coder_7d493_6 : decode cJ0_coder_7d493 6 = .ok (.aload_n 0, 1) := sdJ0_coder_7d493_0.2.2.1
theorem dJ0_coder_7d493_7 : decode cJ0_coder_7d493 7 = .ok (.getfield 15, 3) := sdJ0_coder_7d493_0.2.2.2.1
theorem dJ0_coder_7d493_10 : decode cJ0_coder_7d493 10 = .ok (.goto 4, 3) := sdJ0_coder_7d493_0.2.2.2.2.1
theorem dJ0_coder_7d493_13 : decode cJ0_coder_7d493 13 = .ok (.iconst 1, 1) := sdJ0_coder_7d493_0.2.2.2.2.2.1
theorem dJ0_coder_7d493_14 : decode cJ0_coder_7d493 14 = .ok (.ireturn, 1) := sdJ0_coder_7d493_0.2.2.2.2.2.2.1
theorem sdJ0_isLatin1_aae02_0 : dz_Seg cJ0_isLatin1_aae02 [(0, .getstatic 38, 3), (3, .ifCond .eq 14, 3), (6, .aload_n 0, 1), (7, .getfield 15, 3), (10, .ifCond .ne 7, 3), (13, .iconst 1, 1), (14, .goto 4, 3), (17, .iconst 0, 1)] := dz_sg _ 0 (by decide +kernel)
theorem dJ0_isLatin1_aae02_0 : decode cJ0_isLatin1_aae02 0 = .ok (.getstatic 38, 3) := sdJ0_isLatin1_aae02_0.1
theorem dJ0_isLatin1_aae02_3 : decode cJ0_isLatin1_aae02 3 = .ok (.ifCond .eq 14, 3) := sdJ0_isLatin1_aae02_0.2.1
theorem dJ0_isLatin1_aae02_6 : decode cJ0_isLatin1_aae02 6 = .ok (.aload_n 0, 1) := sdJ0_isLatin1_aae02_0.2.2.1
theorem dJ0_isLatin1_aae02_7 : decode cJ0_isLatin1_aae02 7 = .ok (.getfield 15, 3) := sdJ0_isLatin1_aae02_0.2.2.2.1
theorem dJ0_isLatin1_aae02_10 : decode cJ0_isLatin1_aae02 10 = .ok (.ifCond .ne 7, 3) := sdJ0_isLatin1_aae02_0.2.2.2.2.1
theorem dJ0_isLatin1_aae02_13 : decode cJ0_isLatin1_aae02 13 = .ok (.iconst 1, 1) := sdJ0_isLatin1_aae02_0.2.2.2.2.2.1
theorem dJ0_isLatin1_aae02_14 : decode cJ0_isLatin1_aae02 14 = .ok (.goto 4, 3) := sdJ0_isLatin1_aae02_0.2.2.2.2.2.2.1
theorem dJ0_isLatin1_aae02_17 : decode cJ0_isLatin1_aae02 17 = .ok (.iconst 0, 1) := sdJ0_isLatin1_aae02_0.2.2.2.2.2.2.2.1
theorem sdJ0_isLatin1_aae02_18 : dz_Seg cJ0_isLatin1_aae02 [(18, .ireturn, 1)] := dz_sg _ 18 (by decide +kernel)
theorem dJ0_isLatin1_aae02_18 : decode cJ0_isLatin1_aae02 18 = .ok (.ireturn, 1) := sdJ0_isLatin1_aae02_18.1
theorem sdJ0_checkIndex_df160_0 : dz_Seg cJ0_checkIndex_df160 [(0, .iload_n 0, 1), (1, .iload_n 1, 1), (2, .getstatic 1053, 3), (5, .invokestatic 1059, 3), (8, .pop, 1), (9, .return_, 1)] := dz_sg _ 0 (by decide +kernel)
theorem dJ0_checkIndex_df160_0 : decode cJ0_checkIndex_df160 0 = .ok (.iload_n 0, 1) := sdJ0_checkIndex_df160_0.1
theorem dJ0_checkIndex_df160_1 : decode cJ0_checkIndex_df160 1 = .ok (.iload_n 1, 1) := sdJ0_checkIndex_df160_0.2.1
theorem dJ0_checkIndex_df160_2 : decode cJ0_checkIndex_df160 2 = .ok (.getstatic 1053, 3) := sdJ0_checkIndex_df160_0.2.2.1
theorem dJ0_checkIndex_df160_5 : decode cJ0_checkIndex_df160 5 = .ok (.invokestatic 1059, 3) := sdJ0_checkIndex_df160_0.2.2.2.1
theorem dJ0_checkIndex_df160_8 : decode cJ0_checkIndex_df160 8 = .ok (.pop, 1) := sdJ0_checkIndex_df160_0.2.2.2.2.1
theorem dJ0_checkIndex_df160_9 : decode cJ0_checkIndex_df160 9 = .ok (.return_, 1) := sdJ0_checkIndex_df160_0.2.2.2.2.2.1
theorem sdJ1_charAt_3b067_0 : dz_Seg cJ1_charAt_3b067 [(0, .iload_n 1, 1), (1, .aload_n 0, 1), (2, .arraylength, 1), (3, .invokestatic 9, 3), (6, .aload_n 0, 1), (7, .iload_n 1, 1), (8, .baload, 1), (9, .sipush 255, 3)] := dz_sg _ 0 (by decide +kernel)
theorem dJ1_charAt_3b067_0 : decode cJ1_charAt_3b067 0 = .ok (.iload_n 1, 1) := sdJ1_charAt_3b067_0.1
theorem dJ1_charAt_3b067_1 : decode cJ1_charAt_3b067 1 = .ok (.aload_n 0, 1) := sdJ1_charAt_3b067_0.2.1
theorem dJ1_charAt_3b067_2 : decode cJ1_charAt_3b067 2 = .ok (.arraylength, 1) := sdJ1_charAt_3b067_0.2.2.1
theorem dJ1_charAt_3b067_3 : decode cJ1_charAt_3b067 3 = .ok (.invokestatic 9, 3) := sdJ1_charAt_3b067_0.2.2.2.1
theorem dJ1_charAt_3b067_6 : decode cJ1_charAt_3b067 6 = .ok (.aload_n 0, 1) := sdJ1_charAt_3b067_0.2.2.2.2.1
theorem dJ1_charAt_3b067_7 : decode cJ1_charAt_3b067 7 = .ok (.iload_n 1, 1) := sdJ1_charAt_3b067_0.2.2.2.2.2.1
theorem dJ1_charAt_3b067_8 : decode cJ1_charAt_3b067 8 = .ok (.baload, 1) := sdJ1_charAt_3b067_0.2.2.2.2.2.2.1
theorem dJ1_charAt_3b067_9 : decode cJ1_charAt_3b067 9 = .ok (.sipush 255, 3) := sdJ1_charAt_3b067_0.2.2.2.2.2.2.2.1
theorem sdJ1_charAt_3b067_12 : dz_Seg cJ1_charAt_3b067 [(12, .iand, 1), (13, .i2c, 1), (14, .ireturn, 1)] := dz_sg _ 12 (by decide +kernel)
theorem dJ1_charAt_3b067_12 : decode cJ1_charAt_3b067 12 = .ok (.iand, 1) := sdJ1_charAt_3b067_12.1
theorem dJ1_charAt_3b067_13 : decode cJ1_charAt_3b067 13 = .ok (.i2c, 1) := sdJ1_charAt_3b067_12.2.1
theorem dJ1_charAt_3b067_14 : decode cJ1_charAt_3b067 14 = .ok (.ireturn, 1) := sdJ1_charAt_3b067_12.2.2.1
theorem sdJ3_checkIndex_8e157_0 : dz_Seg cJ3_checkIndex_8e157 [(0, .iload_n 0, 1), (1, .ifCond .lt 8, 3), (4, .iload_n 0, 1), (5, .iload_n 1, 1), (6, .if_icmp .lt 10, 3), (9, .aload_n 2, 1), (10, .iload_n 0, 1), (11, .iload_n 1, 1)] := dz_sg _ 0 (by decide +kernel)
theorem dJ3_checkIndex_8e157_0 : decode cJ3_checkIndex_8e157 0 = .ok (.iload_n 0, 1) := sdJ3_checkIndex_8e157_0.1
theorem dJ3_checkIndex_8e157_1 : decode cJ3_checkIndex_8e157 1 = .ok (.ifCond .lt 8, 3) := sdJ3_checkIndex_8e157_0.2.1
theorem dJ3_checkIndex_8e157_4 : decode cJ3_checkIndex_8e157 4 = .ok (.iload_n 0, 1) := sdJ3_checkIndex_8e157_0.2.2.1
theorem dJ3_checkIndex_8e157_5 : decode cJ3_checkIndex_8e157 5 = .ok (.iload_n 1, 1) := sdJ3_checkIndex_8e157_0.2.2.2.1
theorem dJ3_checkIndex_8e157_6 : decode cJ3_checkIndex_8e157 6 = .ok (.if_icmp .lt 10, 3) := sdJ3_checkIndex_8e157_0.2.2.2.2.1
theorem dJ3_checkIndex_8e157_9 : decode cJ3_checkIndex_8e157 9 = .ok (.aload_n 2, 1) := sdJ3_checkIndex_8e157_0.2.2.2.2.2.1
theorem dJ3_checkIndex_8e157_10 : decode cJ3_checkIndex_8e157 10 = .ok (.iload_n 0, 1) := sdJ3_checkIndex_8e157_0.2.2.2.2.2.2.1
theorem dJ3_checkIndex_8e157_11 : decode cJ3_checkIndex_8e157 11 = .ok (.iload_n 1, 1) := sdJ3_checkIndex_8e157_0.2.2.2.2.2.2.2.1
theorem sdJ3_checkIndex_8e157_12 : dz_Seg cJ3_checkIndex_8e157 [(12, .invokestatic 95, 3), (15, .athrow, 1), (16, .iload_n 0, 1), (17, .ireturn, 1)] := dz_sg _ 12 (by decide +kernel)
theorem dJ3_checkIndex_8e157_12 : decode cJ3_checkIndex_8e157 12 = .ok (.invokestatic 95, 3) := sdJ3_checkIndex_8e157_12.1
theorem dJ3_checkIndex_8e157_15 : decode cJ3_checkIndex_8e157 15 = .ok (.athrow, 1) := sdJ3_checkIndex_8e157_12.2.1
theorem dJ3_checkIndex_8e157_16 : decode cJ3_checkIndex_8e157 16 = .ok (.iload_n 0, 1) := sdJ3_checkIndex_8e157_12.2.2.1
theorem dJ3_checkIndex_8e157_17 : decode cJ3_checkIndex_8e157 17 = .ok (.ireturn, 1) := sdJ3_checkIndex_8e157_12.2.2.2.1
theorem sdL_law_0 : dz_Seg cL_law [(0, .new 7, 3), (3, .dup, 1), (4, .invokespecial 9, 3), (7, .astore_n 1, 1), (8, .new 10, 3), (11, .dup, 1), (12, .invokespecial 12, 3), (15, .astore_n 2, 1)] := dz_sg _ 0 (by decide +kernel)
theorem dL_law_0 : decode cL_law 0 = .ok (.new 7, 3) := sdL_law_0.1
theorem dL_law_3 : decode cL_law 3 = .ok (.dup, 1) := sdL_law_0.2.1
theorem dL_law_4 : decode cL_law 4 = .ok (.invokespecial 9, 3) := sdL_law_0.2.2.1
theorem dL_law_7 : decode cL_law 7 = .ok (.astore_n 1, 1) := sdL_law_0.2.2.2.1
theorem dL_law_8 : decode cL_law 8 = .ok (.new 10, 3) := sdL_law_0.2.2.2.2.1
theorem dL_law_11 : decode cL_law 11 = .ok (.dup, 1) := sdL_law_0.2.2.2.2.2.1
theorem dL_law_12 : decode cL_law 12 = .ok (.invokespecial 12, 3) := sdL_law_0.2.2.2.2.2.2.1
theorem dL_law_15 : decode cL_law 15 = .ok (.astore_n 2, 1) := sdL_law_0.2.2.2.2.2.2.2.1
theorem sdL_law_16 : dz_Seg cL_law [(16, .iconst 0, 1), (17, .istore_n 3, 1), (18, .iload_n 3, 1), (19, .aload_n 0, 1), (20, .arraylength, 1), (21, .bipush 6, 2), (23, .isub, 1), (24, .if_icmp .gt 1713, 3)] := dz_sg _ 16 (by decide +kernel)
theorem dL_law_16 : decode cL_law 16 = .ok (.iconst 0, 1) := sdL_law_16.1
theorem dL_law_17 : decode cL_law 17 = .ok (.istore_n 3, 1) := sdL_law_16.2.1
theorem dL_law_18 : decode cL_law 18 = .ok (.iload_n 3, 1) := sdL_law_16.2.2.1
theorem dL_law_19 : decode cL_law 19 = .ok (.aload_n 0, 1) := sdL_law_16.2.2.2.1
theorem dL_law_20 : decode cL_law 20 = .ok (.arraylength, 1) := sdL_law_16.2.2.2.2.1
theorem dL_law_21 : decode cL_law 21 = .ok (.bipush 6, 2) := sdL_law_16.2.2.2.2.2.1
theorem dL_law_23 : decode cL_law 23 = .ok (.isub, 1) := sdL_law_16.2.2.2.2.2.2.1
theorem dL_law_24 : decode cL_law 24 = .ok (.if_icmp .gt 1713, 3) := sdL_law_16.2.2.2.2.2.2.2.1
theorem sdL_law_27 : dz_Seg cL_law [(27, .aload_n 0, 1), (28, .iload_n 3, 1), (29, .iaload, 1), (30, .bipush 63, 2), (32, .iand, 1)] := dz_sg _ 27 (by decide +kernel)
theorem dL_law_27 : decode cL_law 27 = .ok (.aload_n 0, 1) := sdL_law_27.1
theorem dL_law_28 : decode cL_law 28 = .ok (.iload_n 3, 1) := sdL_law_27.2.1
theorem dL_law_29 : decode cL_law 29 = .ok (.iaload, 1) := sdL_law_27.2.2.1
theorem dL_law_30 : decode cL_law 30 = .ok (.bipush 63, 2) := sdL_law_27.2.2.2.1
theorem dL_law_32 : decode cL_law 32 = .ok (.iand, 1) := sdL_law_27.2.2.2.2.1
theorem dL_law_33 : decode cL_law 33 = .ok (.tableswitch 1698 0 48 #[211, 224, 287, 310, 333, 356, 389, 422, 455, 488, 521, 554, 587, 620, 653, 696, 719, 762, 805, 838, 871, 904, 937, 970, 1003, 1036, 1059, 1082, 1105, 1118, 1151, 1174, 1197, 1230, 1253, 1276, 1319, 1362, 1405, 1428, 1461, 1494, 1547, 1570, 1593, 1616, 1639, 1652, 1675], 211) := by decide +kernel
theorem sdL_law_244 : dz_Seg cL_law [(244, .aload_n 1, 1), (245, .invokevirtual 13, 3), (248, .pop, 1), (249, .aload_n 2, 1), (250, .invokevirtual 17, 3), (253, .pop, 1), (254, .goto 1477, 3), (257, .aload_n 1, 1)] := dz_sg _ 244 (by decide +kernel)
theorem dL_law_244 : decode cL_law 244 = .ok (.aload_n 1, 1) := sdL_law_244.1
theorem dL_law_245 : decode cL_law 245 = .ok (.invokevirtual 13, 3) := sdL_law_244.2.1
theorem dL_law_248 : decode cL_law 248 = .ok (.pop, 1) := sdL_law_244.2.2.1
theorem dL_law_249 : decode cL_law 249 = .ok (.aload_n 2, 1) := sdL_law_244.2.2.2.1
theorem dL_law_250 : decode cL_law 250 = .ok (.invokevirtual 17, 3) := sdL_law_244.2.2.2.2.1
theorem dL_law_253 : decode cL_law 253 = .ok (.pop, 1) := sdL_law_244.2.2.2.2.2.1
theorem dL_law_254 : decode cL_law 254 = .ok (.goto 1477, 3) := sdL_law_244.2.2.2.2.2.2.1
theorem dL_law_257 : decode cL_law 257 = .ok (.aload_n 1, 1) := sdL_law_244.2.2.2.2.2.2.2.1
theorem sdL_law_258 : dz_Seg cL_law [(258, .aload_n 0, 1), (259, .iload_n 3, 1), (260, .iconst 1, 1), (261, .iadd, 1), (262, .iaload, 1), (263, .aload_n 0, 1), (264, .iload_n 3, 1), (265, .iconst 2, 1)] := dz_sg _ 258 (by decide +kernel)
theorem dL_law_258 : decode cL_law 258 = .ok (.aload_n 0, 1) := sdL_law_258.1
theorem dL_law_259 : decode cL_law 259 = .ok (.iload_n 3, 1) := sdL_law_258.2.1
theorem dL_law_260 : decode cL_law 260 = .ok (.iconst 1, 1) := sdL_law_258.2.2.1
theorem dL_law_261 : decode cL_law 261 = .ok (.iadd, 1) := sdL_law_258.2.2.2.1
theorem dL_law_262 : decode cL_law 262 = .ok (.iaload, 1) := sdL_law_258.2.2.2.2.1
theorem dL_law_263 : decode cL_law 263 = .ok (.aload_n 0, 1) := sdL_law_258.2.2.2.2.2.1
theorem dL_law_264 : decode cL_law 264 = .ok (.iload_n 3, 1) := sdL_law_258.2.2.2.2.2.2.1
theorem dL_law_265 : decode cL_law 265 = .ok (.iconst 2, 1) := sdL_law_258.2.2.2.2.2.2.2.1
theorem sdL_law_266 : dz_Seg cL_law [(266, .iadd, 1), (267, .iaload, 1), (268, .aload_n 0, 1), (269, .iload_n 3, 1), (270, .iconst 3, 1), (271, .iadd, 1), (272, .iaload, 1), (273, .aload_n 0, 1)] := dz_sg _ 266 (by decide +kernel)
theorem dL_law_266 : decode cL_law 266 = .ok (.iadd, 1) := sdL_law_266.1
theorem dL_law_267 : decode cL_law 267 = .ok (.iaload, 1) := sdL_law_266.2.1
theorem dL_law_268 : decode cL_law 268 = .ok (.aload_n 0, 1) := sdL_law_266.2.2.1
theorem dL_law_269 : decode cL_law 269 = .ok (.iload_n 3, 1) := sdL_law_266.2.2.2.1
theorem dL_law_270 : decode cL_law 270 = .ok (.iconst 3, 1) := sdL_law_266.2.2.2.2.1
theorem dL_law_271 : decode cL_law 271 = .ok (.iadd, 1) := sdL_law_266.2.2.2.2.2.1
theorem dL_law_272 : decode cL_law 272 = .ok (.iaload, 1) := sdL_law_266.2.2.2.2.2.2.1
theorem dL_law_273 : decode cL_law 273 = .ok (.aload_n 0, 1) := sdL_law_266.2.2.2.2.2.2.2.1
theorem sdL_law_274 : dz_Seg cL_law [(274, .iload_n 3, 1), (275, .iconst 4, 1), (276, .iadd, 1), (277, .iaload, 1), (278, .aload_n 0, 1), (279, .iload_n 3, 1), (280, .iconst 5, 1), (281, .iadd, 1)] := dz_sg _ 274 (by decide +kernel)
theorem dL_law_274 : decode cL_law 274 = .ok (.iload_n 3, 1) := sdL_law_274.1
theorem dL_law_275 : decode cL_law 275 = .ok (.iconst 4, 1) := sdL_law_274.2.1
theorem dL_law_276 : decode cL_law 276 = .ok (.iadd, 1) := sdL_law_274.2.2.1
theorem dL_law_277 : decode cL_law 277 = .ok (.iaload, 1) := sdL_law_274.2.2.2.1
theorem dL_law_278 : decode cL_law 278 = .ok (.aload_n 0, 1) := sdL_law_274.2.2.2.2.1
theorem dL_law_279 : decode cL_law 279 = .ok (.iload_n 3, 1) := sdL_law_274.2.2.2.2.2.1
theorem dL_law_280 : decode cL_law 280 = .ok (.iconst 5, 1) := sdL_law_274.2.2.2.2.2.2.1
theorem dL_law_281 : decode cL_law 281 = .ok (.iadd, 1) := sdL_law_274.2.2.2.2.2.2.2.1
theorem sdL_law_282 : dz_Seg cL_law [(282, .iaload, 1), (283, .invokevirtual 18, 3), (286, .pop, 1), (287, .aload_n 2, 1), (288, .aload_n 0, 1), (289, .iload_n 3, 1), (290, .iconst 1, 1), (291, .iadd, 1)] := dz_sg _ 282 (by decide +kernel)
theorem dL_law_282 : decode cL_law 282 = .ok (.iaload, 1) := sdL_law_282.1
theorem dL_law_283 : decode cL_law 283 = .ok (.invokevirtual 18, 3) := sdL_law_282.2.1
theorem dL_law_286 : decode cL_law 286 = .ok (.pop, 1) := sdL_law_282.2.2.1
theorem dL_law_287 : decode cL_law 287 = .ok (.aload_n 2, 1) := sdL_law_282.2.2.2.1
theorem dL_law_288 : decode cL_law 288 = .ok (.aload_n 0, 1) := sdL_law_282.2.2.2.2.1
theorem dL_law_289 : decode cL_law 289 = .ok (.iload_n 3, 1) := sdL_law_282.2.2.2.2.2.1
theorem dL_law_290 : decode cL_law 290 = .ok (.iconst 1, 1) := sdL_law_282.2.2.2.2.2.2.1
theorem dL_law_291 : decode cL_law 291 = .ok (.iadd, 1) := sdL_law_282.2.2.2.2.2.2.2.1
theorem sdL_law_292 : dz_Seg cL_law [(292, .iaload, 1), (293, .aload_n 0, 1), (294, .iload_n 3, 1), (295, .iconst 2, 1), (296, .iadd, 1), (297, .iaload, 1), (298, .aload_n 0, 1), (299, .iload_n 3, 1)] := dz_sg _ 292 (by decide +kernel)
theorem dL_law_292 : decode cL_law 292 = .ok (.iaload, 1) := sdL_law_292.1
theorem dL_law_293 : decode cL_law 293 = .ok (.aload_n 0, 1) := sdL_law_292.2.1
theorem dL_law_294 : decode cL_law 294 = .ok (.iload_n 3, 1) := sdL_law_292.2.2.1
theorem dL_law_295 : decode cL_law 295 = .ok (.iconst 2, 1) := sdL_law_292.2.2.2.1
theorem dL_law_296 : decode cL_law 296 = .ok (.iadd, 1) := sdL_law_292.2.2.2.2.1
theorem dL_law_297 : decode cL_law 297 = .ok (.iaload, 1) := sdL_law_292.2.2.2.2.2.1
theorem dL_law_298 : decode cL_law 298 = .ok (.aload_n 0, 1) := sdL_law_292.2.2.2.2.2.2.1
theorem dL_law_299 : decode cL_law 299 = .ok (.iload_n 3, 1) := sdL_law_292.2.2.2.2.2.2.2.1
theorem sdL_law_300 : dz_Seg cL_law [(300, .iconst 3, 1), (301, .iadd, 1), (302, .iaload, 1), (303, .aload_n 0, 1), (304, .iload_n 3, 1), (305, .iconst 4, 1), (306, .iadd, 1), (307, .iaload, 1)] := dz_sg _ 300 (by decide +kernel)
theorem dL_law_300 : decode cL_law 300 = .ok (.iconst 3, 1) := sdL_law_300.1
theorem dL_law_301 : decode cL_law 301 = .ok (.iadd, 1) := sdL_law_300.2.1
theorem dL_law_302 : decode cL_law 302 = .ok (.iaload, 1) := sdL_law_300.2.2.1
theorem dL_law_303 : decode cL_law 303 = .ok (.aload_n 0, 1) := sdL_law_300.2.2.2.1
theorem dL_law_304 : decode cL_law 304 = .ok (.iload_n 3, 1) := sdL_law_300.2.2.2.2.1
theorem dL_law_305 : decode cL_law 305 = .ok (.iconst 4, 1) := sdL_law_300.2.2.2.2.2.1
theorem dL_law_306 : decode cL_law 306 = .ok (.iadd, 1) := sdL_law_300.2.2.2.2.2.2.1
theorem dL_law_307 : decode cL_law 307 = .ok (.iaload, 1) := sdL_law_300.2.2.2.2.2.2.2.1
theorem sdL_law_308 : dz_Seg cL_law [(308, .aload_n 0, 1), (309, .iload_n 3, 1), (310, .iconst 5, 1), (311, .iadd, 1), (312, .iaload, 1), (313, .invokevirtual 22, 3), (316, .pop, 1), (317, .goto 1414, 3)] := dz_sg _ 308 (by decide +kernel)
theorem dL_law_308 : decode cL_law 308 = .ok (.aload_n 0, 1) := sdL_law_308.1
theorem dL_law_309 : decode cL_law 309 = .ok (.iload_n 3, 1) := sdL_law_308.2.1
theorem dL_law_310 : decode cL_law 310 = .ok (.iconst 5, 1) := sdL_law_308.2.2.1
theorem dL_law_311 : decode cL_law 311 = .ok (.iadd, 1) := sdL_law_308.2.2.2.1
theorem dL_law_312 : decode cL_law 312 = .ok (.iaload, 1) := sdL_law_308.2.2.2.2.1
theorem dL_law_313 : decode cL_law 313 = .ok (.invokevirtual 22, 3) := sdL_law_308.2.2.2.2.2.1
theorem dL_law_316 : decode cL_law 316 = .ok (.pop, 1) := sdL_law_308.2.2.2.2.2.2.1
theorem dL_law_317 : decode cL_law 317 = .ok (.goto 1414, 3) := sdL_law_308.2.2.2.2.2.2.2.1
theorem sdL_law_320 : dz_Seg cL_law [(320, .aload_n 1, 1), (321, .aload_n 0, 1), (322, .iload_n 3, 1), (323, .iconst 1, 1), (324, .iadd, 1), (325, .iaload, 1), (326, .invokevirtual 23, 3), (329, .pop, 1)] := dz_sg _ 320 (by decide +kernel)
theorem dL_law_320 : decode cL_law 320 = .ok (.aload_n 1, 1) := sdL_law_320.1
theorem dL_law_321 : decode cL_law 321 = .ok (.aload_n 0, 1) := sdL_law_320.2.1
theorem dL_law_322 : decode cL_law 322 = .ok (.iload_n 3, 1) := sdL_law_320.2.2.1
theorem dL_law_323 : decode cL_law 323 = .ok (.iconst 1, 1) := sdL_law_320.2.2.2.1
theorem dL_law_324 : decode cL_law 324 = .ok (.iadd, 1) := sdL_law_320.2.2.2.2.1
theorem dL_law_325 : decode cL_law 325 = .ok (.iaload, 1) := sdL_law_320.2.2.2.2.2.1
theorem dL_law_326 : decode cL_law 326 = .ok (.invokevirtual 23, 3) := sdL_law_320.2.2.2.2.2.2.1
theorem dL_law_329 : decode cL_law 329 = .ok (.pop, 1) := sdL_law_320.2.2.2.2.2.2.2.1
theorem sdL_law_330 : dz_Seg cL_law [(330, .aload_n 2, 1), (331, .aload_n 0, 1), (332, .iload_n 3, 1), (333, .iconst 1, 1), (334, .iadd, 1), (335, .iaload, 1), (336, .invokevirtual 27, 3), (339, .pop, 1)] := dz_sg _ 330 (by decide +kernel)
theorem dL_law_330 : decode cL_law 330 = .ok (.aload_n 2, 1) := sdL_law_330.1
theorem dL_law_331 : decode cL_law 331 = .ok (.aload_n 0, 1) := sdL_law_330.2.1
theorem dL_law_332 : decode cL_law 332 = .ok (.iload_n 3, 1) := sdL_law_330.2.2.1
theorem dL_law_333 : decode cL_law 333 = .ok (.iconst 1, 1) := sdL_law_330.2.2.2.1
theorem dL_law_334 : decode cL_law 334 = .ok (.iadd, 1) := sdL_law_330.2.2.2.2.1
theorem dL_law_335 : decode cL_law 335 = .ok (.iaload, 1) := sdL_law_330.2.2.2.2.2.1
theorem dL_law_336 : decode cL_law 336 = .ok (.invokevirtual 27, 3) := sdL_law_330.2.2.2.2.2.2.1
theorem dL_law_339 : decode cL_law 339 = .ok (.pop, 1) := sdL_law_330.2.2.2.2.2.2.2.1
theorem sdL_law_340 : dz_Seg cL_law [(340, .goto 1391, 3), (343, .aload_n 1, 1), (344, .aload_n 0, 1), (345, .iload_n 3, 1), (346, .iconst 1, 1), (347, .iadd, 1), (348, .iaload, 1), (349, .invokevirtual 28, 3)] := dz_sg _ 340 (by decide +kernel)
theorem dL_law_340 : decode cL_law 340 = .ok (.goto 1391, 3) := sdL_law_340.1
theorem dL_law_343 : decode cL_law 343 = .ok (.aload_n 1, 1) := sdL_law_340.2.1
theorem dL_law_344 : decode cL_law 344 = .ok (.aload_n 0, 1) := sdL_law_340.2.2.1
theorem dL_law_345 : decode cL_law 345 = .ok (.iload_n 3, 1) := sdL_law_340.2.2.2.1
theorem dL_law_346 : decode cL_law 346 = .ok (.iconst 1, 1) := sdL_law_340.2.2.2.2.1
theorem dL_law_347 : decode cL_law 347 = .ok (.iadd, 1) := sdL_law_340.2.2.2.2.2.1
theorem dL_law_348 : decode cL_law 348 = .ok (.iaload, 1) := sdL_law_340.2.2.2.2.2.2.1
theorem dL_law_349 : decode cL_law 349 = .ok (.invokevirtual 28, 3) := sdL_law_340.2.2.2.2.2.2.2.1
theorem sdL_law_352 : dz_Seg cL_law [(352, .pop, 1), (353, .aload_n 2, 1), (354, .aload_n 0, 1), (355, .iload_n 3, 1), (356, .iconst 1, 1), (357, .iadd, 1), (358, .iaload, 1), (359, .invokevirtual 31, 3)] := dz_sg _ 352 (by decide +kernel)
theorem dL_law_352 : decode cL_law 352 = .ok (.pop, 1) := sdL_law_352.1
theorem dL_law_353 : decode cL_law 353 = .ok (.aload_n 2, 1) := sdL_law_352.2.1
theorem dL_law_354 : decode cL_law 354 = .ok (.aload_n 0, 1) := sdL_law_352.2.2.1
theorem dL_law_355 : decode cL_law 355 = .ok (.iload_n 3, 1) := sdL_law_352.2.2.2.1
theorem dL_law_356 : decode cL_law 356 = .ok (.iconst 1, 1) := sdL_law_352.2.2.2.2.1
theorem dL_law_357 : decode cL_law 357 = .ok (.iadd, 1) := sdL_law_352.2.2.2.2.2.1
theorem dL_law_358 : decode cL_law 358 = .ok (.iaload, 1) := sdL_law_352.2.2.2.2.2.2.1
theorem dL_law_359 : decode cL_law 359 = .ok (.invokevirtual 31, 3) := sdL_law_352.2.2.2.2.2.2.2.1
theorem sdL_law_362 : dz_Seg cL_law [(362, .pop, 1), (363, .goto 1368, 3), (366, .aload_n 1, 1), (367, .aload_n 0, 1), (368, .iload_n 3, 1), (369, .iconst 1, 1), (370, .iadd, 1), (371, .iaload, 1)] := dz_sg _ 362 (by decide +kernel)
theorem dL_law_362 : decode cL_law 362 = .ok (.pop, 1) := sdL_law_362.1
theorem dL_law_363 : decode cL_law 363 = .ok (.goto 1368, 3) := sdL_law_362.2.1
theorem dL_law_366 : decode cL_law 366 = .ok (.aload_n 1, 1) := sdL_law_362.2.2.1
theorem dL_law_367 : decode cL_law 367 = .ok (.aload_n 0, 1) := sdL_law_362.2.2.2.1
theorem dL_law_368 : decode cL_law 368 = .ok (.iload_n 3, 1) := sdL_law_362.2.2.2.2.1
theorem dL_law_369 : decode cL_law 369 = .ok (.iconst 1, 1) := sdL_law_362.2.2.2.2.2.1
theorem dL_law_370 : decode cL_law 370 = .ok (.iadd, 1) := sdL_law_362.2.2.2.2.2.2.1
theorem dL_law_371 : decode cL_law 371 = .ok (.iaload, 1) := sdL_law_362.2.2.2.2.2.2.2.1
theorem sdL_law_372 : dz_Seg cL_law [(372, .invokevirtual 32, 3), (375, .pop, 1), (376, .aload_n 2, 1), (377, .aload_n 0, 1), (378, .iload_n 3, 1), (379, .iconst 1, 1), (380, .iadd, 1), (381, .iaload, 1)] := dz_sg _ 372 (by decide +kernel)
theorem dL_law_372 : decode cL_law 372 = .ok (.invokevirtual 32, 3) := sdL_law_372.1
theorem dL_law_375 : decode cL_law 375 = .ok (.pop, 1) := sdL_law_372.2.1
theorem dL_law_376 : decode cL_law 376 = .ok (.aload_n 2, 1) := sdL_law_372.2.2.1
theorem dL_law_377 : decode cL_law 377 = .ok (.aload_n 0, 1) := sdL_law_372.2.2.2.1
theorem dL_law_378 : decode cL_law 378 = .ok (.iload_n 3, 1) := sdL_law_372.2.2.2.2.1
theorem dL_law_379 : decode cL_law 379 = .ok (.iconst 1, 1) := sdL_law_372.2.2.2.2.2.1
theorem dL_law_380 : decode cL_law 380 = .ok (.iadd, 1) := sdL_law_372.2.2.2.2.2.2.1
theorem dL_law_381 : decode cL_law 381 = .ok (.iaload, 1) := sdL_law_372.2.2.2.2.2.2.2.1
theorem sdL_law_382 : dz_Seg cL_law [(382, .invokevirtual 35, 3), (385, .pop, 1), (386, .goto 1345, 3), (389, .aload_n 1, 1), (390, .aload_n 0, 1), (391, .iload_n 3, 1), (392, .iconst 1, 1), (393, .iadd, 1)] := dz_sg _ 382 (by decide +kernel)
theorem dL_law_382 : decode cL_law 382 = .ok (.invokevirtual 35, 3) := sdL_law_382.1
theorem dL_law_385 : decode cL_law 385 = .ok (.pop, 1) := sdL_law_382.2.1
theorem dL_law_386 : decode cL_law 386 = .ok (.goto 1345, 3) := sdL_law_382.2.2.1
theorem dL_law_389 : decode cL_law 389 = .ok (.aload_n 1, 1) := sdL_law_382.2.2.2.1
theorem dL_law_390 : decode cL_law 390 = .ok (.aload_n 0, 1) := sdL_law_382.2.2.2.2.1
theorem dL_law_391 : decode cL_law 391 = .ok (.iload_n 3, 1) := sdL_law_382.2.2.2.2.2.1
theorem dL_law_392 : decode cL_law 392 = .ok (.iconst 1, 1) := sdL_law_382.2.2.2.2.2.2.1
theorem dL_law_393 : decode cL_law 393 = .ok (.iadd, 1) := sdL_law_382.2.2.2.2.2.2.2.1
theorem sdL_law_394 : dz_Seg cL_law [(394, .iaload, 1), (395, .aload_n 0, 1), (396, .iload_n 3, 1), (397, .iconst 2, 1), (398, .iadd, 1), (399, .iaload, 1), (400, .invokevirtual 36, 3), (403, .pop, 1)] := dz_sg _ 394 (by decide +kernel)
theorem dL_law_394 : decode cL_law 394 = .ok (.iaload, 1) := sdL_law_394.1
theorem dL_law_395 : decode cL_law 395 = .ok (.aload_n 0, 1) := sdL_law_394.2.1
theorem dL_law_396 : decode cL_law 396 = .ok (.iload_n 3, 1) := sdL_law_394.2.2.1
theorem dL_law_397 : decode cL_law 397 = .ok (.iconst 2, 1) := sdL_law_394.2.2.2.1
theorem dL_law_398 : decode cL_law 398 = .ok (.iadd, 1) := sdL_law_394.2.2.2.2.1
theorem dL_law_399 : decode cL_law 399 = .ok (.iaload, 1) := sdL_law_394.2.2.2.2.2.1
theorem dL_law_400 : decode cL_law 400 = .ok (.invokevirtual 36, 3) := sdL_law_394.2.2.2.2.2.2.1
theorem dL_law_403 : decode cL_law 403 = .ok (.pop, 1) := sdL_law_394.2.2.2.2.2.2.2.1
theorem sdL_law_404 : dz_Seg cL_law [(404, .aload_n 2, 1), (405, .aload_n 0, 1), (406, .iload_n 3, 1), (407, .iconst 1, 1), (408, .iadd, 1), (409, .iaload, 1), (410, .aload_n 0, 1), (411, .iload_n 3, 1)] := dz_sg _ 404 (by decide +kernel)
theorem dL_law_404 : decode cL_law 404 = .ok (.aload_n 2, 1) := sdL_law_404.1
theorem dL_law_405 : decode cL_law 405 = .ok (.aload_n 0, 1) := sdL_law_404.2.1
theorem dL_law_406 : decode cL_law 406 = .ok (.iload_n 3, 1) := sdL_law_404.2.2.1
theorem dL_law_407 : decode cL_law 407 = .ok (.iconst 1, 1) := sdL_law_404.2.2.2.1
theorem dL_law_408 : decode cL_law 408 = .ok (.iadd, 1) := sdL_law_404.2.2.2.2.1
theorem dL_law_409 : decode cL_law 409 = .ok (.iaload, 1) := sdL_law_404.2.2.2.2.2.1
theorem dL_law_410 : decode cL_law 410 = .ok (.aload_n 0, 1) := sdL_law_404.2.2.2.2.2.2.1
theorem dL_law_411 : decode cL_law 411 = .ok (.iload_n 3, 1) := sdL_law_404.2.2.2.2.2.2.2.1
theorem sdL_law_412 : dz_Seg cL_law [(412, .iconst 2, 1), (413, .iadd, 1), (414, .iaload, 1), (415, .invokevirtual 40, 3), (418, .pop, 1), (419, .goto 1312, 3), (422, .aload_n 1, 1), (423, .aload_n 0, 1)] := dz_sg _ 412 (by decide +kernel)
theorem dL_law_412 : decode cL_law 412 = .ok (.iconst 2, 1) := sdL_law_412.1
theorem dL_law_413 : decode cL_law 413 = .ok (.iadd, 1) := sdL_law_412.2.1
theorem dL_law_414 : decode cL_law 414 = .ok (.iaload, 1) := sdL_law_412.2.2.1
theorem dL_law_415 : decode cL_law 415 = .ok (.invokevirtual 40, 3) := sdL_law_412.2.2.2.1
theorem dL_law_418 : decode cL_law 418 = .ok (.pop, 1) := sdL_law_412.2.2.2.2.1
theorem dL_law_419 : decode cL_law 419 = .ok (.goto 1312, 3) := sdL_law_412.2.2.2.2.2.1
theorem dL_law_422 : decode cL_law 422 = .ok (.aload_n 1, 1) := sdL_law_412.2.2.2.2.2.2.1
theorem dL_law_423 : decode cL_law 423 = .ok (.aload_n 0, 1) := sdL_law_412.2.2.2.2.2.2.2.1
theorem sdL_law_424 : dz_Seg cL_law [(424, .iload_n 3, 1), (425, .iconst 1, 1), (426, .iadd, 1), (427, .iaload, 1), (428, .aload_n 0, 1), (429, .iload_n 3, 1), (430, .iconst 2, 1), (431, .iadd, 1)] := dz_sg _ 424 (by decide +kernel)
theorem dL_law_424 : decode cL_law 424 = .ok (.iload_n 3, 1) := sdL_law_424.1
theorem dL_law_425 : decode cL_law 425 = .ok (.iconst 1, 1) := sdL_law_424.2.1
theorem dL_law_426 : decode cL_law 426 = .ok (.iadd, 1) := sdL_law_424.2.2.1
theorem dL_law_427 : decode cL_law 427 = .ok (.iaload, 1) := sdL_law_424.2.2.2.1
theorem dL_law_428 : decode cL_law 428 = .ok (.aload_n 0, 1) := sdL_law_424.2.2.2.2.1
theorem dL_law_429 : decode cL_law 429 = .ok (.iload_n 3, 1) := sdL_law_424.2.2.2.2.2.1
theorem dL_law_430 : decode cL_law 430 = .ok (.iconst 2, 1) := sdL_law_424.2.2.2.2.2.2.1
theorem dL_law_431 : decode cL_law 431 = .ok (.iadd, 1) := sdL_law_424.2.2.2.2.2.2.2.1
theorem sdL_law_432 : dz_Seg cL_law [(432, .iaload, 1), (433, .invokevirtual 41, 3), (436, .pop, 1), (437, .aload_n 2, 1), (438, .aload_n 0, 1), (439, .iload_n 3, 1), (440, .iconst 1, 1), (441, .iadd, 1)] := dz_sg _ 432 (by decide +kernel)
theorem dL_law_432 : decode cL_law 432 = .ok (.iaload, 1) := sdL_law_432.1
theorem dL_law_433 : decode cL_law 433 = .ok (.invokevirtual 41, 3) := sdL_law_432.2.1
theorem dL_law_436 : decode cL_law 436 = .ok (.pop, 1) := sdL_law_432.2.2.1
theorem dL_law_437 : decode cL_law 437 = .ok (.aload_n 2, 1) := sdL_law_432.2.2.2.1
theorem dL_law_438 : decode cL_law 438 = .ok (.aload_n 0, 1) := sdL_law_432.2.2.2.2.1
theorem dL_law_439 : decode cL_law 439 = .ok (.iload_n 3, 1) := sdL_law_432.2.2.2.2.2.1
theorem dL_law_440 : decode cL_law 440 = .ok (.iconst 1, 1) := sdL_law_432.2.2.2.2.2.2.1
theorem dL_law_441 : decode cL_law 441 = .ok (.iadd, 1) := sdL_law_432.2.2.2.2.2.2.2.1
theorem sdL_law_442 : dz_Seg cL_law [(442, .iaload, 1), (443, .aload_n 0, 1), (444, .iload_n 3, 1), (445, .iconst 2, 1), (446, .iadd, 1), (447, .iaload, 1), (448, .invokevirtual 44, 3), (451, .pop, 1)] := dz_sg _ 442 (by decide +kernel)
theorem dL_law_442 : decode cL_law 442 = .ok (.iaload, 1) := sdL_law_442.1
theorem dL_law_443 : decode cL_law 443 = .ok (.aload_n 0, 1) := sdL_law_442.2.1
theorem dL_law_444 : decode cL_law 444 = .ok (.iload_n 3, 1) := sdL_law_442.2.2.1
theorem dL_law_445 : decode cL_law 445 = .ok (.iconst 2, 1) := sdL_law_442.2.2.2.1
theorem dL_law_446 : decode cL_law 446 = .ok (.iadd, 1) := sdL_law_442.2.2.2.2.1
theorem dL_law_447 : decode cL_law 447 = .ok (.iaload, 1) := sdL_law_442.2.2.2.2.2.1
theorem dL_law_448 : decode cL_law 448 = .ok (.invokevirtual 44, 3) := sdL_law_442.2.2.2.2.2.2.1
theorem dL_law_451 : decode cL_law 451 = .ok (.pop, 1) := sdL_law_442.2.2.2.2.2.2.2.1
theorem sdL_law_452 : dz_Seg cL_law [(452, .goto 1279, 3), (455, .aload_n 1, 1), (456, .aload_n 0, 1), (457, .iload_n 3, 1), (458, .iconst 1, 1), (459, .iadd, 1), (460, .iaload, 1), (461, .aload_n 0, 1)] := dz_sg _ 452 (by decide +kernel)
theorem dL_law_452 : decode cL_law 452 = .ok (.goto 1279, 3) := sdL_law_452.1
theorem dL_law_455 : decode cL_law 455 = .ok (.aload_n 1, 1) := sdL_law_452.2.1
theorem dL_law_456 : decode cL_law 456 = .ok (.aload_n 0, 1) := sdL_law_452.2.2.1
theorem dL_law_457 : decode cL_law 457 = .ok (.iload_n 3, 1) := sdL_law_452.2.2.2.1
theorem dL_law_458 : decode cL_law 458 = .ok (.iconst 1, 1) := sdL_law_452.2.2.2.2.1
theorem dL_law_459 : decode cL_law 459 = .ok (.iadd, 1) := sdL_law_452.2.2.2.2.2.1
theorem dL_law_460 : decode cL_law 460 = .ok (.iaload, 1) := sdL_law_452.2.2.2.2.2.2.1
theorem dL_law_461 : decode cL_law 461 = .ok (.aload_n 0, 1) := sdL_law_452.2.2.2.2.2.2.2.1
theorem sdL_law_462 : dz_Seg cL_law [(462, .iload_n 3, 1), (463, .iconst 2, 1), (464, .iadd, 1), (465, .iaload, 1), (466, .invokevirtual 45, 3), (469, .pop, 1), (470, .aload_n 2, 1), (471, .aload_n 0, 1)] := dz_sg _ 462 (by decide +kernel)
theorem dL_law_462 : decode cL_law 462 = .ok (.iload_n 3, 1) := sdL_law_462.1
theorem dL_law_463 : decode cL_law 463 = .ok (.iconst 2, 1) := sdL_law_462.2.1
theorem dL_law_464 : decode cL_law 464 = .ok (.iadd, 1) := sdL_law_462.2.2.1
theorem dL_law_465 : decode cL_law 465 = .ok (.iaload, 1) := sdL_law_462.2.2.2.1
theorem dL_law_466 : decode cL_law 466 = .ok (.invokevirtual 45, 3) := sdL_law_462.2.2.2.2.1
theorem dL_law_469 : decode cL_law 469 = .ok (.pop, 1) := sdL_law_462.2.2.2.2.2.1
theorem dL_law_470 : decode cL_law 470 = .ok (.aload_n 2, 1) := sdL_law_462.2.2.2.2.2.2.1
theorem dL_law_471 : decode cL_law 471 = .ok (.aload_n 0, 1) := sdL_law_462.2.2.2.2.2.2.2.1
theorem sdL_law_472 : dz_Seg cL_law [(472, .iload_n 3, 1), (473, .iconst 1, 1), (474, .iadd, 1), (475, .iaload, 1), (476, .aload_n 0, 1), (477, .iload_n 3, 1), (478, .iconst 2, 1), (479, .iadd, 1)] := dz_sg _ 472 (by decide +kernel)
theorem dL_law_472 : decode cL_law 472 = .ok (.iload_n 3, 1) := sdL_law_472.1
theorem dL_law_473 : decode cL_law 473 = .ok (.iconst 1, 1) := sdL_law_472.2.1
theorem dL_law_474 : decode cL_law 474 = .ok (.iadd, 1) := sdL_law_472.2.2.1
theorem dL_law_475 : decode cL_law 475 = .ok (.iaload, 1) := sdL_law_472.2.2.2.1
theorem dL_law_476 : decode cL_law 476 = .ok (.aload_n 0, 1) := sdL_law_472.2.2.2.2.1
theorem dL_law_477 : decode cL_law 477 = .ok (.iload_n 3, 1) := sdL_law_472.2.2.2.2.2.1
theorem dL_law_478 : decode cL_law 478 = .ok (.iconst 2, 1) := sdL_law_472.2.2.2.2.2.2.1
theorem dL_law_479 : decode cL_law 479 = .ok (.iadd, 1) := sdL_law_472.2.2.2.2.2.2.2.1
theorem sdL_law_480 : dz_Seg cL_law [(480, .iaload, 1), (481, .invokevirtual 48, 3), (484, .pop, 1), (485, .goto 1246, 3), (488, .aload_n 1, 1), (489, .aload_n 0, 1), (490, .iload_n 3, 1), (491, .iconst 1, 1)] := dz_sg _ 480 (by decide +kernel)
theorem dL_law_480 : decode cL_law 480 = .ok (.iaload, 1) := sdL_law_480.1
theorem dL_law_481 : decode cL_law 481 = .ok (.invokevirtual 48, 3) := sdL_law_480.2.1
theorem dL_law_484 : decode cL_law 484 = .ok (.pop, 1) := sdL_law_480.2.2.1
theorem dL_law_485 : decode cL_law 485 = .ok (.goto 1246, 3) := sdL_law_480.2.2.2.1
theorem dL_law_488 : decode cL_law 488 = .ok (.aload_n 1, 1) := sdL_law_480.2.2.2.2.1
theorem dL_law_489 : decode cL_law 489 = .ok (.aload_n 0, 1) := sdL_law_480.2.2.2.2.2.1
theorem dL_law_490 : decode cL_law 490 = .ok (.iload_n 3, 1) := sdL_law_480.2.2.2.2.2.2.1
theorem dL_law_491 : decode cL_law 491 = .ok (.iconst 1, 1) := sdL_law_480.2.2.2.2.2.2.2.1
theorem sdL_law_492 : dz_Seg cL_law [(492, .iadd, 1), (493, .iaload, 1), (494, .aload_n 0, 1), (495, .iload_n 3, 1), (496, .iconst 2, 1), (497, .iadd, 1), (498, .iaload, 1), (499, .invokevirtual 49, 3)] := dz_sg _ 492 (by decide +kernel)
theorem dL_law_492 : decode cL_law 492 = .ok (.iadd, 1) := sdL_law_492.1
theorem dL_law_493 : decode cL_law 493 = .ok (.iaload, 1) := sdL_law_492.2.1
theorem dL_law_494 : decode cL_law 494 = .ok (.aload_n 0, 1) := sdL_law_492.2.2.1
theorem dL_law_495 : decode cL_law 495 = .ok (.iload_n 3, 1) := sdL_law_492.2.2.2.1
theorem dL_law_496 : decode cL_law 496 = .ok (.iconst 2, 1) := sdL_law_492.2.2.2.2.1
theorem dL_law_497 : decode cL_law 497 = .ok (.iadd, 1) := sdL_law_492.2.2.2.2.2.1
theorem dL_law_498 : decode cL_law 498 = .ok (.iaload, 1) := sdL_law_492.2.2.2.2.2.2.1
theorem dL_law_499 : decode cL_law 499 = .ok (.invokevirtual 49, 3) := sdL_law_492.2.2.2.2.2.2.2.1
theorem sdL_law_502 : dz_Seg cL_law [(502, .pop, 1), (503, .aload_n 2, 1), (504, .aload_n 0, 1), (505, .iload_n 3, 1), (506, .iconst 1, 1), (507, .iadd, 1), (508, .iaload, 1), (509, .aload_n 0, 1)] := dz_sg _ 502 (by decide +kernel)
theorem dL_law_502 : decode cL_law 502 = .ok (.pop, 1) := sdL_law_502.1
theorem dL_law_503 : decode cL_law 503 = .ok (.aload_n 2, 1) := sdL_law_502.2.1
theorem dL_law_504 : decode cL_law 504 = .ok (.aload_n 0, 1) := sdL_law_502.2.2.1
theorem dL_law_505 : decode cL_law 505 = .ok (.iload_n 3, 1) := sdL_law_502.2.2.2.1
theorem dL_law_506 : decode cL_law 506 = .ok (.iconst 1, 1) := sdL_law_502.2.2.2.2.1
theorem dL_law_507 : decode cL_law 507 = .ok (.iadd, 1) := sdL_law_502.2.2.2.2.2.1
theorem dL_law_508 : decode cL_law 508 = .ok (.iaload, 1) := sdL_law_502.2.2.2.2.2.2.1
theorem dL_law_509 : decode cL_law 509 = .ok (.aload_n 0, 1) := sdL_law_502.2.2.2.2.2.2.2.1
theorem sdL_law_510 : dz_Seg cL_law [(510, .iload_n 3, 1), (511, .iconst 2, 1), (512, .iadd, 1), (513, .iaload, 1), (514, .invokevirtual 52, 3), (517, .pop, 1), (518, .goto 1213, 3), (521, .aload_n 1, 1)] := dz_sg _ 510 (by decide +kernel)
theorem dL_law_510 : decode cL_law 510 = .ok (.iload_n 3, 1) := sdL_law_510.1
theorem dL_law_511 : decode cL_law 511 = .ok (.iconst 2, 1) := sdL_law_510.2.1
theorem dL_law_512 : decode cL_law 512 = .ok (.iadd, 1) := sdL_law_510.2.2.1
theorem dL_law_513 : decode cL_law 513 = .ok (.iaload, 1) := sdL_law_510.2.2.2.1
theorem dL_law_514 : decode cL_law 514 = .ok (.invokevirtual 52, 3) := sdL_law_510.2.2.2.2.1
theorem dL_law_517 : decode cL_law 517 = .ok (.pop, 1) := sdL_law_510.2.2.2.2.2.1
theorem dL_law_518 : decode cL_law 518 = .ok (.goto 1213, 3) := sdL_law_510.2.2.2.2.2.2.1
theorem dL_law_521 : decode cL_law 521 = .ok (.aload_n 1, 1) := sdL_law_510.2.2.2.2.2.2.2.1
theorem sdL_law_522 : dz_Seg cL_law [(522, .aload_n 0, 1), (523, .iload_n 3, 1), (524, .iconst 1, 1), (525, .iadd, 1), (526, .iaload, 1), (527, .aload_n 0, 1), (528, .iload_n 3, 1), (529, .iconst 2, 1)] := dz_sg _ 522 (by decide +kernel)
theorem dL_law_522 : decode cL_law 522 = .ok (.aload_n 0, 1) := sdL_law_522.1
theorem dL_law_523 : decode cL_law 523 = .ok (.iload_n 3, 1) := sdL_law_522.2.1
theorem dL_law_524 : decode cL_law 524 = .ok (.iconst 1, 1) := sdL_law_522.2.2.1
theorem dL_law_525 : decode cL_law 525 = .ok (.iadd, 1) := sdL_law_522.2.2.2.1
theorem dL_law_526 : decode cL_law 526 = .ok (.iaload, 1) := sdL_law_522.2.2.2.2.1
theorem dL_law_527 : decode cL_law 527 = .ok (.aload_n 0, 1) := sdL_law_522.2.2.2.2.2.1
theorem dL_law_528 : decode cL_law 528 = .ok (.iload_n 3, 1) := sdL_law_522.2.2.2.2.2.2.1
theorem dL_law_529 : decode cL_law 529 = .ok (.iconst 2, 1) := sdL_law_522.2.2.2.2.2.2.2.1
theorem sdL_law_530 : dz_Seg cL_law [(530, .iadd, 1), (531, .iaload, 1), (532, .invokevirtual 53, 3), (535, .pop, 1), (536, .aload_n 2, 1), (537, .aload_n 0, 1), (538, .iload_n 3, 1), (539, .iconst 1, 1)] := dz_sg _ 530 (by decide +kernel)
theorem dL_law_530 : decode cL_law 530 = .ok (.iadd, 1) := sdL_law_530.1
theorem dL_law_531 : decode cL_law 531 = .ok (.iaload, 1) := sdL_law_530.2.1
theorem dL_law_532 : decode cL_law 532 = .ok (.invokevirtual 53, 3) := sdL_law_530.2.2.1
theorem dL_law_535 : decode cL_law 535 = .ok (.pop, 1) := sdL_law_530.2.2.2.1
theorem dL_law_536 : decode cL_law 536 = .ok (.aload_n 2, 1) := sdL_law_530.2.2.2.2.1
theorem dL_law_537 : decode cL_law 537 = .ok (.aload_n 0, 1) := sdL_law_530.2.2.2.2.2.1
theorem dL_law_538 : decode cL_law 538 = .ok (.iload_n 3, 1) := sdL_law_530.2.2.2.2.2.2.1
theorem dL_law_539 : decode cL_law 539 = .ok (.iconst 1, 1) := sdL_law_530.2.2.2.2.2.2.2.1
theorem sdL_law_540 : dz_Seg cL_law [(540, .iadd, 1), (541, .iaload, 1), (542, .aload_n 0, 1), (543, .iload_n 3, 1), (544, .iconst 2, 1), (545, .iadd, 1), (546, .iaload, 1), (547, .invokevirtual 56, 3)] := dz_sg _ 540 (by decide +kernel)
theorem dL_law_540 : decode cL_law 540 = .ok (.iadd, 1) := sdL_law_540.1
theorem dL_law_541 : decode cL_law 541 = .ok (.iaload, 1) := sdL_law_540.2.1
theorem dL_law_542 : decode cL_law 542 = .ok (.aload_n 0, 1) := sdL_law_540.2.2.1
theorem dL_law_543 : decode cL_law 543 = .ok (.iload_n 3, 1) := sdL_law_540.2.2.2.1
theorem dL_law_544 : decode cL_law 544 = .ok (.iconst 2, 1) := sdL_law_540.2.2.2.2.1
theorem dL_law_545 : decode cL_law 545 = .ok (.iadd, 1) := sdL_law_540.2.2.2.2.2.1
theorem dL_law_546 : decode cL_law 546 = .ok (.iaload, 1) := sdL_law_540.2.2.2.2.2.2.1
theorem dL_law_547 : decode cL_law 547 = .ok (.invokevirtual 56, 3) := sdL_law_540.2.2.2.2.2.2.2.1
theorem sdL_law_550 : dz_Seg cL_law [(550, .pop, 1), (551, .goto 1180, 3), (554, .aload_n 1, 1), (555, .aload_n 0, 1), (556, .iload_n 3, 1), (557, .iconst 1, 1), (558, .iadd, 1), (559, .iaload, 1)] := dz_sg _ 550 (by decide +kernel)
theorem dL_law_550 : decode cL_law 550 = .ok (.pop, 1) := sdL_law_550.1
theorem dL_law_551 : decode cL_law 551 = .ok (.goto 1180, 3) := sdL_law_550.2.1
theorem dL_law_554 : decode cL_law 554 = .ok (.aload_n 1, 1) := sdL_law_550.2.2.1
theorem dL_law_555 : decode cL_law 555 = .ok (.aload_n 0, 1) := sdL_law_550.2.2.2.1
theorem dL_law_556 : decode cL_law 556 = .ok (.iload_n 3, 1) := sdL_law_550.2.2.2.2.1
theorem dL_law_557 : decode cL_law 557 = .ok (.iconst 1, 1) := sdL_law_550.2.2.2.2.2.1
theorem dL_law_558 : decode cL_law 558 = .ok (.iadd, 1) := sdL_law_550.2.2.2.2.2.2.1
theorem dL_law_559 : decode cL_law 559 = .ok (.iaload, 1) := sdL_law_550.2.2.2.2.2.2.2.1
theorem sdL_law_560 : dz_Seg cL_law [(560, .aload_n 0, 1), (561, .iload_n 3, 1), (562, .iconst 2, 1), (563, .iadd, 1), (564, .iaload, 1), (565, .invokevirtual 57, 3), (568, .pop, 1), (569, .aload_n 2, 1)] := dz_sg _ 560 (by decide +kernel)
theorem dL_law_560 : decode cL_law 560 = .ok (.aload_n 0, 1) := sdL_law_560.1
theorem dL_law_561 : decode cL_law 561 = .ok (.iload_n 3, 1) := sdL_law_560.2.1
theorem dL_law_562 : decode cL_law 562 = .ok (.iconst 2, 1) := sdL_law_560.2.2.1
theorem dL_law_563 : decode cL_law 563 = .ok (.iadd, 1) := sdL_law_560.2.2.2.1
theorem dL_law_564 : decode cL_law 564 = .ok (.iaload, 1) := sdL_law_560.2.2.2.2.1
theorem dL_law_565 : decode cL_law 565 = .ok (.invokevirtual 57, 3) := sdL_law_560.2.2.2.2.2.1
theorem dL_law_568 : decode cL_law 568 = .ok (.pop, 1) := sdL_law_560.2.2.2.2.2.2.1
theorem dL_law_569 : decode cL_law 569 = .ok (.aload_n 2, 1) := sdL_law_560.2.2.2.2.2.2.2.1
theorem sdL_law_570 : dz_Seg cL_law [(570, .aload_n 0, 1), (571, .iload_n 3, 1), (572, .iconst 1, 1), (573, .iadd, 1), (574, .iaload, 1), (575, .aload_n 0, 1), (576, .iload_n 3, 1), (577, .iconst 2, 1)] := dz_sg _ 570 (by decide +kernel)
theorem dL_law_570 : decode cL_law 570 = .ok (.aload_n 0, 1) := sdL_law_570.1
theorem dL_law_571 : decode cL_law 571 = .ok (.iload_n 3, 1) := sdL_law_570.2.1
theorem dL_law_572 : decode cL_law 572 = .ok (.iconst 1, 1) := sdL_law_570.2.2.1
theorem dL_law_573 : decode cL_law 573 = .ok (.iadd, 1) := sdL_law_570.2.2.2.1
theorem dL_law_574 : decode cL_law 574 = .ok (.iaload, 1) := sdL_law_570.2.2.2.2.1
theorem dL_law_575 : decode cL_law 575 = .ok (.aload_n 0, 1) := sdL_law_570.2.2.2.2.2.1
theorem dL_law_576 : decode cL_law 576 = .ok (.iload_n 3, 1) := sdL_law_570.2.2.2.2.2.2.1
theorem dL_law_577 : decode cL_law 577 = .ok (.iconst 2, 1) := sdL_law_570.2.2.2.2.2.2.2.1
theorem sdL_law_578 : dz_Seg cL_law [(578, .iadd, 1), (579, .iaload, 1), (580, .invokevirtual 60, 3), (583, .pop, 1), (584, .goto 1147, 3), (587, .aload_n 1, 1), (588, .aload_n 0, 1), (589, .iload_n 3, 1)] := dz_sg _ 578 (by decide +kernel)
theorem dL_law_578 : decode cL_law 578 = .ok (.iadd, 1) := sdL_law_578.1
theorem dL_law_579 : decode cL_law 579 = .ok (.iaload, 1) := sdL_law_578.2.1
theorem dL_law_580 : decode cL_law 580 = .ok (.invokevirtual 60, 3) := sdL_law_578.2.2.1
theorem dL_law_583 : decode cL_law 583 = .ok (.pop, 1) := sdL_law_578.2.2.2.1
theorem dL_law_584 : decode cL_law 584 = .ok (.goto 1147, 3) := sdL_law_578.2.2.2.2.1
theorem dL_law_587 : decode cL_law 587 = .ok (.aload_n 1, 1) := sdL_law_578.2.2.2.2.2.1
theorem dL_law_588 : decode cL_law 588 = .ok (.aload_n 0, 1) := sdL_law_578.2.2.2.2.2.2.1
theorem dL_law_589 : decode cL_law 589 = .ok (.iload_n 3, 1) := sdL_law_578.2.2.2.2.2.2.2.1
theorem sdL_law_590 : dz_Seg cL_law [(590, .iconst 1, 1), (591, .iadd, 1), (592, .iaload, 1), (593, .aload_n 0, 1), (594, .iload_n 3, 1), (595, .iconst 2, 1), (596, .iadd, 1), (597, .iaload, 1)] := dz_sg _ 590 (by decide +kernel)
theorem dL_law_590 : decode cL_law 590 = .ok (.iconst 1, 1) := sdL_law_590.1
theorem dL_law_591 : decode cL_law 591 = .ok (.iadd, 1) := sdL_law_590.2.1
theorem dL_law_592 : decode cL_law 592 = .ok (.iaload, 1) := sdL_law_590.2.2.1
theorem dL_law_593 : decode cL_law 593 = .ok (.aload_n 0, 1) := sdL_law_590.2.2.2.1
theorem dL_law_594 : decode cL_law 594 = .ok (.iload_n 3, 1) := sdL_law_590.2.2.2.2.1
theorem dL_law_595 : decode cL_law 595 = .ok (.iconst 2, 1) := sdL_law_590.2.2.2.2.2.1
theorem dL_law_596 : decode cL_law 596 = .ok (.iadd, 1) := sdL_law_590.2.2.2.2.2.2.1
theorem dL_law_597 : decode cL_law 597 = .ok (.iaload, 1) := sdL_law_590.2.2.2.2.2.2.2.1
theorem sdL_law_598 : dz_Seg cL_law [(598, .invokevirtual 61, 3), (601, .pop, 1), (602, .aload_n 2, 1), (603, .aload_n 0, 1), (604, .iload_n 3, 1), (605, .iconst 1, 1), (606, .iadd, 1), (607, .iaload, 1)] := dz_sg _ 598 (by decide +kernel)
theorem dL_law_598 : decode cL_law 598 = .ok (.invokevirtual 61, 3) := sdL_law_598.1
theorem dL_law_601 : decode cL_law 601 = .ok (.pop, 1) := sdL_law_598.2.1
theorem dL_law_602 : decode cL_law 602 = .ok (.aload_n 2, 1) := sdL_law_598.2.2.1
theorem dL_law_603 : decode cL_law 603 = .ok (.aload_n 0, 1) := sdL_law_598.2.2.2.1
theorem dL_law_604 : decode cL_law 604 = .ok (.iload_n 3, 1) := sdL_law_598.2.2.2.2.1
theorem dL_law_605 : decode cL_law 605 = .ok (.iconst 1, 1) := sdL_law_598.2.2.2.2.2.1
theorem dL_law_606 : decode cL_law 606 = .ok (.iadd, 1) := sdL_law_598.2.2.2.2.2.2.1
theorem dL_law_607 : decode cL_law 607 = .ok (.iaload, 1) := sdL_law_598.2.2.2.2.2.2.2.1
theorem sdL_law_608 : dz_Seg cL_law [(608, .aload_n 0, 1), (609, .iload_n 3, 1), (610, .iconst 2, 1), (611, .iadd, 1), (612, .iaload, 1), (613, .invokevirtual 64, 3), (616, .pop, 1), (617, .goto 1114, 3)] := dz_sg _ 608 (by decide +kernel)
theorem dL_law_608 : decode cL_law 608 = .ok (.aload_n 0, 1) := sdL_law_608.1
theorem dL_law_609 : decode cL_law 609 = .ok (.iload_n 3, 1) := sdL_law_608.2.1
theorem dL_law_610 : decode cL_law 610 = .ok (.iconst 2, 1) := sdL_law_608.2.2.1
theorem dL_law_611 : decode cL_law 611 = .ok (.iadd, 1) := sdL_law_608.2.2.2.1
theorem dL_law_612 : decode cL_law 612 = .ok (.iaload, 1) := sdL_law_608.2.2.2.2.1
theorem dL_law_613 : decode cL_law 613 = .ok (.invokevirtual 64, 3) := sdL_law_608.2.2.2.2.2.1
theorem dL_law_616 : decode cL_law 616 = .ok (.pop, 1) := sdL_law_608.2.2.2.2.2.2.1
theorem dL_law_617 : decode cL_law 617 = .ok (.goto 1114, 3) := sdL_law_608.2.2.2.2.2.2.2.1
theorem sdL_law_620 : dz_Seg cL_law [(620, .aload_n 1, 1), (621, .aload_n 0, 1), (622, .iload_n 3, 1), (623, .iconst 1, 1), (624, .iadd, 1), (625, .iaload, 1), (626, .aload_n 0, 1), (627, .iload_n 3, 1)] := dz_sg _ 620 (by decide +kernel)
theorem dL_law_620 : decode cL_law 620 = .ok (.aload_n 1, 1) := sdL_law_620.1
theorem dL_law_621 : decode cL_law 621 = .ok (.aload_n 0, 1) := sdL_law_620.2.1
theorem dL_law_622 : decode cL_law 622 = .ok (.iload_n 3, 1) := sdL_law_620.2.2.1
theorem dL_law_623 : decode cL_law 623 = .ok (.iconst 1, 1) := sdL_law_620.2.2.2.1
theorem dL_law_624 : decode cL_law 624 = .ok (.iadd, 1) := sdL_law_620.2.2.2.2.1
theorem dL_law_625 : decode cL_law 625 = .ok (.iaload, 1) := sdL_law_620.2.2.2.2.2.1
theorem dL_law_626 : decode cL_law 626 = .ok (.aload_n 0, 1) := sdL_law_620.2.2.2.2.2.2.1
theorem dL_law_627 : decode cL_law 627 = .ok (.iload_n 3, 1) := sdL_law_620.2.2.2.2.2.2.2.1
theorem sdL_law_628 : dz_Seg cL_law [(628, .iconst 2, 1), (629, .iadd, 1), (630, .iaload, 1), (631, .invokevirtual 65, 3), (634, .pop, 1), (635, .aload_n 2, 1), (636, .aload_n 0, 1), (637, .iload_n 3, 1)] := dz_sg _ 628 (by decide +kernel)
theorem dL_law_628 : decode cL_law 628 = .ok (.iconst 2, 1) := sdL_law_628.1
theorem dL_law_629 : decode cL_law 629 = .ok (.iadd, 1) := sdL_law_628.2.1
theorem dL_law_630 : decode cL_law 630 = .ok (.iaload, 1) := sdL_law_628.2.2.1
theorem dL_law_631 : decode cL_law 631 = .ok (.invokevirtual 65, 3) := sdL_law_628.2.2.2.1
theorem dL_law_634 : decode cL_law 634 = .ok (.pop, 1) := sdL_law_628.2.2.2.2.1
theorem dL_law_635 : decode cL_law 635 = .ok (.aload_n 2, 1) := sdL_law_628.2.2.2.2.2.1
theorem dL_law_636 : decode cL_law 636 = .ok (.aload_n 0, 1) := sdL_law_628.2.2.2.2.2.2.1
theorem dL_law_637 : decode cL_law 637 = .ok (.iload_n 3, 1) := sdL_law_628.2.2.2.2.2.2.2.1
theorem sdL_law_638 : dz_Seg cL_law [(638, .iconst 1, 1), (639, .iadd, 1), (640, .iaload, 1), (641, .aload_n 0, 1), (642, .iload_n 3, 1), (643, .iconst 2, 1), (644, .iadd, 1), (645, .iaload, 1)] := dz_sg _ 638 (by decide +kernel)
theorem dL_law_638 : decode cL_law 638 = .ok (.iconst 1, 1) := sdL_law_638.1
theorem dL_law_639 : decode cL_law 639 = .ok (.iadd, 1) := sdL_law_638.2.1
theorem dL_law_640 : decode cL_law 640 = .ok (.iaload, 1) := sdL_law_638.2.2.1
theorem dL_law_641 : decode cL_law 641 = .ok (.aload_n 0, 1) := sdL_law_638.2.2.2.1
theorem dL_law_642 : decode cL_law 642 = .ok (.iload_n 3, 1) := sdL_law_638.2.2.2.2.1
theorem dL_law_643 : decode cL_law 643 = .ok (.iconst 2, 1) := sdL_law_638.2.2.2.2.2.1
theorem dL_law_644 : decode cL_law 644 = .ok (.iadd, 1) := sdL_law_638.2.2.2.2.2.2.1
theorem dL_law_645 : decode cL_law 645 = .ok (.iaload, 1) := sdL_law_638.2.2.2.2.2.2.2.1
theorem sdL_law_646 : dz_Seg cL_law [(646, .invokevirtual 68, 3), (649, .pop, 1), (650, .goto 1081, 3), (653, .aload_n 1, 1), (654, .aload_n 0, 1), (655, .iload_n 3, 1), (656, .iconst 1, 1), (657, .iadd, 1)] := dz_sg _ 646 (by decide +kernel)
theorem dL_law_646 : decode cL_law 646 = .ok (.invokevirtual 68, 3) := sdL_law_646.1
theorem dL_law_649 : decode cL_law 649 = .ok (.pop, 1) := sdL_law_646.2.1
theorem dL_law_650 : decode cL_law 650 = .ok (.goto 1081, 3) := sdL_law_646.2.2.1
theorem dL_law_653 : decode cL_law 653 = .ok (.aload_n 1, 1) := sdL_law_646.2.2.2.1
theorem dL_law_654 : decode cL_law 654 = .ok (.aload_n 0, 1) := sdL_law_646.2.2.2.2.1
theorem dL_law_655 : decode cL_law 655 = .ok (.iload_n 3, 1) := sdL_law_646.2.2.2.2.2.1
theorem dL_law_656 : decode cL_law 656 = .ok (.iconst 1, 1) := sdL_law_646.2.2.2.2.2.2.1
theorem dL_law_657 : decode cL_law 657 = .ok (.iadd, 1) := sdL_law_646.2.2.2.2.2.2.2.1
theorem sdL_law_658 : dz_Seg cL_law [(658, .iaload, 1), (659, .aload_n 0, 1), (660, .iload_n 3, 1), (661, .iconst 2, 1), (662, .iadd, 1), (663, .iaload, 1), (664, .invokevirtual 69, 3), (667, .pop, 1)] := dz_sg _ 658 (by decide +kernel)
theorem dL_law_658 : decode cL_law 658 = .ok (.iaload, 1) := sdL_law_658.1
theorem dL_law_659 : decode cL_law 659 = .ok (.aload_n 0, 1) := sdL_law_658.2.1
theorem dL_law_660 : decode cL_law 660 = .ok (.iload_n 3, 1) := sdL_law_658.2.2.1
theorem dL_law_661 : decode cL_law 661 = .ok (.iconst 2, 1) := sdL_law_658.2.2.2.1
theorem dL_law_662 : decode cL_law 662 = .ok (.iadd, 1) := sdL_law_658.2.2.2.2.1
theorem dL_law_663 : decode cL_law 663 = .ok (.iaload, 1) := sdL_law_658.2.2.2.2.2.1
theorem dL_law_664 : decode cL_law 664 = .ok (.invokevirtual 69, 3) := sdL_law_658.2.2.2.2.2.2.1
theorem dL_law_667 : decode cL_law 667 = .ok (.pop, 1) := sdL_law_658.2.2.2.2.2.2.2.1
theorem sdL_law_668 : dz_Seg cL_law [(668, .aload_n 2, 1), (669, .aload_n 0, 1), (670, .iload_n 3, 1), (671, .iconst 1, 1), (672, .iadd, 1), (673, .iaload, 1), (674, .aload_n 0, 1), (675, .iload_n 3, 1)] := dz_sg _ 668 (by decide +kernel)
theorem dL_law_668 : decode cL_law 668 = .ok (.aload_n 2, 1) := sdL_law_668.1
theorem dL_law_669 : decode cL_law 669 = .ok (.aload_n 0, 1) := sdL_law_668.2.1
theorem dL_law_670 : decode cL_law 670 = .ok (.iload_n 3, 1) := sdL_law_668.2.2.1
theorem dL_law_671 : decode cL_law 671 = .ok (.iconst 1, 1) := sdL_law_668.2.2.2.1
theorem dL_law_672 : decode cL_law 672 = .ok (.iadd, 1) := sdL_law_668.2.2.2.2.1
theorem dL_law_673 : decode cL_law 673 = .ok (.iaload, 1) := sdL_law_668.2.2.2.2.2.1
theorem dL_law_674 : decode cL_law 674 = .ok (.aload_n 0, 1) := sdL_law_668.2.2.2.2.2.2.1
theorem dL_law_675 : decode cL_law 675 = .ok (.iload_n 3, 1) := sdL_law_668.2.2.2.2.2.2.2.1
theorem sdL_law_676 : dz_Seg cL_law [(676, .iconst 2, 1), (677, .iadd, 1), (678, .iaload, 1), (679, .invokevirtual 72, 3), (682, .pop, 1), (683, .goto 1048, 3), (686, .aload_n 1, 1), (687, .aload_n 0, 1)] := dz_sg _ 676 (by decide +kernel)
theorem dL_law_676 : decode cL_law 676 = .ok (.iconst 2, 1) := sdL_law_676.1
theorem dL_law_677 : decode cL_law 677 = .ok (.iadd, 1) := sdL_law_676.2.1
theorem dL_law_678 : decode cL_law 678 = .ok (.iaload, 1) := sdL_law_676.2.2.1
theorem dL_law_679 : decode cL_law 679 = .ok (.invokevirtual 72, 3) := sdL_law_676.2.2.2.1
theorem dL_law_682 : decode cL_law 682 = .ok (.pop, 1) := sdL_law_676.2.2.2.2.1
theorem dL_law_683 : decode cL_law 683 = .ok (.goto 1048, 3) := sdL_law_676.2.2.2.2.2.1
theorem dL_law_686 : decode cL_law 686 = .ok (.aload_n 1, 1) := sdL_law_676.2.2.2.2.2.2.1
theorem dL_law_687 : decode cL_law 687 = .ok (.aload_n 0, 1) := sdL_law_676.2.2.2.2.2.2.2.1
theorem sdL_law_688 : dz_Seg cL_law [(688, .iload_n 3, 1), (689, .iconst 1, 1), (690, .iadd, 1), (691, .iaload, 1), (692, .aload_n 0, 1), (693, .iload_n 3, 1), (694, .iconst 2, 1), (695, .iadd, 1)] := dz_sg _ 688 (by decide +kernel)
theorem dL_law_688 : decode cL_law 688 = .ok (.iload_n 3, 1) := sdL_law_688.1
theorem dL_law_689 : decode cL_law 689 = .ok (.iconst 1, 1) := sdL_law_688.2.1
theorem dL_law_690 : decode cL_law 690 = .ok (.iadd, 1) := sdL_law_688.2.2.1
theorem dL_law_691 : decode cL_law 691 = .ok (.iaload, 1) := sdL_law_688.2.2.2.1
theorem dL_law_692 : decode cL_law 692 = .ok (.aload_n 0, 1) := sdL_law_688.2.2.2.2.1
theorem dL_law_693 : decode cL_law 693 = .ok (.iload_n 3, 1) := sdL_law_688.2.2.2.2.2.1
theorem dL_law_694 : decode cL_law 694 = .ok (.iconst 2, 1) := sdL_law_688.2.2.2.2.2.2.1
theorem dL_law_695 : decode cL_law 695 = .ok (.iadd, 1) := sdL_law_688.2.2.2.2.2.2.2.1
theorem sdL_law_696 : dz_Seg cL_law [(696, .iaload, 1), (697, .aload_n 0, 1), (698, .iload_n 3, 1), (699, .iconst 3, 1), (700, .iadd, 1), (701, .iaload, 1), (702, .invokevirtual 73, 3), (705, .pop, 1)] := dz_sg _ 696 (by decide +kernel)
theorem dL_law_696 : decode cL_law 696 = .ok (.iaload, 1) := sdL_law_696.1
theorem dL_law_697 : decode cL_law 697 = .ok (.aload_n 0, 1) := sdL_law_696.2.1
theorem dL_law_698 : decode cL_law 698 = .ok (.iload_n 3, 1) := sdL_law_696.2.2.1
theorem dL_law_699 : decode cL_law 699 = .ok (.iconst 3, 1) := sdL_law_696.2.2.2.1
theorem dL_law_700 : decode cL_law 700 = .ok (.iadd, 1) := sdL_law_696.2.2.2.2.1
theorem dL_law_701 : decode cL_law 701 = .ok (.iaload, 1) := sdL_law_696.2.2.2.2.2.1
theorem dL_law_702 : decode cL_law 702 = .ok (.invokevirtual 73, 3) := sdL_law_696.2.2.2.2.2.2.1
theorem dL_law_705 : decode cL_law 705 = .ok (.pop, 1) := sdL_law_696.2.2.2.2.2.2.2.1
theorem sdL_law_706 : dz_Seg cL_law [(706, .aload_n 2, 1), (707, .aload_n 0, 1), (708, .iload_n 3, 1), (709, .iconst 1, 1), (710, .iadd, 1), (711, .iaload, 1), (712, .aload_n 0, 1), (713, .iload_n 3, 1)] := dz_sg _ 706 (by decide +kernel)
theorem dL_law_706 : decode cL_law 706 = .ok (.aload_n 2, 1) := sdL_law_706.1
theorem dL_law_707 : decode cL_law 707 = .ok (.aload_n 0, 1) := sdL_law_706.2.1
theorem dL_law_708 : decode cL_law 708 = .ok (.iload_n 3, 1) := sdL_law_706.2.2.1
theorem dL_law_709 : decode cL_law 709 = .ok (.iconst 1, 1) := sdL_law_706.2.2.2.1
theorem dL_law_710 : decode cL_law 710 = .ok (.iadd, 1) := sdL_law_706.2.2.2.2.1
theorem dL_law_711 : decode cL_law 711 = .ok (.iaload, 1) := sdL_law_706.2.2.2.2.2.1
theorem dL_law_712 : decode cL_law 712 = .ok (.aload_n 0, 1) := sdL_law_706.2.2.2.2.2.2.1
theorem dL_law_713 : decode cL_law 713 = .ok (.iload_n 3, 1) := sdL_law_706.2.2.2.2.2.2.2.1
theorem sdL_law_714 : dz_Seg cL_law [(714, .iconst 2, 1), (715, .iadd, 1), (716, .iaload, 1), (717, .aload_n 0, 1), (718, .iload_n 3, 1), (719, .iconst 3, 1), (720, .iadd, 1), (721, .iaload, 1)] := dz_sg _ 714 (by decide +kernel)
theorem dL_law_714 : decode cL_law 714 = .ok (.iconst 2, 1) := sdL_law_714.1
theorem dL_law_715 : decode cL_law 715 = .ok (.iadd, 1) := sdL_law_714.2.1
theorem dL_law_716 : decode cL_law 716 = .ok (.iaload, 1) := sdL_law_714.2.2.1
theorem dL_law_717 : decode cL_law 717 = .ok (.aload_n 0, 1) := sdL_law_714.2.2.2.1
theorem dL_law_718 : decode cL_law 718 = .ok (.iload_n 3, 1) := sdL_law_714.2.2.2.2.1
theorem dL_law_719 : decode cL_law 719 = .ok (.iconst 3, 1) := sdL_law_714.2.2.2.2.2.1
theorem dL_law_720 : decode cL_law 720 = .ok (.iadd, 1) := sdL_law_714.2.2.2.2.2.2.1
theorem dL_law_721 : decode cL_law 721 = .ok (.iaload, 1) := sdL_law_714.2.2.2.2.2.2.2.1
theorem sdL_law_722 : dz_Seg cL_law [(722, .invokevirtual 77, 3), (725, .pop, 1), (726, .goto 1005, 3), (729, .aload_n 1, 1), (730, .aload_n 0, 1), (731, .iload_n 3, 1), (732, .iconst 1, 1), (733, .iadd, 1)] := dz_sg _ 722 (by decide +kernel)
theorem dL_law_722 : decode cL_law 722 = .ok (.invokevirtual 77, 3) := sdL_law_722.1
theorem dL_law_725 : decode cL_law 725 = .ok (.pop, 1) := sdL_law_722.2.1
theorem dL_law_726 : decode cL_law 726 = .ok (.goto 1005, 3) := sdL_law_722.2.2.1
theorem dL_law_729 : decode cL_law 729 = .ok (.aload_n 1, 1) := sdL_law_722.2.2.2.1
theorem dL_law_730 : decode cL_law 730 = .ok (.aload_n 0, 1) := sdL_law_722.2.2.2.2.1
theorem dL_law_731 : decode cL_law 731 = .ok (.iload_n 3, 1) := sdL_law_722.2.2.2.2.2.1
theorem dL_law_732 : decode cL_law 732 = .ok (.iconst 1, 1) := sdL_law_722.2.2.2.2.2.2.1
theorem dL_law_733 : decode cL_law 733 = .ok (.iadd, 1) := sdL_law_722.2.2.2.2.2.2.2.1
theorem sdL_law_734 : dz_Seg cL_law [(734, .iaload, 1), (735, .invokevirtual 78, 3), (738, .pop, 1), (739, .aload_n 2, 1), (740, .aload_n 0, 1), (741, .iload_n 3, 1), (742, .iconst 1, 1), (743, .iadd, 1)] := dz_sg _ 734 (by decide +kernel)
theorem dL_law_734 : decode cL_law 734 = .ok (.iaload, 1) := sdL_law_734.1
theorem dL_law_735 : decode cL_law 735 = .ok (.invokevirtual 78, 3) := sdL_law_734.2.1
theorem dL_law_738 : decode cL_law 738 = .ok (.pop, 1) := sdL_law_734.2.2.1
theorem dL_law_739 : decode cL_law 739 = .ok (.aload_n 2, 1) := sdL_law_734.2.2.2.1
theorem dL_law_740 : decode cL_law 740 = .ok (.aload_n 0, 1) := sdL_law_734.2.2.2.2.1
theorem dL_law_741 : decode cL_law 741 = .ok (.iload_n 3, 1) := sdL_law_734.2.2.2.2.2.1
theorem dL_law_742 : decode cL_law 742 = .ok (.iconst 1, 1) := sdL_law_734.2.2.2.2.2.2.1
theorem dL_law_743 : decode cL_law 743 = .ok (.iadd, 1) := sdL_law_734.2.2.2.2.2.2.2.1
theorem sdL_law_744 : dz_Seg cL_law [(744, .iaload, 1), (745, .invokevirtual 81, 3), (748, .pop, 1), (749, .goto 982, 3), (752, .aload_n 1, 1), (753, .aload_n 0, 1), (754, .iload_n 3, 1), (755, .iconst 1, 1)] := dz_sg _ 744 (by decide +kernel)
theorem dL_law_744 : decode cL_law 744 = .ok (.iaload, 1) := sdL_law_744.1
theorem dL_law_745 : decode cL_law 745 = .ok (.invokevirtual 81, 3) := sdL_law_744.2.1
theorem dL_law_748 : decode cL_law 748 = .ok (.pop, 1) := sdL_law_744.2.2.1
theorem dL_law_749 : decode cL_law 749 = .ok (.goto 982, 3) := sdL_law_744.2.2.2.1
theorem dL_law_752 : decode cL_law 752 = .ok (.aload_n 1, 1) := sdL_law_744.2.2.2.2.1
theorem dL_law_753 : decode cL_law 753 = .ok (.aload_n 0, 1) := sdL_law_744.2.2.2.2.2.1
theorem dL_law_754 : decode cL_law 754 = .ok (.iload_n 3, 1) := sdL_law_744.2.2.2.2.2.2.1
theorem dL_law_755 : decode cL_law 755 = .ok (.iconst 1, 1) := sdL_law_744.2.2.2.2.2.2.2.1
theorem sdL_law_756 : dz_Seg cL_law [(756, .iadd, 1), (757, .iaload, 1), (758, .aload_n 0, 1), (759, .iload_n 3, 1), (760, .iconst 2, 1), (761, .iadd, 1), (762, .iaload, 1), (763, .aload_n 0, 1)] := dz_sg _ 756 (by decide +kernel)
theorem dL_law_756 : decode cL_law 756 = .ok (.iadd, 1) := sdL_law_756.1
theorem dL_law_757 : decode cL_law 757 = .ok (.iaload, 1) := sdL_law_756.2.1
theorem dL_law_758 : decode cL_law 758 = .ok (.aload_n 0, 1) := sdL_law_756.2.2.1
theorem dL_law_759 : decode cL_law 759 = .ok (.iload_n 3, 1) := sdL_law_756.2.2.2.1
theorem dL_law_760 : decode cL_law 760 = .ok (.iconst 2, 1) := sdL_law_756.2.2.2.2.1
theorem dL_law_761 : decode cL_law 761 = .ok (.iadd, 1) := sdL_law_756.2.2.2.2.2.1
theorem dL_law_762 : decode cL_law 762 = .ok (.iaload, 1) := sdL_law_756.2.2.2.2.2.2.1
theorem dL_law_763 : decode cL_law 763 = .ok (.aload_n 0, 1) := sdL_law_756.2.2.2.2.2.2.2.1
theorem sdL_law_764 : dz_Seg cL_law [(764, .iload_n 3, 1), (765, .iconst 3, 1), (766, .iadd, 1), (767, .iaload, 1), (768, .invokevirtual 82, 3), (771, .pop, 1), (772, .aload_n 2, 1), (773, .aload_n 0, 1)] := dz_sg _ 764 (by decide +kernel)
theorem dL_law_764 : decode cL_law 764 = .ok (.iload_n 3, 1) := sdL_law_764.1
theorem dL_law_765 : decode cL_law 765 = .ok (.iconst 3, 1) := sdL_law_764.2.1
theorem dL_law_766 : decode cL_law 766 = .ok (.iadd, 1) := sdL_law_764.2.2.1
theorem dL_law_767 : decode cL_law 767 = .ok (.iaload, 1) := sdL_law_764.2.2.2.1
theorem dL_law_768 : decode cL_law 768 = .ok (.invokevirtual 82, 3) := sdL_law_764.2.2.2.2.1
theorem dL_law_771 : decode cL_law 771 = .ok (.pop, 1) := sdL_law_764.2.2.2.2.2.1
theorem dL_law_772 : decode cL_law 772 = .ok (.aload_n 2, 1) := sdL_law_764.2.2.2.2.2.2.1
theorem dL_law_773 : decode cL_law 773 = .ok (.aload_n 0, 1) := sdL_law_764.2.2.2.2.2.2.2.1
theorem sdL_law_774 : dz_Seg cL_law [(774, .iload_n 3, 1), (775, .iconst 1, 1), (776, .iadd, 1), (777, .iaload, 1), (778, .aload_n 0, 1), (779, .iload_n 3, 1), (780, .iconst 2, 1), (781, .iadd, 1)] := dz_sg _ 774 (by decide +kernel)
theorem dL_law_774 : decode cL_law 774 = .ok (.iload_n 3, 1) := sdL_law_774.1
theorem dL_law_775 : decode cL_law 775 = .ok (.iconst 1, 1) := sdL_law_774.2.1
theorem dL_law_776 : decode cL_law 776 = .ok (.iadd, 1) := sdL_law_774.2.2.1
theorem dL_law_777 : decode cL_law 777 = .ok (.iaload, 1) := sdL_law_774.2.2.2.1
theorem dL_law_778 : decode cL_law 778 = .ok (.aload_n 0, 1) := sdL_law_774.2.2.2.2.1
theorem dL_law_779 : decode cL_law 779 = .ok (.iload_n 3, 1) := sdL_law_774.2.2.2.2.2.1
theorem dL_law_780 : decode cL_law 780 = .ok (.iconst 2, 1) := sdL_law_774.2.2.2.2.2.2.1
theorem dL_law_781 : decode cL_law 781 = .ok (.iadd, 1) := sdL_law_774.2.2.2.2.2.2.2.1
theorem sdL_law_782 : dz_Seg cL_law [(782, .iaload, 1), (783, .aload_n 0, 1), (784, .iload_n 3, 1), (785, .iconst 3, 1), (786, .iadd, 1), (787, .iaload, 1), (788, .invokevirtual 85, 3), (791, .pop, 1)] := dz_sg _ 782 (by decide +kernel)
theorem dL_law_782 : decode cL_law 782 = .ok (.iaload, 1) := sdL_law_782.1
theorem dL_law_783 : decode cL_law 783 = .ok (.aload_n 0, 1) := sdL_law_782.2.1
theorem dL_law_784 : decode cL_law 784 = .ok (.iload_n 3, 1) := sdL_law_782.2.2.1
theorem dL_law_785 : decode cL_law 785 = .ok (.iconst 3, 1) := sdL_law_782.2.2.2.1
theorem dL_law_786 : decode cL_law 786 = .ok (.iadd, 1) := sdL_law_782.2.2.2.2.1
theorem dL_law_787 : decode cL_law 787 = .ok (.iaload, 1) := sdL_law_782.2.2.2.2.2.1
theorem dL_law_788 : decode cL_law 788 = .ok (.invokevirtual 85, 3) := sdL_law_782.2.2.2.2.2.2.1
theorem dL_law_791 : decode cL_law 791 = .ok (.pop, 1) := sdL_law_782.2.2.2.2.2.2.2.1
theorem sdL_law_792 : dz_Seg cL_law [(792, .goto 939, 3), (795, .aload_n 1, 1), (796, .aload_n 0, 1), (797, .iload_n 3, 1), (798, .iconst 1, 1), (799, .iadd, 1), (800, .iaload, 1), (801, .aload_n 0, 1)] := dz_sg _ 792 (by decide +kernel)
theorem dL_law_792 : decode cL_law 792 = .ok (.goto 939, 3) := sdL_law_792.1
theorem dL_law_795 : decode cL_law 795 = .ok (.aload_n 1, 1) := sdL_law_792.2.1
theorem dL_law_796 : decode cL_law 796 = .ok (.aload_n 0, 1) := sdL_law_792.2.2.1
theorem dL_law_797 : decode cL_law 797 = .ok (.iload_n 3, 1) := sdL_law_792.2.2.2.1
theorem dL_law_798 : decode cL_law 798 = .ok (.iconst 1, 1) := sdL_law_792.2.2.2.2.1
theorem dL_law_799 : decode cL_law 799 = .ok (.iadd, 1) := sdL_law_792.2.2.2.2.2.1
theorem dL_law_800 : decode cL_law 800 = .ok (.iaload, 1) := sdL_law_792.2.2.2.2.2.2.1
theorem dL_law_801 : decode cL_law 801 = .ok (.aload_n 0, 1) := sdL_law_792.2.2.2.2.2.2.2.1
theorem sdL_law_802 : dz_Seg cL_law [(802, .iload_n 3, 1), (803, .iconst 2, 1), (804, .iadd, 1), (805, .iaload, 1), (806, .aload_n 0, 1), (807, .iload_n 3, 1), (808, .iconst 3, 1), (809, .iadd, 1)] := dz_sg _ 802 (by decide +kernel)
theorem dL_law_802 : decode cL_law 802 = .ok (.iload_n 3, 1) := sdL_law_802.1
theorem dL_law_803 : decode cL_law 803 = .ok (.iconst 2, 1) := sdL_law_802.2.1
theorem dL_law_804 : decode cL_law 804 = .ok (.iadd, 1) := sdL_law_802.2.2.1
theorem dL_law_805 : decode cL_law 805 = .ok (.iaload, 1) := sdL_law_802.2.2.2.1
theorem dL_law_806 : decode cL_law 806 = .ok (.aload_n 0, 1) := sdL_law_802.2.2.2.2.1
theorem dL_law_807 : decode cL_law 807 = .ok (.iload_n 3, 1) := sdL_law_802.2.2.2.2.2.1
theorem dL_law_808 : decode cL_law 808 = .ok (.iconst 3, 1) := sdL_law_802.2.2.2.2.2.2.1
theorem dL_law_809 : decode cL_law 809 = .ok (.iadd, 1) := sdL_law_802.2.2.2.2.2.2.2.1
theorem sdL_law_810 : dz_Seg cL_law [(810, .iaload, 1), (811, .invokevirtual 86, 3), (814, .pop, 1), (815, .aload_n 2, 1), (816, .aload_n 0, 1), (817, .iload_n 3, 1), (818, .iconst 1, 1), (819, .iadd, 1)] := dz_sg _ 810 (by decide +kernel)
theorem dL_law_810 : decode cL_law 810 = .ok (.iaload, 1) := sdL_law_810.1
theorem dL_law_811 : decode cL_law 811 = .ok (.invokevirtual 86, 3) := sdL_law_810.2.1
theorem dL_law_814 : decode cL_law 814 = .ok (.pop, 1) := sdL_law_810.2.2.1
theorem dL_law_815 : decode cL_law 815 = .ok (.aload_n 2, 1) := sdL_law_810.2.2.2.1
theorem dL_law_816 : decode cL_law 816 = .ok (.aload_n 0, 1) := sdL_law_810.2.2.2.2.1
theorem dL_law_817 : decode cL_law 817 = .ok (.iload_n 3, 1) := sdL_law_810.2.2.2.2.2.1
theorem dL_law_818 : decode cL_law 818 = .ok (.iconst 1, 1) := sdL_law_810.2.2.2.2.2.2.1
theorem dL_law_819 : decode cL_law 819 = .ok (.iadd, 1) := sdL_law_810.2.2.2.2.2.2.2.1
theorem sdL_law_820 : dz_Seg cL_law [(820, .iaload, 1), (821, .aload_n 0, 1), (822, .iload_n 3, 1), (823, .iconst 2, 1), (824, .iadd, 1), (825, .iaload, 1), (826, .aload_n 0, 1), (827, .iload_n 3, 1)] := dz_sg _ 820 (by decide +kernel)
theorem dL_law_820 : decode cL_law 820 = .ok (.iaload, 1) := sdL_law_820.1
theorem dL_law_821 : decode cL_law 821 = .ok (.aload_n 0, 1) := sdL_law_820.2.1
theorem dL_law_822 : decode cL_law 822 = .ok (.iload_n 3, 1) := sdL_law_820.2.2.1
theorem dL_law_823 : decode cL_law 823 = .ok (.iconst 2, 1) := sdL_law_820.2.2.2.1
theorem dL_law_824 : decode cL_law 824 = .ok (.iadd, 1) := sdL_law_820.2.2.2.2.1
theorem dL_law_825 : decode cL_law 825 = .ok (.iaload, 1) := sdL_law_820.2.2.2.2.2.1
theorem dL_law_826 : decode cL_law 826 = .ok (.aload_n 0, 1) := sdL_law_820.2.2.2.2.2.2.1
theorem dL_law_827 : decode cL_law 827 = .ok (.iload_n 3, 1) := sdL_law_820.2.2.2.2.2.2.2.1
theorem sdL_law_828 : dz_Seg cL_law [(828, .iconst 3, 1), (829, .iadd, 1), (830, .iaload, 1), (831, .invokevirtual 89, 3), (834, .pop, 1), (835, .goto 896, 3), (838, .aload_n 1, 1), (839, .aload_n 0, 1)] := dz_sg _ 828 (by decide +kernel)
theorem dL_law_828 : decode cL_law 828 = .ok (.iconst 3, 1) := sdL_law_828.1
theorem dL_law_829 : decode cL_law 829 = .ok (.iadd, 1) := sdL_law_828.2.1
theorem dL_law_830 : decode cL_law 830 = .ok (.iaload, 1) := sdL_law_828.2.2.1
theorem dL_law_831 : decode cL_law 831 = .ok (.invokevirtual 89, 3) := sdL_law_828.2.2.2.1
theorem dL_law_834 : decode cL_law 834 = .ok (.pop, 1) := sdL_law_828.2.2.2.2.1
theorem dL_law_835 : decode cL_law 835 = .ok (.goto 896, 3) := sdL_law_828.2.2.2.2.2.1
theorem dL_law_838 : decode cL_law 838 = .ok (.aload_n 1, 1) := sdL_law_828.2.2.2.2.2.2.1
theorem dL_law_839 : decode cL_law 839 = .ok (.aload_n 0, 1) := sdL_law_828.2.2.2.2.2.2.2.1
theorem sdL_law_840 : dz_Seg cL_law [(840, .iload_n 3, 1), (841, .iconst 1, 1), (842, .iadd, 1), (843, .iaload, 1), (844, .aload_n 0, 1), (845, .iload_n 3, 1), (846, .iconst 2, 1), (847, .iadd, 1)] := dz_sg _ 840 (by decide +kernel)
theorem dL_law_840 : decode cL_law 840 = .ok (.iload_n 3, 1) := sdL_law_840.1
theorem dL_law_841 : decode cL_law 841 = .ok (.iconst 1, 1) := sdL_law_840.2.1
theorem dL_law_842 : decode cL_law 842 = .ok (.iadd, 1) := sdL_law_840.2.2.1
theorem dL_law_843 : decode cL_law 843 = .ok (.iaload, 1) := sdL_law_840.2.2.2.1
theorem dL_law_844 : decode cL_law 844 = .ok (.aload_n 0, 1) := sdL_law_840.2.2.2.2.1
theorem dL_law_845 : decode cL_law 845 = .ok (.iload_n 3, 1) := sdL_law_840.2.2.2.2.2.1
theorem dL_law_846 : decode cL_law 846 = .ok (.iconst 2, 1) := sdL_law_840.2.2.2.2.2.2.1
theorem dL_law_847 : decode cL_law 847 = .ok (.iadd, 1) := sdL_law_840.2.2.2.2.2.2.2.1
theorem sdL_law_848 : dz_Seg cL_law [(848, .iaload, 1), (849, .invokevirtual 90, 3), (852, .pop, 1), (853, .aload_n 2, 1), (854, .aload_n 0, 1), (855, .iload_n 3, 1), (856, .iconst 1, 1), (857, .iadd, 1)] := dz_sg _ 848 (by decide +kernel)
theorem dL_law_848 : decode cL_law 848 = .ok (.iaload, 1) := sdL_law_848.1
theorem dL_law_849 : decode cL_law 849 = .ok (.invokevirtual 90, 3) := sdL_law_848.2.1
theorem dL_law_852 : decode cL_law 852 = .ok (.pop, 1) := sdL_law_848.2.2.1
theorem dL_law_853 : decode cL_law 853 = .ok (.aload_n 2, 1) := sdL_law_848.2.2.2.1
theorem dL_law_854 : decode cL_law 854 = .ok (.aload_n 0, 1) := sdL_law_848.2.2.2.2.1
theorem dL_law_855 : decode cL_law 855 = .ok (.iload_n 3, 1) := sdL_law_848.2.2.2.2.2.1
theorem dL_law_856 : decode cL_law 856 = .ok (.iconst 1, 1) := sdL_law_848.2.2.2.2.2.2.1
theorem dL_law_857 : decode cL_law 857 = .ok (.iadd, 1) := sdL_law_848.2.2.2.2.2.2.2.1
theorem sdL_law_858 : dz_Seg cL_law [(858, .iaload, 1), (859, .aload_n 0, 1), (860, .iload_n 3, 1), (861, .iconst 2, 1), (862, .iadd, 1), (863, .iaload, 1), (864, .invokevirtual 93, 3), (867, .pop, 1)] := dz_sg _ 858 (by decide +kernel)
theorem dL_law_858 : decode cL_law 858 = .ok (.iaload, 1) := sdL_law_858.1
theorem dL_law_859 : decode cL_law 859 = .ok (.aload_n 0, 1) := sdL_law_858.2.1
theorem dL_law_860 : decode cL_law 860 = .ok (.iload_n 3, 1) := sdL_law_858.2.2.1
theorem dL_law_861 : decode cL_law 861 = .ok (.iconst 2, 1) := sdL_law_858.2.2.2.1
theorem dL_law_862 : decode cL_law 862 = .ok (.iadd, 1) := sdL_law_858.2.2.2.2.1
theorem dL_law_863 : decode cL_law 863 = .ok (.iaload, 1) := sdL_law_858.2.2.2.2.2.1
theorem dL_law_864 : decode cL_law 864 = .ok (.invokevirtual 93, 3) := sdL_law_858.2.2.2.2.2.2.1
theorem dL_law_867 : decode cL_law 867 = .ok (.pop, 1) := sdL_law_858.2.2.2.2.2.2.2.1
theorem sdL_law_868 : dz_Seg cL_law [(868, .goto 863, 3), (871, .aload_n 1, 1), (872, .aload_n 0, 1), (873, .iload_n 3, 1), (874, .iconst 1, 1), (875, .iadd, 1), (876, .iaload, 1), (877, .aload_n 0, 1)] := dz_sg _ 868 (by decide +kernel)
theorem dL_law_868 : decode cL_law 868 = .ok (.goto 863, 3) := sdL_law_868.1
theorem dL_law_871 : decode cL_law 871 = .ok (.aload_n 1, 1) := sdL_law_868.2.1
theorem dL_law_872 : decode cL_law 872 = .ok (.aload_n 0, 1) := sdL_law_868.2.2.1
theorem dL_law_873 : decode cL_law 873 = .ok (.iload_n 3, 1) := sdL_law_868.2.2.2.1
theorem dL_law_874 : decode cL_law 874 = .ok (.iconst 1, 1) := sdL_law_868.2.2.2.2.1
theorem dL_law_875 : decode cL_law 875 = .ok (.iadd, 1) := sdL_law_868.2.2.2.2.2.1
theorem dL_law_876 : decode cL_law 876 = .ok (.iaload, 1) := sdL_law_868.2.2.2.2.2.2.1
theorem dL_law_877 : decode cL_law 877 = .ok (.aload_n 0, 1) := sdL_law_868.2.2.2.2.2.2.2.1
theorem sdL_law_878 : dz_Seg cL_law [(878, .iload_n 3, 1), (879, .iconst 2, 1), (880, .iadd, 1), (881, .iaload, 1), (882, .invokevirtual 94, 3), (885, .pop, 1), (886, .aload_n 2, 1), (887, .aload_n 0, 1)] := dz_sg _ 878 (by decide +kernel)
theorem dL_law_878 : decode cL_law 878 = .ok (.iload_n 3, 1) := sdL_law_878.1
theorem dL_law_879 : decode cL_law 879 = .ok (.iconst 2, 1) := sdL_law_878.2.1
theorem dL_law_880 : decode cL_law 880 = .ok (.iadd, 1) := sdL_law_878.2.2.1
theorem dL_law_881 : decode cL_law 881 = .ok (.iaload, 1) := sdL_law_878.2.2.2.1
theorem dL_law_882 : decode cL_law 882 = .ok (.invokevirtual 94, 3) := sdL_law_878.2.2.2.2.1
theorem dL_law_885 : decode cL_law 885 = .ok (.pop, 1) := sdL_law_878.2.2.2.2.2.1
theorem dL_law_886 : decode cL_law 886 = .ok (.aload_n 2, 1) := sdL_law_878.2.2.2.2.2.2.1
theorem dL_law_887 : decode cL_law 887 = .ok (.aload_n 0, 1) := sdL_law_878.2.2.2.2.2.2.2.1
theorem sdL_law_888 : dz_Seg cL_law [(888, .iload_n 3, 1), (889, .iconst 1, 1), (890, .iadd, 1), (891, .iaload, 1), (892, .aload_n 0, 1), (893, .iload_n 3, 1), (894, .iconst 2, 1), (895, .iadd, 1)] := dz_sg _ 888 (by decide +kernel)
theorem dL_law_888 : decode cL_law 888 = .ok (.iload_n 3, 1) := sdL_law_888.1
theorem dL_law_889 : decode cL_law 889 = .ok (.iconst 1, 1) := sdL_law_888.2.1
theorem dL_law_890 : decode cL_law 890 = .ok (.iadd, 1) := sdL_law_888.2.2.1
theorem dL_law_891 : decode cL_law 891 = .ok (.iaload, 1) := sdL_law_888.2.2.2.1
theorem dL_law_892 : decode cL_law 892 = .ok (.aload_n 0, 1) := sdL_law_888.2.2.2.2.1
theorem dL_law_893 : decode cL_law 893 = .ok (.iload_n 3, 1) := sdL_law_888.2.2.2.2.2.1
theorem dL_law_894 : decode cL_law 894 = .ok (.iconst 2, 1) := sdL_law_888.2.2.2.2.2.2.1
theorem dL_law_895 : decode cL_law 895 = .ok (.iadd, 1) := sdL_law_888.2.2.2.2.2.2.2.1
theorem sdL_law_896 : dz_Seg cL_law [(896, .iaload, 1), (897, .invokevirtual 97, 3), (900, .pop, 1), (901, .goto 830, 3), (904, .aload_n 1, 1), (905, .aload_n 0, 1), (906, .iload_n 3, 1), (907, .iconst 1, 1)] := dz_sg _ 896 (by decide +kernel)
theorem dL_law_896 : decode cL_law 896 = .ok (.iaload, 1) := sdL_law_896.1
theorem dL_law_897 : decode cL_law 897 = .ok (.invokevirtual 97, 3) := sdL_law_896.2.1
theorem dL_law_900 : decode cL_law 900 = .ok (.pop, 1) := sdL_law_896.2.2.1
theorem dL_law_901 : decode cL_law 901 = .ok (.goto 830, 3) := sdL_law_896.2.2.2.1
theorem dL_law_904 : decode cL_law 904 = .ok (.aload_n 1, 1) := sdL_law_896.2.2.2.2.1
theorem dL_law_905 : decode cL_law 905 = .ok (.aload_n 0, 1) := sdL_law_896.2.2.2.2.2.1
theorem dL_law_906 : decode cL_law 906 = .ok (.iload_n 3, 1) := sdL_law_896.2.2.2.2.2.2.1
theorem dL_law_907 : decode cL_law 907 = .ok (.iconst 1, 1) := sdL_law_896.2.2.2.2.2.2.2.1
theorem sdL_law_908 : dz_Seg cL_law [(908, .iadd, 1), (909, .iaload, 1), (910, .aload_n 0, 1), (911, .iload_n 3, 1), (912, .iconst 2, 1), (913, .iadd, 1), (914, .iaload, 1), (915, .invokevirtual 98, 3)] := dz_sg _ 908 (by decide +kernel)
theorem dL_law_908 : decode cL_law 908 = .ok (.iadd, 1) := sdL_law_908.1
theorem dL_law_909 : decode cL_law 909 = .ok (.iaload, 1) := sdL_law_908.2.1
theorem dL_law_910 : decode cL_law 910 = .ok (.aload_n 0, 1) := sdL_law_908.2.2.1
theorem dL_law_911 : decode cL_law 911 = .ok (.iload_n 3, 1) := sdL_law_908.2.2.2.1
theorem dL_law_912 : decode cL_law 912 = .ok (.iconst 2, 1) := sdL_law_908.2.2.2.2.1
theorem dL_law_913 : decode cL_law 913 = .ok (.iadd, 1) := sdL_law_908.2.2.2.2.2.1
theorem dL_law_914 : decode cL_law 914 = .ok (.iaload, 1) := sdL_law_908.2.2.2.2.2.2.1
theorem dL_law_915 : decode cL_law 915 = .ok (.invokevirtual 98, 3) := sdL_law_908.2.2.2.2.2.2.2.1
theorem sdL_law_918 : dz_Seg cL_law [(918, .pop, 1), (919, .aload_n 2, 1), (920, .aload_n 0, 1), (921, .iload_n 3, 1), (922, .iconst 1, 1), (923, .iadd, 1), (924, .iaload, 1), (925, .aload_n 0, 1)] := dz_sg _ 918 (by decide +kernel)
theorem dL_law_918 : decode cL_law 918 = .ok (.pop, 1) := sdL_law_918.1
theorem dL_law_919 : decode cL_law 919 = .ok (.aload_n 2, 1) := sdL_law_918.2.1
theorem dL_law_920 : decode cL_law 920 = .ok (.aload_n 0, 1) := sdL_law_918.2.2.1
theorem dL_law_921 : decode cL_law 921 = .ok (.iload_n 3, 1) := sdL_law_918.2.2.2.1
theorem dL_law_922 : decode cL_law 922 = .ok (.iconst 1, 1) := sdL_law_918.2.2.2.2.1
theorem dL_law_923 : decode cL_law 923 = .ok (.iadd, 1) := sdL_law_918.2.2.2.2.2.1
theorem dL_law_924 : decode cL_law 924 = .ok (.iaload, 1) := sdL_law_918.2.2.2.2.2.2.1
theorem dL_law_925 : decode cL_law 925 = .ok (.aload_n 0, 1) := sdL_law_918.2.2.2.2.2.2.2.1
theorem sdL_law_926 : dz_Seg cL_law [(926, .iload_n 3, 1), (927, .iconst 2, 1), (928, .iadd, 1), (929, .iaload, 1), (930, .invokevirtual 101, 3), (933, .pop, 1), (934, .goto 797, 3), (937, .aload_n 1, 1)] := dz_sg _ 926 (by decide +kernel)
theorem dL_law_926 : decode cL_law 926 = .ok (.iload_n 3, 1) := sdL_law_926.1
theorem dL_law_927 : decode cL_law 927 = .ok (.iconst 2, 1) := sdL_law_926.2.1
theorem dL_law_928 : decode cL_law 928 = .ok (.iadd, 1) := sdL_law_926.2.2.1
theorem dL_law_929 : decode cL_law 929 = .ok (.iaload, 1) := sdL_law_926.2.2.2.1
theorem dL_law_930 : decode cL_law 930 = .ok (.invokevirtual 101, 3) := sdL_law_926.2.2.2.2.1
theorem dL_law_933 : decode cL_law 933 = .ok (.pop, 1) := sdL_law_926.2.2.2.2.2.1
theorem dL_law_934 : decode cL_law 934 = .ok (.goto 797, 3) := sdL_law_926.2.2.2.2.2.2.1
theorem dL_law_937 : decode cL_law 937 = .ok (.aload_n 1, 1) := sdL_law_926.2.2.2.2.2.2.2.1
theorem sdL_law_938 : dz_Seg cL_law [(938, .aload_n 0, 1), (939, .iload_n 3, 1), (940, .iconst 1, 1), (941, .iadd, 1), (942, .iaload, 1), (943, .aload_n 0, 1), (944, .iload_n 3, 1), (945, .iconst 2, 1)] := dz_sg _ 938 (by decide +kernel)
theorem dL_law_938 : decode cL_law 938 = .ok (.aload_n 0, 1) := sdL_law_938.1
theorem dL_law_939 : decode cL_law 939 = .ok (.iload_n 3, 1) := sdL_law_938.2.1
theorem dL_law_940 : decode cL_law 940 = .ok (.iconst 1, 1) := sdL_law_938.2.2.1
theorem dL_law_941 : decode cL_law 941 = .ok (.iadd, 1) := sdL_law_938.2.2.2.1
theorem dL_law_942 : decode cL_law 942 = .ok (.iaload, 1) := sdL_law_938.2.2.2.2.1
theorem dL_law_943 : decode cL_law 943 = .ok (.aload_n 0, 1) := sdL_law_938.2.2.2.2.2.1
theorem dL_law_944 : decode cL_law 944 = .ok (.iload_n 3, 1) := sdL_law_938.2.2.2.2.2.2.1
theorem dL_law_945 : decode cL_law 945 = .ok (.iconst 2, 1) := sdL_law_938.2.2.2.2.2.2.2.1
theorem sdL_law_946 : dz_Seg cL_law [(946, .iadd, 1), (947, .iaload, 1), (948, .invokevirtual 102, 3), (951, .pop, 1), (952, .aload_n 2, 1), (953, .aload_n 0, 1), (954, .iload_n 3, 1), (955, .iconst 1, 1)] := dz_sg _ 946 (by decide +kernel)
theorem dL_law_946 : decode cL_law 946 = .ok (.iadd, 1) := sdL_law_946.1
theorem dL_law_947 : decode cL_law 947 = .ok (.iaload, 1) := sdL_law_946.2.1
theorem dL_law_948 : decode cL_law 948 = .ok (.invokevirtual 102, 3) := sdL_law_946.2.2.1
theorem dL_law_951 : decode cL_law 951 = .ok (.pop, 1) := sdL_law_946.2.2.2.1
theorem dL_law_952 : decode cL_law 952 = .ok (.aload_n 2, 1) := sdL_law_946.2.2.2.2.1
theorem dL_law_953 : decode cL_law 953 = .ok (.aload_n 0, 1) := sdL_law_946.2.2.2.2.2.1
theorem dL_law_954 : decode cL_law 954 = .ok (.iload_n 3, 1) := sdL_law_946.2.2.2.2.2.2.1
theorem dL_law_955 : decode cL_law 955 = .ok (.iconst 1, 1) := sdL_law_946.2.2.2.2.2.2.2.1
theorem sdL_law_956 : dz_Seg cL_law [(956, .iadd, 1), (957, .iaload, 1), (958, .aload_n 0, 1), (959, .iload_n 3, 1), (960, .iconst 2, 1), (961, .iadd, 1), (962, .iaload, 1), (963, .invokevirtual 105, 3)] := dz_sg _ 956 (by decide +kernel)
theorem dL_law_956 : decode cL_law 956 = .ok (.iadd, 1) := sdL_law_956.1
theorem dL_law_957 : decode cL_law 957 = .ok (.iaload, 1) := sdL_law_956.2.1
theorem dL_law_958 : decode cL_law 958 = .ok (.aload_n 0, 1) := sdL_law_956.2.2.1
theorem dL_law_959 : decode cL_law 959 = .ok (.iload_n 3, 1) := sdL_law_956.2.2.2.1
theorem dL_law_960 : decode cL_law 960 = .ok (.iconst 2, 1) := sdL_law_956.2.2.2.2.1
theorem dL_law_961 : decode cL_law 961 = .ok (.iadd, 1) := sdL_law_956.2.2.2.2.2.1
theorem dL_law_962 : decode cL_law 962 = .ok (.iaload, 1) := sdL_law_956.2.2.2.2.2.2.1
theorem dL_law_963 : decode cL_law 963 = .ok (.invokevirtual 105, 3) := sdL_law_956.2.2.2.2.2.2.2.1
theorem sdL_law_966 : dz_Seg cL_law [(966, .pop, 1), (967, .goto 764, 3), (970, .aload_n 1, 1), (971, .aload_n 0, 1), (972, .iload_n 3, 1), (973, .iconst 1, 1), (974, .iadd, 1), (975, .iaload, 1)] := dz_sg _ 966 (by decide +kernel)
theorem dL_law_966 : decode cL_law 966 = .ok (.pop, 1) := sdL_law_966.1
theorem dL_law_967 : decode cL_law 967 = .ok (.goto 764, 3) := sdL_law_966.2.1
theorem dL_law_970 : decode cL_law 970 = .ok (.aload_n 1, 1) := sdL_law_966.2.2.1
theorem dL_law_971 : decode cL_law 971 = .ok (.aload_n 0, 1) := sdL_law_966.2.2.2.1
theorem dL_law_972 : decode cL_law 972 = .ok (.iload_n 3, 1) := sdL_law_966.2.2.2.2.1
theorem dL_law_973 : decode cL_law 973 = .ok (.iconst 1, 1) := sdL_law_966.2.2.2.2.2.1
theorem dL_law_974 : decode cL_law 974 = .ok (.iadd, 1) := sdL_law_966.2.2.2.2.2.2.1
theorem dL_law_975 : decode cL_law 975 = .ok (.iaload, 1) := sdL_law_966.2.2.2.2.2.2.2.1
theorem sdL_law_976 : dz_Seg cL_law [(976, .aload_n 0, 1), (977, .iload_n 3, 1), (978, .iconst 2, 1), (979, .iadd, 1), (980, .iaload, 1), (981, .invokevirtual 106, 3), (984, .pop2, 1), (985, .aload_n 2, 1)] := dz_sg _ 976 (by decide +kernel)
theorem dL_law_976 : decode cL_law 976 = .ok (.aload_n 0, 1) := sdL_law_976.1
theorem dL_law_977 : decode cL_law 977 = .ok (.iload_n 3, 1) := sdL_law_976.2.1
theorem dL_law_978 : decode cL_law 978 = .ok (.iconst 2, 1) := sdL_law_976.2.2.1
theorem dL_law_979 : decode cL_law 979 = .ok (.iadd, 1) := sdL_law_976.2.2.2.1
theorem dL_law_980 : decode cL_law 980 = .ok (.iaload, 1) := sdL_law_976.2.2.2.2.1
theorem dL_law_981 : decode cL_law 981 = .ok (.invokevirtual 106, 3) := sdL_law_976.2.2.2.2.2.1
theorem dL_law_984 : decode cL_law 984 = .ok (.pop2, 1) := sdL_law_976.2.2.2.2.2.2.1
theorem dL_law_985 : decode cL_law 985 = .ok (.aload_n 2, 1) := sdL_law_976.2.2.2.2.2.2.2.1
theorem sdL_law_986 : dz_Seg cL_law [(986, .aload_n 0, 1), (987, .iload_n 3, 1), (988, .iconst 1, 1), (989, .iadd, 1), (990, .iaload, 1), (991, .aload_n 0, 1), (992, .iload_n 3, 1), (993, .iconst 2, 1)] := dz_sg _ 986 (by decide +kernel)
theorem dL_law_986 : decode cL_law 986 = .ok (.aload_n 0, 1) := sdL_law_986.1
theorem dL_law_987 : decode cL_law 987 = .ok (.iload_n 3, 1) := sdL_law_986.2.1
theorem dL_law_988 : decode cL_law 988 = .ok (.iconst 1, 1) := sdL_law_986.2.2.1
theorem dL_law_989 : decode cL_law 989 = .ok (.iadd, 1) := sdL_law_986.2.2.2.1
theorem dL_law_990 : decode cL_law 990 = .ok (.iaload, 1) := sdL_law_986.2.2.2.2.1
theorem dL_law_991 : decode cL_law 991 = .ok (.aload_n 0, 1) := sdL_law_986.2.2.2.2.2.1
theorem dL_law_992 : decode cL_law 992 = .ok (.iload_n 3, 1) := sdL_law_986.2.2.2.2.2.2.1
theorem dL_law_993 : decode cL_law 993 = .ok (.iconst 2, 1) := sdL_law_986.2.2.2.2.2.2.2.1
theorem sdL_law_994 : dz_Seg cL_law [(994, .iadd, 1), (995, .iaload, 1), (996, .invokevirtual 110, 3), (999, .pop2, 1), (1000, .goto 731, 3), (1003, .aload_n 1, 1), (1004, .aload_n 0, 1), (1005, .iload_n 3, 1)] := dz_sg _ 994 (by decide +kernel)
theorem dL_law_994 : decode cL_law 994 = .ok (.iadd, 1) := sdL_law_994.1
theorem dL_law_995 : decode cL_law 995 = .ok (.iaload, 1) := sdL_law_994.2.1
theorem dL_law_996 : decode cL_law 996 = .ok (.invokevirtual 110, 3) := sdL_law_994.2.2.1
theorem dL_law_999 : decode cL_law 999 = .ok (.pop2, 1) := sdL_law_994.2.2.2.1
theorem dL_law_1000 : decode cL_law 1000 = .ok (.goto 731, 3) := sdL_law_994.2.2.2.2.1
theorem dL_law_1003 : decode cL_law 1003 = .ok (.aload_n 1, 1) := sdL_law_994.2.2.2.2.2.1
theorem dL_law_1004 : decode cL_law 1004 = .ok (.aload_n 0, 1) := sdL_law_994.2.2.2.2.2.2.1
theorem dL_law_1005 : decode cL_law 1005 = .ok (.iload_n 3, 1) := sdL_law_994.2.2.2.2.2.2.2.1
theorem sdL_law_1006 : dz_Seg cL_law [(1006, .iconst 1, 1), (1007, .iadd, 1), (1008, .iaload, 1), (1009, .aload_n 0, 1), (1010, .iload_n 3, 1), (1011, .iconst 2, 1), (1012, .iadd, 1), (1013, .iaload, 1)] := dz_sg _ 1006 (by decide +kernel)
theorem dL_law_1006 : decode cL_law 1006 = .ok (.iconst 1, 1) := sdL_law_1006.1
theorem dL_law_1007 : decode cL_law 1007 = .ok (.iadd, 1) := sdL_law_1006.2.1
theorem dL_law_1008 : decode cL_law 1008 = .ok (.iaload, 1) := sdL_law_1006.2.2.1
theorem dL_law_1009 : decode cL_law 1009 = .ok (.aload_n 0, 1) := sdL_law_1006.2.2.2.1
theorem dL_law_1010 : decode cL_law 1010 = .ok (.iload_n 3, 1) := sdL_law_1006.2.2.2.2.1
theorem dL_law_1011 : decode cL_law 1011 = .ok (.iconst 2, 1) := sdL_law_1006.2.2.2.2.2.1
theorem dL_law_1012 : decode cL_law 1012 = .ok (.iadd, 1) := sdL_law_1006.2.2.2.2.2.2.1
theorem dL_law_1013 : decode cL_law 1013 = .ok (.iaload, 1) := sdL_law_1006.2.2.2.2.2.2.2.1
theorem sdL_law_1014 : dz_Seg cL_law [(1014, .invokevirtual 111, 3), (1017, .pop2, 1), (1018, .aload_n 2, 1), (1019, .aload_n 0, 1), (1020, .iload_n 3, 1), (1021, .iconst 1, 1), (1022, .iadd, 1), (1023, .iaload, 1)] := dz_sg _ 1014 (by decide +kernel)
theorem dL_law_1014 : decode cL_law 1014 = .ok (.invokevirtual 111, 3) := sdL_law_1014.1
theorem dL_law_1017 : decode cL_law 1017 = .ok (.pop2, 1) := sdL_law_1014.2.1
theorem dL_law_1018 : decode cL_law 1018 = .ok (.aload_n 2, 1) := sdL_law_1014.2.2.1
theorem dL_law_1019 : decode cL_law 1019 = .ok (.aload_n 0, 1) := sdL_law_1014.2.2.2.1
theorem dL_law_1020 : decode cL_law 1020 = .ok (.iload_n 3, 1) := sdL_law_1014.2.2.2.2.1
theorem dL_law_1021 : decode cL_law 1021 = .ok (.iconst 1, 1) := sdL_law_1014.2.2.2.2.2.1
theorem dL_law_1022 : decode cL_law 1022 = .ok (.iadd, 1) := sdL_law_1014.2.2.2.2.2.2.1
theorem dL_law_1023 : decode cL_law 1023 = .ok (.iaload, 1) := sdL_law_1014.2.2.2.2.2.2.2.1
theorem sdL_law_1024 : dz_Seg cL_law [(1024, .aload_n 0, 1), (1025, .iload_n 3, 1), (1026, .iconst 2, 1), (1027, .iadd, 1), (1028, .iaload, 1), (1029, .invokevirtual 114, 3), (1032, .pop2, 1), (1033, .goto 698, 3)] := dz_sg _ 1024 (by decide +kernel)
theorem dL_law_1024 : decode cL_law 1024 = .ok (.aload_n 0, 1) := sdL_law_1024.1
theorem dL_law_1025 : decode cL_law 1025 = .ok (.iload_n 3, 1) := sdL_law_1024.2.1
theorem dL_law_1026 : decode cL_law 1026 = .ok (.iconst 2, 1) := sdL_law_1024.2.2.1
theorem dL_law_1027 : decode cL_law 1027 = .ok (.iadd, 1) := sdL_law_1024.2.2.2.1
theorem dL_law_1028 : decode cL_law 1028 = .ok (.iaload, 1) := sdL_law_1024.2.2.2.2.1
theorem dL_law_1029 : decode cL_law 1029 = .ok (.invokevirtual 114, 3) := sdL_law_1024.2.2.2.2.2.1
theorem dL_law_1032 : decode cL_law 1032 = .ok (.pop2, 1) := sdL_law_1024.2.2.2.2.2.2.1
theorem dL_law_1033 : decode cL_law 1033 = .ok (.goto 698, 3) := sdL_law_1024.2.2.2.2.2.2.2.1
theorem sdL_law_1036 : dz_Seg cL_law [(1036, .aload_n 1, 1), (1037, .aload_n 0, 1), (1038, .iload_n 3, 1), (1039, .iconst 1, 1), (1040, .iadd, 1), (1041, .iaload, 1), (1042, .aload_n 0, 1), (1043, .iload_n 3, 1)] := dz_sg _ 1036 (by decide +kernel)
theorem dL_law_1036 : decode cL_law 1036 = .ok (.aload_n 1, 1) := sdL_law_1036.1
theorem dL_law_1037 : decode cL_law 1037 = .ok (.aload_n 0, 1) := sdL_law_1036.2.1
theorem dL_law_1038 : decode cL_law 1038 = .ok (.iload_n 3, 1) := sdL_law_1036.2.2.1
theorem dL_law_1039 : decode cL_law 1039 = .ok (.iconst 1, 1) := sdL_law_1036.2.2.2.1
theorem dL_law_1040 : decode cL_law 1040 = .ok (.iadd, 1) := sdL_law_1036.2.2.2.2.1
theorem dL_law_1041 : decode cL_law 1041 = .ok (.iaload, 1) := sdL_law_1036.2.2.2.2.2.1
theorem dL_law_1042 : decode cL_law 1042 = .ok (.aload_n 0, 1) := sdL_law_1036.2.2.2.2.2.2.1
theorem dL_law_1043 : decode cL_law 1043 = .ok (.iload_n 3, 1) := sdL_law_1036.2.2.2.2.2.2.2.1
theorem sdL_law_1044 : dz_Seg cL_law [(1044, .iconst 2, 1), (1045, .iadd, 1), (1046, .iaload, 1), (1047, .invokevirtual 115, 3), (1050, .pop2, 1), (1051, .aload_n 2, 1), (1052, .aload_n 0, 1), (1053, .iload_n 3, 1)] := dz_sg _ 1044 (by decide +kernel)
theorem dL_law_1044 : decode cL_law 1044 = .ok (.iconst 2, 1) := sdL_law_1044.1
theorem dL_law_1045 : decode cL_law 1045 = .ok (.iadd, 1) := sdL_law_1044.2.1
theorem dL_law_1046 : decode cL_law 1046 = .ok (.iaload, 1) := sdL_law_1044.2.2.1
theorem dL_law_1047 : decode cL_law 1047 = .ok (.invokevirtual 115, 3) := sdL_law_1044.2.2.2.1
theorem dL_law_1050 : decode cL_law 1050 = .ok (.pop2, 1) := sdL_law_1044.2.2.2.2.1
theorem dL_law_1051 : decode cL_law 1051 = .ok (.aload_n 2, 1) := sdL_law_1044.2.2.2.2.2.1
theorem dL_law_1052 : decode cL_law 1052 = .ok (.aload_n 0, 1) := sdL_law_1044.2.2.2.2.2.2.1
theorem dL_law_1053 : decode cL_law 1053 = .ok (.iload_n 3, 1) := sdL_law_1044.2.2.2.2.2.2.2.1
theorem sdL_law_1054 : dz_Seg cL_law [(1054, .iconst 1, 1), (1055, .iadd, 1), (1056, .iaload, 1), (1057, .aload_n 0, 1), (1058, .iload_n 3, 1), (1059, .iconst 2, 1), (1060, .iadd, 1), (1061, .iaload, 1)] := dz_sg _ 1054 (by decide +kernel)
theorem dL_law_1054 : decode cL_law 1054 = .ok (.iconst 1, 1) := sdL_law_1054.1
theorem dL_law_1055 : decode cL_law 1055 = .ok (.iadd, 1) := sdL_law_1054.2.1
theorem dL_law_1056 : decode cL_law 1056 = .ok (.iaload, 1) := sdL_law_1054.2.2.1
theorem dL_law_1057 : decode cL_law 1057 = .ok (.aload_n 0, 1) := sdL_law_1054.2.2.2.1
theorem dL_law_1058 : decode cL_law 1058 = .ok (.iload_n 3, 1) := sdL_law_1054.2.2.2.2.1
theorem dL_law_1059 : decode cL_law 1059 = .ok (.iconst 2, 1) := sdL_law_1054.2.2.2.2.2.1
theorem dL_law_1060 : decode cL_law 1060 = .ok (.iadd, 1) := sdL_law_1054.2.2.2.2.2.2.1
theorem dL_law_1061 : decode cL_law 1061 = .ok (.iaload, 1) := sdL_law_1054.2.2.2.2.2.2.2.1
theorem sdL_law_1062 : dz_Seg cL_law [(1062, .invokevirtual 118, 3), (1065, .pop2, 1), (1066, .goto 665, 3), (1069, .aload_n 1, 1), (1070, .aload_n 0, 1), (1071, .iload_n 3, 1), (1072, .iconst 1, 1), (1073, .iadd, 1)] := dz_sg _ 1062 (by decide +kernel)
theorem dL_law_1062 : decode cL_law 1062 = .ok (.invokevirtual 118, 3) := sdL_law_1062.1
theorem dL_law_1065 : decode cL_law 1065 = .ok (.pop2, 1) := sdL_law_1062.2.1
theorem dL_law_1066 : decode cL_law 1066 = .ok (.goto 665, 3) := sdL_law_1062.2.2.1
theorem dL_law_1069 : decode cL_law 1069 = .ok (.aload_n 1, 1) := sdL_law_1062.2.2.2.1
theorem dL_law_1070 : decode cL_law 1070 = .ok (.aload_n 0, 1) := sdL_law_1062.2.2.2.2.1
theorem dL_law_1071 : decode cL_law 1071 = .ok (.iload_n 3, 1) := sdL_law_1062.2.2.2.2.2.1
theorem dL_law_1072 : decode cL_law 1072 = .ok (.iconst 1, 1) := sdL_law_1062.2.2.2.2.2.2.1
theorem dL_law_1073 : decode cL_law 1073 = .ok (.iadd, 1) := sdL_law_1062.2.2.2.2.2.2.2.1
theorem sdL_law_1074 : dz_Seg cL_law [(1074, .iaload, 1), (1075, .invokevirtual 119, 3), (1078, .pop, 1), (1079, .aload_n 2, 1), (1080, .aload_n 0, 1), (1081, .iload_n 3, 1), (1082, .iconst 1, 1), (1083, .iadd, 1)] := dz_sg _ 1074 (by decide +kernel)
theorem dL_law_1074 : decode cL_law 1074 = .ok (.iaload, 1) := sdL_law_1074.1
theorem dL_law_1075 : decode cL_law 1075 = .ok (.invokevirtual 119, 3) := sdL_law_1074.2.1
theorem dL_law_1078 : decode cL_law 1078 = .ok (.pop, 1) := sdL_law_1074.2.2.1
theorem dL_law_1079 : decode cL_law 1079 = .ok (.aload_n 2, 1) := sdL_law_1074.2.2.2.1
theorem dL_law_1080 : decode cL_law 1080 = .ok (.aload_n 0, 1) := sdL_law_1074.2.2.2.2.1
theorem dL_law_1081 : decode cL_law 1081 = .ok (.iload_n 3, 1) := sdL_law_1074.2.2.2.2.2.1
theorem dL_law_1082 : decode cL_law 1082 = .ok (.iconst 1, 1) := sdL_law_1074.2.2.2.2.2.2.1
theorem dL_law_1083 : decode cL_law 1083 = .ok (.iadd, 1) := sdL_law_1074.2.2.2.2.2.2.2.1
theorem sdL_law_1084 : dz_Seg cL_law [(1084, .iaload, 1), (1085, .invokevirtual 122, 3), (1088, .pop, 1), (1089, .goto 642, 3), (1092, .aload_n 1, 1), (1093, .aload_n 0, 1), (1094, .iload_n 3, 1), (1095, .iconst 1, 1)] := dz_sg _ 1084 (by decide +kernel)
theorem dL_law_1084 : decode cL_law 1084 = .ok (.iaload, 1) := sdL_law_1084.1
theorem dL_law_1085 : decode cL_law 1085 = .ok (.invokevirtual 122, 3) := sdL_law_1084.2.1
theorem dL_law_1088 : decode cL_law 1088 = .ok (.pop, 1) := sdL_law_1084.2.2.1
theorem dL_law_1089 : decode cL_law 1089 = .ok (.goto 642, 3) := sdL_law_1084.2.2.2.1
theorem dL_law_1092 : decode cL_law 1092 = .ok (.aload_n 1, 1) := sdL_law_1084.2.2.2.2.1
theorem dL_law_1093 : decode cL_law 1093 = .ok (.aload_n 0, 1) := sdL_law_1084.2.2.2.2.2.1
theorem dL_law_1094 : decode cL_law 1094 = .ok (.iload_n 3, 1) := sdL_law_1084.2.2.2.2.2.2.1
theorem dL_law_1095 : decode cL_law 1095 = .ok (.iconst 1, 1) := sdL_law_1084.2.2.2.2.2.2.2.1
theorem sdL_law_1096 : dz_Seg cL_law [(1096, .iadd, 1), (1097, .iaload, 1), (1098, .invokevirtual 123, 3), (1101, .pop2, 1), (1102, .aload_n 2, 1), (1103, .aload_n 0, 1), (1104, .iload_n 3, 1), (1105, .iconst 1, 1)] := dz_sg _ 1096 (by decide +kernel)
theorem dL_law_1096 : decode cL_law 1096 = .ok (.iadd, 1) := sdL_law_1096.1
theorem dL_law_1097 : decode cL_law 1097 = .ok (.iaload, 1) := sdL_law_1096.2.1
theorem dL_law_1098 : decode cL_law 1098 = .ok (.invokevirtual 123, 3) := sdL_law_1096.2.2.1
theorem dL_law_1101 : decode cL_law 1101 = .ok (.pop2, 1) := sdL_law_1096.2.2.2.1
theorem dL_law_1102 : decode cL_law 1102 = .ok (.aload_n 2, 1) := sdL_law_1096.2.2.2.2.1
theorem dL_law_1103 : decode cL_law 1103 = .ok (.aload_n 0, 1) := sdL_law_1096.2.2.2.2.2.1
theorem dL_law_1104 : decode cL_law 1104 = .ok (.iload_n 3, 1) := sdL_law_1096.2.2.2.2.2.2.1
theorem dL_law_1105 : decode cL_law 1105 = .ok (.iconst 1, 1) := sdL_law_1096.2.2.2.2.2.2.2.1
theorem sdL_law_1106 : dz_Seg cL_law [(1106, .iadd, 1), (1107, .iaload, 1), (1108, .invokevirtual 127, 3), (1111, .pop2, 1), (1112, .goto 619, 3), (1115, .aload_n 1, 1), (1116, .aload_n 0, 1), (1117, .iload_n 3, 1)] := dz_sg _ 1106 (by decide +kernel)
theorem dL_law_1106 : decode cL_law 1106 = .ok (.iadd, 1) := sdL_law_1106.1
theorem dL_law_1107 : decode cL_law 1107 = .ok (.iaload, 1) := sdL_law_1106.2.1
theorem dL_law_1108 : decode cL_law 1108 = .ok (.invokevirtual 127, 3) := sdL_law_1106.2.2.1
theorem dL_law_1111 : decode cL_law 1111 = .ok (.pop2, 1) := sdL_law_1106.2.2.2.1
theorem dL_law_1112 : decode cL_law 1112 = .ok (.goto 619, 3) := sdL_law_1106.2.2.2.2.1
theorem dL_law_1115 : decode cL_law 1115 = .ok (.aload_n 1, 1) := sdL_law_1106.2.2.2.2.2.1
theorem dL_law_1116 : decode cL_law 1116 = .ok (.aload_n 0, 1) := sdL_law_1106.2.2.2.2.2.2.1
theorem dL_law_1117 : decode cL_law 1117 = .ok (.iload_n 3, 1) := sdL_law_1106.2.2.2.2.2.2.2.1
theorem sdL_law_1118 : dz_Seg cL_law [(1118, .iconst 1, 1), (1119, .iadd, 1), (1120, .iaload, 1), (1121, .invokevirtual 128, 3), (1124, .pop, 1), (1125, .aload_n 2, 1), (1126, .aload_n 0, 1), (1127, .iload_n 3, 1)] := dz_sg _ 1118 (by decide +kernel)
theorem dL_law_1118 : decode cL_law 1118 = .ok (.iconst 1, 1) := sdL_law_1118.1
theorem dL_law_1119 : decode cL_law 1119 = .ok (.iadd, 1) := sdL_law_1118.2.1
theorem dL_law_1120 : decode cL_law 1120 = .ok (.iaload, 1) := sdL_law_1118.2.2.1
theorem dL_law_1121 : decode cL_law 1121 = .ok (.invokevirtual 128, 3) := sdL_law_1118.2.2.2.1
theorem dL_law_1124 : decode cL_law 1124 = .ok (.pop, 1) := sdL_law_1118.2.2.2.2.1
theorem dL_law_1125 : decode cL_law 1125 = .ok (.aload_n 2, 1) := sdL_law_1118.2.2.2.2.2.1
theorem dL_law_1126 : decode cL_law 1126 = .ok (.aload_n 0, 1) := sdL_law_1118.2.2.2.2.2.2.1
theorem dL_law_1127 : decode cL_law 1127 = .ok (.iload_n 3, 1) := sdL_law_1118.2.2.2.2.2.2.2.1
theorem sdL_law_1128 : dz_Seg cL_law [(1128, .iconst 1, 1), (1129, .iadd, 1), (1130, .iaload, 1), (1131, .invokevirtual 131, 3), (1134, .pop, 1), (1135, .goto 596, 3), (1138, .aload_n 1, 1), (1139, .invokevirtual 132, 3)] := dz_sg _ 1128 (by decide +kernel)
theorem dL_law_1128 : decode cL_law 1128 = .ok (.iconst 1, 1) := sdL_law_1128.1
theorem dL_law_1129 : decode cL_law 1129 = .ok (.iadd, 1) := sdL_law_1128.2.1
theorem dL_law_1130 : decode cL_law 1130 = .ok (.iaload, 1) := sdL_law_1128.2.2.1
theorem dL_law_1131 : decode cL_law 1131 = .ok (.invokevirtual 131, 3) := sdL_law_1128.2.2.2.1
theorem dL_law_1134 : decode cL_law 1134 = .ok (.pop, 1) := sdL_law_1128.2.2.2.2.1
theorem dL_law_1135 : decode cL_law 1135 = .ok (.goto 596, 3) := sdL_law_1128.2.2.2.2.2.1
theorem dL_law_1138 : decode cL_law 1138 = .ok (.aload_n 1, 1) := sdL_law_1128.2.2.2.2.2.2.1
theorem dL_law_1139 : decode cL_law 1139 = .ok (.invokevirtual 132, 3) := sdL_law_1128.2.2.2.2.2.2.2.1
theorem sdL_law_1142 : dz_Seg cL_law [(1142, .pop, 1), (1143, .aload_n 2, 1), (1144, .invokevirtual 135, 3), (1147, .pop, 1), (1148, .goto 583, 3), (1151, .aload_n 1, 1), (1152, .aload_n 0, 1), (1153, .iload_n 3, 1)] := dz_sg _ 1142 (by decide +kernel)
theorem dL_law_1142 : decode cL_law 1142 = .ok (.pop, 1) := sdL_law_1142.1
theorem dL_law_1143 : decode cL_law 1143 = .ok (.aload_n 2, 1) := sdL_law_1142.2.1
theorem dL_law_1144 : decode cL_law 1144 = .ok (.invokevirtual 135, 3) := sdL_law_1142.2.2.1
theorem dL_law_1147 : decode cL_law 1147 = .ok (.pop, 1) := sdL_law_1142.2.2.2.1
theorem dL_law_1148 : decode cL_law 1148 = .ok (.goto 583, 3) := sdL_law_1142.2.2.2.2.1
theorem dL_law_1151 : decode cL_law 1151 = .ok (.aload_n 1, 1) := sdL_law_1142.2.2.2.2.2.1
theorem dL_law_1152 : decode cL_law 1152 = .ok (.aload_n 0, 1) := sdL_law_1142.2.2.2.2.2.2.1
theorem dL_law_1153 : decode cL_law 1153 = .ok (.iload_n 3, 1) := sdL_law_1142.2.2.2.2.2.2.2.1
theorem sdL_law_1154 : dz_Seg cL_law [(1154, .iconst 1, 1), (1155, .iadd, 1), (1156, .iaload, 1), (1157, .aload_n 0, 1), (1158, .iload_n 3, 1), (1159, .iconst 2, 1), (1160, .iadd, 1), (1161, .iaload, 1)] := dz_sg _ 1154 (by decide +kernel)
theorem dL_law_1154 : decode cL_law 1154 = .ok (.iconst 1, 1) := sdL_law_1154.1
theorem dL_law_1155 : decode cL_law 1155 = .ok (.iadd, 1) := sdL_law_1154.2.1
theorem dL_law_1156 : decode cL_law 1156 = .ok (.iaload, 1) := sdL_law_1154.2.2.1
theorem dL_law_1157 : decode cL_law 1157 = .ok (.aload_n 0, 1) := sdL_law_1154.2.2.2.1
theorem dL_law_1158 : decode cL_law 1158 = .ok (.iload_n 3, 1) := sdL_law_1154.2.2.2.2.1
theorem dL_law_1159 : decode cL_law 1159 = .ok (.iconst 2, 1) := sdL_law_1154.2.2.2.2.2.1
theorem dL_law_1160 : decode cL_law 1160 = .ok (.iadd, 1) := sdL_law_1154.2.2.2.2.2.2.1
theorem dL_law_1161 : decode cL_law 1161 = .ok (.iaload, 1) := sdL_law_1154.2.2.2.2.2.2.2.1
theorem sdL_law_1162 : dz_Seg cL_law [(1162, .invokevirtual 136, 3), (1165, .pop, 1), (1166, .aload_n 2, 1), (1167, .aload_n 0, 1), (1168, .iload_n 3, 1), (1169, .iconst 1, 1), (1170, .iadd, 1), (1171, .iaload, 1)] := dz_sg _ 1162 (by decide +kernel)
theorem dL_law_1162 : decode cL_law 1162 = .ok (.invokevirtual 136, 3) := sdL_law_1162.1
theorem dL_law_1165 : decode cL_law 1165 = .ok (.pop, 1) := sdL_law_1162.2.1
theorem dL_law_1166 : decode cL_law 1166 = .ok (.aload_n 2, 1) := sdL_law_1162.2.2.1
theorem dL_law_1167 : decode cL_law 1167 = .ok (.aload_n 0, 1) := sdL_law_1162.2.2.2.1
theorem dL_law_1168 : decode cL_law 1168 = .ok (.iload_n 3, 1) := sdL_law_1162.2.2.2.2.1
theorem dL_law_1169 : decode cL_law 1169 = .ok (.iconst 1, 1) := sdL_law_1162.2.2.2.2.2.1
theorem dL_law_1170 : decode cL_law 1170 = .ok (.iadd, 1) := sdL_law_1162.2.2.2.2.2.2.1
theorem dL_law_1171 : decode cL_law 1171 = .ok (.iaload, 1) := sdL_law_1162.2.2.2.2.2.2.2.1
theorem sdL_law_1172 : dz_Seg cL_law [(1172, .aload_n 0, 1), (1173, .iload_n 3, 1), (1174, .iconst 2, 1), (1175, .iadd, 1), (1176, .iaload, 1), (1177, .invokevirtual 139, 3), (1180, .pop, 1), (1181, .goto 550, 3)] := dz_sg _ 1172 (by decide +kernel)
theorem dL_law_1172 : decode cL_law 1172 = .ok (.aload_n 0, 1) := sdL_law_1172.1
theorem dL_law_1173 : decode cL_law 1173 = .ok (.iload_n 3, 1) := sdL_law_1172.2.1
theorem dL_law_1174 : decode cL_law 1174 = .ok (.iconst 2, 1) := sdL_law_1172.2.2.1
theorem dL_law_1175 : decode cL_law 1175 = .ok (.iadd, 1) := sdL_law_1172.2.2.2.1
theorem dL_law_1176 : decode cL_law 1176 = .ok (.iaload, 1) := sdL_law_1172.2.2.2.2.1
theorem dL_law_1177 : decode cL_law 1177 = .ok (.invokevirtual 139, 3) := sdL_law_1172.2.2.2.2.2.1
theorem dL_law_1180 : decode cL_law 1180 = .ok (.pop, 1) := sdL_law_1172.2.2.2.2.2.2.1
theorem dL_law_1181 : decode cL_law 1181 = .ok (.goto 550, 3) := sdL_law_1172.2.2.2.2.2.2.2.1
theorem sdL_law_1184 : dz_Seg cL_law [(1184, .aload_n 1, 1), (1185, .aload_n 0, 1), (1186, .iload_n 3, 1), (1187, .iconst 1, 1), (1188, .iadd, 1), (1189, .iaload, 1), (1190, .invokevirtual 140, 3), (1193, .pop, 1)] := dz_sg _ 1184 (by decide +kernel)
theorem dL_law_1184 : decode cL_law 1184 = .ok (.aload_n 1, 1) := sdL_law_1184.1
theorem dL_law_1185 : decode cL_law 1185 = .ok (.aload_n 0, 1) := sdL_law_1184.2.1
theorem dL_law_1186 : decode cL_law 1186 = .ok (.iload_n 3, 1) := sdL_law_1184.2.2.1
theorem dL_law_1187 : decode cL_law 1187 = .ok (.iconst 1, 1) := sdL_law_1184.2.2.2.1
theorem dL_law_1188 : decode cL_law 1188 = .ok (.iadd, 1) := sdL_law_1184.2.2.2.2.1
theorem dL_law_1189 : decode cL_law 1189 = .ok (.iaload, 1) := sdL_law_1184.2.2.2.2.2.1
theorem dL_law_1190 : decode cL_law 1190 = .ok (.invokevirtual 140, 3) := sdL_law_1184.2.2.2.2.2.2.1
theorem dL_law_1193 : decode cL_law 1193 = .ok (.pop, 1) := sdL_law_1184.2.2.2.2.2.2.2.1
theorem sdL_law_1194 : dz_Seg cL_law [(1194, .aload_n 2, 1), (1195, .aload_n 0, 1), (1196, .iload_n 3, 1), (1197, .iconst 1, 1), (1198, .iadd, 1), (1199, .iaload, 1), (1200, .invokevirtual 143, 3), (1203, .pop, 1)] := dz_sg _ 1194 (by decide +kernel)
theorem dL_law_1194 : decode cL_law 1194 = .ok (.aload_n 2, 1) := sdL_law_1194.1
theorem dL_law_1195 : decode cL_law 1195 = .ok (.aload_n 0, 1) := sdL_law_1194.2.1
theorem dL_law_1196 : decode cL_law 1196 = .ok (.iload_n 3, 1) := sdL_law_1194.2.2.1
theorem dL_law_1197 : decode cL_law 1197 = .ok (.iconst 1, 1) := sdL_law_1194.2.2.2.1
theorem dL_law_1198 : decode cL_law 1198 = .ok (.iadd, 1) := sdL_law_1194.2.2.2.2.1
theorem dL_law_1199 : decode cL_law 1199 = .ok (.iaload, 1) := sdL_law_1194.2.2.2.2.2.1
theorem dL_law_1200 : decode cL_law 1200 = .ok (.invokevirtual 143, 3) := sdL_law_1194.2.2.2.2.2.2.1
theorem dL_law_1203 : decode cL_law 1203 = .ok (.pop, 1) := sdL_law_1194.2.2.2.2.2.2.2.1
theorem sdL_law_1204 : dz_Seg cL_law [(1204, .goto 527, 3), (1207, .aload_n 1, 1), (1208, .aload_n 0, 1), (1209, .iload_n 3, 1), (1210, .iconst 1, 1), (1211, .iadd, 1), (1212, .iaload, 1), (1213, .invokevirtual 144, 3)] := dz_sg _ 1204 (by decide +kernel)
theorem dL_law_1204 : decode cL_law 1204 = .ok (.goto 527, 3) := sdL_law_1204.1
theorem dL_law_1207 : decode cL_law 1207 = .ok (.aload_n 1, 1) := sdL_law_1204.2.1
theorem dL_law_1208 : decode cL_law 1208 = .ok (.aload_n 0, 1) := sdL_law_1204.2.2.1
theorem dL_law_1209 : decode cL_law 1209 = .ok (.iload_n 3, 1) := sdL_law_1204.2.2.2.1
theorem dL_law_1210 : decode cL_law 1210 = .ok (.iconst 1, 1) := sdL_law_1204.2.2.2.2.1
theorem dL_law_1211 : decode cL_law 1211 = .ok (.iadd, 1) := sdL_law_1204.2.2.2.2.2.1
theorem dL_law_1212 : decode cL_law 1212 = .ok (.iaload, 1) := sdL_law_1204.2.2.2.2.2.2.1
theorem dL_law_1213 : decode cL_law 1213 = .ok (.invokevirtual 144, 3) := sdL_law_1204.2.2.2.2.2.2.2.1
theorem sdL_law_1216 : dz_Seg cL_law [(1216, .pop2, 1), (1217, .aload_n 2, 1), (1218, .aload_n 0, 1), (1219, .iload_n 3, 1), (1220, .iconst 1, 1), (1221, .iadd, 1), (1222, .iaload, 1), (1223, .invokevirtual 147, 3)] := dz_sg _ 1216 (by decide +kernel)
theorem dL_law_1216 : decode cL_law 1216 = .ok (.pop2, 1) := sdL_law_1216.1
theorem dL_law_1217 : decode cL_law 1217 = .ok (.aload_n 2, 1) := sdL_law_1216.2.1
theorem dL_law_1218 : decode cL_law 1218 = .ok (.aload_n 0, 1) := sdL_law_1216.2.2.1
theorem dL_law_1219 : decode cL_law 1219 = .ok (.iload_n 3, 1) := sdL_law_1216.2.2.2.1
theorem dL_law_1220 : decode cL_law 1220 = .ok (.iconst 1, 1) := sdL_law_1216.2.2.2.2.1
theorem dL_law_1221 : decode cL_law 1221 = .ok (.iadd, 1) := sdL_law_1216.2.2.2.2.2.1
theorem dL_law_1222 : decode cL_law 1222 = .ok (.iaload, 1) := sdL_law_1216.2.2.2.2.2.2.1
theorem dL_law_1223 : decode cL_law 1223 = .ok (.invokevirtual 147, 3) := sdL_law_1216.2.2.2.2.2.2.2.1
theorem sdL_law_1226 : dz_Seg cL_law [(1226, .pop2, 1), (1227, .goto 504, 3), (1230, .aload_n 1, 1), (1231, .aload_n 0, 1), (1232, .iload_n 3, 1), (1233, .iconst 1, 1), (1234, .iadd, 1), (1235, .iaload, 1)] := dz_sg _ 1226 (by decide +kernel)
theorem dL_law_1226 : decode cL_law 1226 = .ok (.pop2, 1) := sdL_law_1226.1
theorem dL_law_1227 : decode cL_law 1227 = .ok (.goto 504, 3) := sdL_law_1226.2.1
theorem dL_law_1230 : decode cL_law 1230 = .ok (.aload_n 1, 1) := sdL_law_1226.2.2.1
theorem dL_law_1231 : decode cL_law 1231 = .ok (.aload_n 0, 1) := sdL_law_1226.2.2.2.1
theorem dL_law_1232 : decode cL_law 1232 = .ok (.iload_n 3, 1) := sdL_law_1226.2.2.2.2.1
theorem dL_law_1233 : decode cL_law 1233 = .ok (.iconst 1, 1) := sdL_law_1226.2.2.2.2.2.1
theorem dL_law_1234 : decode cL_law 1234 = .ok (.iadd, 1) := sdL_law_1226.2.2.2.2.2.2.1
theorem dL_law_1235 : decode cL_law 1235 = .ok (.iaload, 1) := sdL_law_1226.2.2.2.2.2.2.2.1
theorem sdL_law_1236 : dz_Seg cL_law [(1236, .aload_n 0, 1), (1237, .iload_n 3, 1), (1238, .iconst 2, 1), (1239, .iadd, 1), (1240, .iaload, 1), (1241, .invokevirtual 148, 3), (1244, .pop2, 1), (1245, .aload_n 2, 1)] := dz_sg _ 1236 (by decide +kernel)
theorem dL_law_1236 : decode cL_law 1236 = .ok (.aload_n 0, 1) := sdL_law_1236.1
theorem dL_law_1237 : decode cL_law 1237 = .ok (.iload_n 3, 1) := sdL_law_1236.2.1
theorem dL_law_1238 : decode cL_law 1238 = .ok (.iconst 2, 1) := sdL_law_1236.2.2.1
theorem dL_law_1239 : decode cL_law 1239 = .ok (.iadd, 1) := sdL_law_1236.2.2.2.1
theorem dL_law_1240 : decode cL_law 1240 = .ok (.iaload, 1) := sdL_law_1236.2.2.2.2.1
theorem dL_law_1241 : decode cL_law 1241 = .ok (.invokevirtual 148, 3) := sdL_law_1236.2.2.2.2.2.1
theorem dL_law_1244 : decode cL_law 1244 = .ok (.pop2, 1) := sdL_law_1236.2.2.2.2.2.2.1
theorem dL_law_1245 : decode cL_law 1245 = .ok (.aload_n 2, 1) := sdL_law_1236.2.2.2.2.2.2.2.1
theorem sdL_law_1246 : dz_Seg cL_law [(1246, .aload_n 0, 1), (1247, .iload_n 3, 1), (1248, .iconst 1, 1), (1249, .iadd, 1), (1250, .iaload, 1), (1251, .aload_n 0, 1), (1252, .iload_n 3, 1), (1253, .iconst 2, 1)] := dz_sg _ 1246 (by decide +kernel)
theorem dL_law_1246 : decode cL_law 1246 = .ok (.aload_n 0, 1) := sdL_law_1246.1
theorem dL_law_1247 : decode cL_law 1247 = .ok (.iload_n 3, 1) := sdL_law_1246.2.1
theorem dL_law_1248 : decode cL_law 1248 = .ok (.iconst 1, 1) := sdL_law_1246.2.2.1
theorem dL_law_1249 : decode cL_law 1249 = .ok (.iadd, 1) := sdL_law_1246.2.2.2.1
theorem dL_law_1250 : decode cL_law 1250 = .ok (.iaload, 1) := sdL_law_1246.2.2.2.2.1
theorem dL_law_1251 : decode cL_law 1251 = .ok (.aload_n 0, 1) := sdL_law_1246.2.2.2.2.2.1
theorem dL_law_1252 : decode cL_law 1252 = .ok (.iload_n 3, 1) := sdL_law_1246.2.2.2.2.2.2.1
theorem dL_law_1253 : decode cL_law 1253 = .ok (.iconst 2, 1) := sdL_law_1246.2.2.2.2.2.2.2.1
theorem sdL_law_1254 : dz_Seg cL_law [(1254, .iadd, 1), (1255, .iaload, 1), (1256, .invokevirtual 151, 3), (1259, .pop2, 1), (1260, .goto 471, 3), (1263, .aload_n 1, 1), (1264, .aload_n 0, 1), (1265, .iload_n 3, 1)] := dz_sg _ 1254 (by decide +kernel)
theorem dL_law_1254 : decode cL_law 1254 = .ok (.iadd, 1) := sdL_law_1254.1
theorem dL_law_1255 : decode cL_law 1255 = .ok (.iaload, 1) := sdL_law_1254.2.1
theorem dL_law_1256 : decode cL_law 1256 = .ok (.invokevirtual 151, 3) := sdL_law_1254.2.2.1
theorem dL_law_1259 : decode cL_law 1259 = .ok (.pop2, 1) := sdL_law_1254.2.2.2.1
theorem dL_law_1260 : decode cL_law 1260 = .ok (.goto 471, 3) := sdL_law_1254.2.2.2.2.1
theorem dL_law_1263 : decode cL_law 1263 = .ok (.aload_n 1, 1) := sdL_law_1254.2.2.2.2.2.1
theorem dL_law_1264 : decode cL_law 1264 = .ok (.aload_n 0, 1) := sdL_law_1254.2.2.2.2.2.2.1
theorem dL_law_1265 : decode cL_law 1265 = .ok (.iload_n 3, 1) := sdL_law_1254.2.2.2.2.2.2.2.1
theorem sdL_law_1266 : dz_Seg cL_law [(1266, .iconst 1, 1), (1267, .iadd, 1), (1268, .iaload, 1), (1269, .invokevirtual 152, 3), (1272, .pop2, 1), (1273, .aload_n 2, 1), (1274, .aload_n 0, 1), (1275, .iload_n 3, 1)] := dz_sg _ 1266 (by decide +kernel)
theorem dL_law_1266 : decode cL_law 1266 = .ok (.iconst 1, 1) := sdL_law_1266.1
theorem dL_law_1267 : decode cL_law 1267 = .ok (.iadd, 1) := sdL_law_1266.2.1
theorem dL_law_1268 : decode cL_law 1268 = .ok (.iaload, 1) := sdL_law_1266.2.2.1
theorem dL_law_1269 : decode cL_law 1269 = .ok (.invokevirtual 152, 3) := sdL_law_1266.2.2.2.1
theorem dL_law_1272 : decode cL_law 1272 = .ok (.pop2, 1) := sdL_law_1266.2.2.2.2.1
theorem dL_law_1273 : decode cL_law 1273 = .ok (.aload_n 2, 1) := sdL_law_1266.2.2.2.2.2.1
theorem dL_law_1274 : decode cL_law 1274 = .ok (.aload_n 0, 1) := sdL_law_1266.2.2.2.2.2.2.1
theorem dL_law_1275 : decode cL_law 1275 = .ok (.iload_n 3, 1) := sdL_law_1266.2.2.2.2.2.2.2.1
theorem sdL_law_1276 : dz_Seg cL_law [(1276, .iconst 1, 1), (1277, .iadd, 1), (1278, .iaload, 1), (1279, .invokevirtual 155, 3), (1282, .pop2, 1), (1283, .goto 448, 3), (1286, .aload_n 1, 1), (1287, .aload_n 0, 1)] := dz_sg _ 1276 (by decide +kernel)
theorem dL_law_1276 : decode cL_law 1276 = .ok (.iconst 1, 1) := sdL_law_1276.1
theorem dL_law_1277 : decode cL_law 1277 = .ok (.iadd, 1) := sdL_law_1276.2.1
theorem dL_law_1278 : decode cL_law 1278 = .ok (.iaload, 1) := sdL_law_1276.2.2.1
theorem dL_law_1279 : decode cL_law 1279 = .ok (.invokevirtual 155, 3) := sdL_law_1276.2.2.2.1
theorem dL_law_1282 : decode cL_law 1282 = .ok (.pop2, 1) := sdL_law_1276.2.2.2.2.1
theorem dL_law_1283 : decode cL_law 1283 = .ok (.goto 448, 3) := sdL_law_1276.2.2.2.2.2.1
theorem dL_law_1286 : decode cL_law 1286 = .ok (.aload_n 1, 1) := sdL_law_1276.2.2.2.2.2.2.1
theorem dL_law_1287 : decode cL_law 1287 = .ok (.aload_n 0, 1) := sdL_law_1276.2.2.2.2.2.2.2.1
theorem sdL_law_1288 : dz_Seg cL_law [(1288, .iload_n 3, 1), (1289, .iconst 1, 1), (1290, .iadd, 1), (1291, .iaload, 1), (1292, .invokevirtual 156, 3), (1295, .pop, 1), (1296, .aload_n 2, 1), (1297, .aload_n 0, 1)] := dz_sg _ 1288 (by decide +kernel)
theorem dL_law_1288 : decode cL_law 1288 = .ok (.iload_n 3, 1) := sdL_law_1288.1
theorem dL_law_1289 : decode cL_law 1289 = .ok (.iconst 1, 1) := sdL_law_1288.2.1
theorem dL_law_1290 : decode cL_law 1290 = .ok (.iadd, 1) := sdL_law_1288.2.2.1
theorem dL_law_1291 : decode cL_law 1291 = .ok (.iaload, 1) := sdL_law_1288.2.2.2.1
theorem dL_law_1292 : decode cL_law 1292 = .ok (.invokevirtual 156, 3) := sdL_law_1288.2.2.2.2.1
theorem dL_law_1295 : decode cL_law 1295 = .ok (.pop, 1) := sdL_law_1288.2.2.2.2.2.1
theorem dL_law_1296 : decode cL_law 1296 = .ok (.aload_n 2, 1) := sdL_law_1288.2.2.2.2.2.2.1
theorem dL_law_1297 : decode cL_law 1297 = .ok (.aload_n 0, 1) := sdL_law_1288.2.2.2.2.2.2.2.1
theorem sdL_law_1298 : dz_Seg cL_law [(1298, .iload_n 3, 1), (1299, .iconst 1, 1), (1300, .iadd, 1), (1301, .iaload, 1), (1302, .invokevirtual 159, 3), (1305, .pop, 1), (1306, .goto 425, 3), (1309, .aload_n 1, 1)] := dz_sg _ 1298 (by decide +kernel)
theorem dL_law_1298 : decode cL_law 1298 = .ok (.iload_n 3, 1) := sdL_law_1298.1
theorem dL_law_1299 : decode cL_law 1299 = .ok (.iconst 1, 1) := sdL_law_1298.2.1
theorem dL_law_1300 : decode cL_law 1300 = .ok (.iadd, 1) := sdL_law_1298.2.2.1
theorem dL_law_1301 : decode cL_law 1301 = .ok (.iaload, 1) := sdL_law_1298.2.2.2.1
theorem dL_law_1302 : decode cL_law 1302 = .ok (.invokevirtual 159, 3) := sdL_law_1298.2.2.2.2.1
theorem dL_law_1305 : decode cL_law 1305 = .ok (.pop, 1) := sdL_law_1298.2.2.2.2.2.1
theorem dL_law_1306 : decode cL_law 1306 = .ok (.goto 425, 3) := sdL_law_1298.2.2.2.2.2.2.1
theorem dL_law_1309 : decode cL_law 1309 = .ok (.aload_n 1, 1) := sdL_law_1298.2.2.2.2.2.2.2.1
theorem sdL_law_1310 : dz_Seg cL_law [(1310, .aload_n 0, 1), (1311, .iload_n 3, 1), (1312, .iconst 1, 1), (1313, .iadd, 1), (1314, .iaload, 1), (1315, .aload_n 0, 1), (1316, .iload_n 3, 1), (1317, .iconst 2, 1)] := dz_sg _ 1310 (by decide +kernel)
theorem dL_law_1310 : decode cL_law 1310 = .ok (.aload_n 0, 1) := sdL_law_1310.1
theorem dL_law_1311 : decode cL_law 1311 = .ok (.iload_n 3, 1) := sdL_law_1310.2.1
theorem dL_law_1312 : decode cL_law 1312 = .ok (.iconst 1, 1) := sdL_law_1310.2.2.1
theorem dL_law_1313 : decode cL_law 1313 = .ok (.iadd, 1) := sdL_law_1310.2.2.2.1
theorem dL_law_1314 : decode cL_law 1314 = .ok (.iaload, 1) := sdL_law_1310.2.2.2.2.1
theorem dL_law_1315 : decode cL_law 1315 = .ok (.aload_n 0, 1) := sdL_law_1310.2.2.2.2.2.1
theorem dL_law_1316 : decode cL_law 1316 = .ok (.iload_n 3, 1) := sdL_law_1310.2.2.2.2.2.2.1
theorem dL_law_1317 : decode cL_law 1317 = .ok (.iconst 2, 1) := sdL_law_1310.2.2.2.2.2.2.2.1
theorem sdL_law_1318 : dz_Seg cL_law [(1318, .iadd, 1), (1319, .iaload, 1), (1320, .aload_n 0, 1), (1321, .iload_n 3, 1), (1322, .iconst 3, 1), (1323, .iadd, 1), (1324, .iaload, 1), (1325, .invokevirtual 160, 3)] := dz_sg _ 1318 (by decide +kernel)
theorem dL_law_1318 : decode cL_law 1318 = .ok (.iadd, 1) := sdL_law_1318.1
theorem dL_law_1319 : decode cL_law 1319 = .ok (.iaload, 1) := sdL_law_1318.2.1
theorem dL_law_1320 : decode cL_law 1320 = .ok (.aload_n 0, 1) := sdL_law_1318.2.2.1
theorem dL_law_1321 : decode cL_law 1321 = .ok (.iload_n 3, 1) := sdL_law_1318.2.2.2.1
theorem dL_law_1322 : decode cL_law 1322 = .ok (.iconst 3, 1) := sdL_law_1318.2.2.2.2.1
theorem dL_law_1323 : decode cL_law 1323 = .ok (.iadd, 1) := sdL_law_1318.2.2.2.2.2.1
theorem dL_law_1324 : decode cL_law 1324 = .ok (.iaload, 1) := sdL_law_1318.2.2.2.2.2.2.1
theorem dL_law_1325 : decode cL_law 1325 = .ok (.invokevirtual 160, 3) := sdL_law_1318.2.2.2.2.2.2.2.1
theorem sdL_law_1328 : dz_Seg cL_law [(1328, .pop, 1), (1329, .aload_n 2, 1), (1330, .aload_n 0, 1), (1331, .iload_n 3, 1), (1332, .iconst 1, 1), (1333, .iadd, 1), (1334, .iaload, 1), (1335, .aload_n 0, 1)] := dz_sg _ 1328 (by decide +kernel)
theorem dL_law_1328 : decode cL_law 1328 = .ok (.pop, 1) := sdL_law_1328.1
theorem dL_law_1329 : decode cL_law 1329 = .ok (.aload_n 2, 1) := sdL_law_1328.2.1
theorem dL_law_1330 : decode cL_law 1330 = .ok (.aload_n 0, 1) := sdL_law_1328.2.2.1
theorem dL_law_1331 : decode cL_law 1331 = .ok (.iload_n 3, 1) := sdL_law_1328.2.2.2.1
theorem dL_law_1332 : decode cL_law 1332 = .ok (.iconst 1, 1) := sdL_law_1328.2.2.2.2.1
theorem dL_law_1333 : decode cL_law 1333 = .ok (.iadd, 1) := sdL_law_1328.2.2.2.2.2.1
theorem dL_law_1334 : decode cL_law 1334 = .ok (.iaload, 1) := sdL_law_1328.2.2.2.2.2.2.1
theorem dL_law_1335 : decode cL_law 1335 = .ok (.aload_n 0, 1) := sdL_law_1328.2.2.2.2.2.2.2.1
theorem sdL_law_1336 : dz_Seg cL_law [(1336, .iload_n 3, 1), (1337, .iconst 2, 1), (1338, .iadd, 1), (1339, .iaload, 1), (1340, .aload_n 0, 1), (1341, .iload_n 3, 1), (1342, .iconst 3, 1), (1343, .iadd, 1)] := dz_sg _ 1336 (by decide +kernel)
theorem dL_law_1336 : decode cL_law 1336 = .ok (.iload_n 3, 1) := sdL_law_1336.1
theorem dL_law_1337 : decode cL_law 1337 = .ok (.iconst 2, 1) := sdL_law_1336.2.1
theorem dL_law_1338 : decode cL_law 1338 = .ok (.iadd, 1) := sdL_law_1336.2.2.1
theorem dL_law_1339 : decode cL_law 1339 = .ok (.iaload, 1) := sdL_law_1336.2.2.2.1
theorem dL_law_1340 : decode cL_law 1340 = .ok (.aload_n 0, 1) := sdL_law_1336.2.2.2.2.1
theorem dL_law_1341 : decode cL_law 1341 = .ok (.iload_n 3, 1) := sdL_law_1336.2.2.2.2.2.1
theorem dL_law_1342 : decode cL_law 1342 = .ok (.iconst 3, 1) := sdL_law_1336.2.2.2.2.2.2.1
theorem dL_law_1343 : decode cL_law 1343 = .ok (.iadd, 1) := sdL_law_1336.2.2.2.2.2.2.2.1
theorem sdL_law_1344 : dz_Seg cL_law [(1344, .iaload, 1), (1345, .invokevirtual 163, 3), (1348, .pop, 1), (1349, .goto 382, 3), (1352, .aload_n 1, 1), (1353, .aload_n 0, 1), (1354, .iload_n 3, 1), (1355, .iconst 1, 1)] := dz_sg _ 1344 (by decide +kernel)
theorem dL_law_1344 : decode cL_law 1344 = .ok (.iaload, 1) := sdL_law_1344.1
theorem dL_law_1345 : decode cL_law 1345 = .ok (.invokevirtual 163, 3) := sdL_law_1344.2.1
theorem dL_law_1348 : decode cL_law 1348 = .ok (.pop, 1) := sdL_law_1344.2.2.1
theorem dL_law_1349 : decode cL_law 1349 = .ok (.goto 382, 3) := sdL_law_1344.2.2.2.1
theorem dL_law_1352 : decode cL_law 1352 = .ok (.aload_n 1, 1) := sdL_law_1344.2.2.2.2.1
theorem dL_law_1353 : decode cL_law 1353 = .ok (.aload_n 0, 1) := sdL_law_1344.2.2.2.2.2.1
theorem dL_law_1354 : decode cL_law 1354 = .ok (.iload_n 3, 1) := sdL_law_1344.2.2.2.2.2.2.1
theorem dL_law_1355 : decode cL_law 1355 = .ok (.iconst 1, 1) := sdL_law_1344.2.2.2.2.2.2.2.1
theorem sdL_law_1356 : dz_Seg cL_law [(1356, .iadd, 1), (1357, .iaload, 1), (1358, .aload_n 0, 1), (1359, .iload_n 3, 1), (1360, .iconst 2, 1), (1361, .iadd, 1), (1362, .iaload, 1), (1363, .aload_n 0, 1)] := dz_sg _ 1356 (by decide +kernel)
theorem dL_law_1356 : decode cL_law 1356 = .ok (.iadd, 1) := sdL_law_1356.1
theorem dL_law_1357 : decode cL_law 1357 = .ok (.iaload, 1) := sdL_law_1356.2.1
theorem dL_law_1358 : decode cL_law 1358 = .ok (.aload_n 0, 1) := sdL_law_1356.2.2.1
theorem dL_law_1359 : decode cL_law 1359 = .ok (.iload_n 3, 1) := sdL_law_1356.2.2.2.1
theorem dL_law_1360 : decode cL_law 1360 = .ok (.iconst 2, 1) := sdL_law_1356.2.2.2.2.1
theorem dL_law_1361 : decode cL_law 1361 = .ok (.iadd, 1) := sdL_law_1356.2.2.2.2.2.1
theorem dL_law_1362 : decode cL_law 1362 = .ok (.iaload, 1) := sdL_law_1356.2.2.2.2.2.2.1
theorem dL_law_1363 : decode cL_law 1363 = .ok (.aload_n 0, 1) := sdL_law_1356.2.2.2.2.2.2.2.1
theorem sdL_law_1364 : dz_Seg cL_law [(1364, .iload_n 3, 1), (1365, .iconst 3, 1), (1366, .iadd, 1), (1367, .iaload, 1), (1368, .invokevirtual 164, 3), (1371, .pop, 1), (1372, .aload_n 2, 1), (1373, .aload_n 0, 1)] := dz_sg _ 1364 (by decide +kernel)
theorem dL_law_1364 : decode cL_law 1364 = .ok (.iload_n 3, 1) := sdL_law_1364.1
theorem dL_law_1365 : decode cL_law 1365 = .ok (.iconst 3, 1) := sdL_law_1364.2.1
theorem dL_law_1366 : decode cL_law 1366 = .ok (.iadd, 1) := sdL_law_1364.2.2.1
theorem dL_law_1367 : decode cL_law 1367 = .ok (.iaload, 1) := sdL_law_1364.2.2.2.1
theorem dL_law_1368 : decode cL_law 1368 = .ok (.invokevirtual 164, 3) := sdL_law_1364.2.2.2.2.1
theorem dL_law_1371 : decode cL_law 1371 = .ok (.pop, 1) := sdL_law_1364.2.2.2.2.2.1
theorem dL_law_1372 : decode cL_law 1372 = .ok (.aload_n 2, 1) := sdL_law_1364.2.2.2.2.2.2.1
theorem dL_law_1373 : decode cL_law 1373 = .ok (.aload_n 0, 1) := sdL_law_1364.2.2.2.2.2.2.2.1
theorem sdL_law_1374 : dz_Seg cL_law [(1374, .iload_n 3, 1), (1375, .iconst 1, 1), (1376, .iadd, 1), (1377, .iaload, 1), (1378, .aload_n 0, 1), (1379, .iload_n 3, 1), (1380, .iconst 2, 1), (1381, .iadd, 1)] := dz_sg _ 1374 (by decide +kernel)
theorem dL_law_1374 : decode cL_law 1374 = .ok (.iload_n 3, 1) := sdL_law_1374.1
theorem dL_law_1375 : decode cL_law 1375 = .ok (.iconst 1, 1) := sdL_law_1374.2.1
theorem dL_law_1376 : decode cL_law 1376 = .ok (.iadd, 1) := sdL_law_1374.2.2.1
theorem dL_law_1377 : decode cL_law 1377 = .ok (.iaload, 1) := sdL_law_1374.2.2.2.1
theorem dL_law_1378 : decode cL_law 1378 = .ok (.aload_n 0, 1) := sdL_law_1374.2.2.2.2.1
theorem dL_law_1379 : decode cL_law 1379 = .ok (.iload_n 3, 1) := sdL_law_1374.2.2.2.2.2.1
theorem dL_law_1380 : decode cL_law 1380 = .ok (.iconst 2, 1) := sdL_law_1374.2.2.2.2.2.2.1
theorem dL_law_1381 : decode cL_law 1381 = .ok (.iadd, 1) := sdL_law_1374.2.2.2.2.2.2.2.1
theorem sdL_law_1382 : dz_Seg cL_law [(1382, .iaload, 1), (1383, .aload_n 0, 1), (1384, .iload_n 3, 1), (1385, .iconst 3, 1), (1386, .iadd, 1), (1387, .iaload, 1), (1388, .invokevirtual 167, 3), (1391, .pop, 1)] := dz_sg _ 1382 (by decide +kernel)
theorem dL_law_1382 : decode cL_law 1382 = .ok (.iaload, 1) := sdL_law_1382.1
theorem dL_law_1383 : decode cL_law 1383 = .ok (.aload_n 0, 1) := sdL_law_1382.2.1
theorem dL_law_1384 : decode cL_law 1384 = .ok (.iload_n 3, 1) := sdL_law_1382.2.2.1
theorem dL_law_1385 : decode cL_law 1385 = .ok (.iconst 3, 1) := sdL_law_1382.2.2.2.1
theorem dL_law_1386 : decode cL_law 1386 = .ok (.iadd, 1) := sdL_law_1382.2.2.2.2.1
theorem dL_law_1387 : decode cL_law 1387 = .ok (.iaload, 1) := sdL_law_1382.2.2.2.2.2.1
theorem dL_law_1388 : decode cL_law 1388 = .ok (.invokevirtual 167, 3) := sdL_law_1382.2.2.2.2.2.2.1
theorem dL_law_1391 : decode cL_law 1391 = .ok (.pop, 1) := sdL_law_1382.2.2.2.2.2.2.2.1
theorem sdL_law_1392 : dz_Seg cL_law [(1392, .goto 339, 3), (1395, .aload_n 1, 1), (1396, .aload_n 0, 1), (1397, .iload_n 3, 1), (1398, .iconst 1, 1), (1399, .iadd, 1), (1400, .iaload, 1), (1401, .aload_n 0, 1)] := dz_sg _ 1392 (by decide +kernel)
theorem dL_law_1392 : decode cL_law 1392 = .ok (.goto 339, 3) := sdL_law_1392.1
theorem dL_law_1395 : decode cL_law 1395 = .ok (.aload_n 1, 1) := sdL_law_1392.2.1
theorem dL_law_1396 : decode cL_law 1396 = .ok (.aload_n 0, 1) := sdL_law_1392.2.2.1
theorem dL_law_1397 : decode cL_law 1397 = .ok (.iload_n 3, 1) := sdL_law_1392.2.2.2.1
theorem dL_law_1398 : decode cL_law 1398 = .ok (.iconst 1, 1) := sdL_law_1392.2.2.2.2.1
theorem dL_law_1399 : decode cL_law 1399 = .ok (.iadd, 1) := sdL_law_1392.2.2.2.2.2.1
theorem dL_law_1400 : decode cL_law 1400 = .ok (.iaload, 1) := sdL_law_1392.2.2.2.2.2.2.1
theorem dL_law_1401 : decode cL_law 1401 = .ok (.aload_n 0, 1) := sdL_law_1392.2.2.2.2.2.2.2.1
theorem sdL_law_1402 : dz_Seg cL_law [(1402, .iload_n 3, 1), (1403, .iconst 2, 1), (1404, .iadd, 1), (1405, .iaload, 1), (1406, .aload_n 0, 1), (1407, .iload_n 3, 1), (1408, .iconst 3, 1), (1409, .iadd, 1)] := dz_sg _ 1402 (by decide +kernel)
theorem dL_law_1402 : decode cL_law 1402 = .ok (.iload_n 3, 1) := sdL_law_1402.1
theorem dL_law_1403 : decode cL_law 1403 = .ok (.iconst 2, 1) := sdL_law_1402.2.1
theorem dL_law_1404 : decode cL_law 1404 = .ok (.iadd, 1) := sdL_law_1402.2.2.1
theorem dL_law_1405 : decode cL_law 1405 = .ok (.iaload, 1) := sdL_law_1402.2.2.2.1
theorem dL_law_1406 : decode cL_law 1406 = .ok (.aload_n 0, 1) := sdL_law_1402.2.2.2.2.1
theorem dL_law_1407 : decode cL_law 1407 = .ok (.iload_n 3, 1) := sdL_law_1402.2.2.2.2.2.1
theorem dL_law_1408 : decode cL_law 1408 = .ok (.iconst 3, 1) := sdL_law_1402.2.2.2.2.2.2.1
theorem dL_law_1409 : decode cL_law 1409 = .ok (.iadd, 1) := sdL_law_1402.2.2.2.2.2.2.2.1
theorem sdL_law_1410 : dz_Seg cL_law [(1410, .iaload, 1), (1411, .invokevirtual 168, 3), (1414, .pop, 1), (1415, .aload_n 2, 1), (1416, .aload_n 0, 1), (1417, .iload_n 3, 1), (1418, .iconst 1, 1), (1419, .iadd, 1)] := dz_sg _ 1410 (by decide +kernel)
theorem dL_law_1410 : decode cL_law 1410 = .ok (.iaload, 1) := sdL_law_1410.1
theorem dL_law_1411 : decode cL_law 1411 = .ok (.invokevirtual 168, 3) := sdL_law_1410.2.1
theorem dL_law_1414 : decode cL_law 1414 = .ok (.pop, 1) := sdL_law_1410.2.2.1
theorem dL_law_1415 : decode cL_law 1415 = .ok (.aload_n 2, 1) := sdL_law_1410.2.2.2.1
theorem dL_law_1416 : decode cL_law 1416 = .ok (.aload_n 0, 1) := sdL_law_1410.2.2.2.2.1
theorem dL_law_1417 : decode cL_law 1417 = .ok (.iload_n 3, 1) := sdL_law_1410.2.2.2.2.2.1
theorem dL_law_1418 : decode cL_law 1418 = .ok (.iconst 1, 1) := sdL_law_1410.2.2.2.2.2.2.1
theorem dL_law_1419 : decode cL_law 1419 = .ok (.iadd, 1) := sdL_law_1410.2.2.2.2.2.2.2.1
theorem sdL_law_1420 : dz_Seg cL_law [(1420, .iaload, 1), (1421, .aload_n 0, 1), (1422, .iload_n 3, 1), (1423, .iconst 2, 1), (1424, .iadd, 1), (1425, .iaload, 1), (1426, .aload_n 0, 1), (1427, .iload_n 3, 1)] := dz_sg _ 1420 (by decide +kernel)
theorem dL_law_1420 : decode cL_law 1420 = .ok (.iaload, 1) := sdL_law_1420.1
theorem dL_law_1421 : decode cL_law 1421 = .ok (.aload_n 0, 1) := sdL_law_1420.2.1
theorem dL_law_1422 : decode cL_law 1422 = .ok (.iload_n 3, 1) := sdL_law_1420.2.2.1
theorem dL_law_1423 : decode cL_law 1423 = .ok (.iconst 2, 1) := sdL_law_1420.2.2.2.1
theorem dL_law_1424 : decode cL_law 1424 = .ok (.iadd, 1) := sdL_law_1420.2.2.2.2.1
theorem dL_law_1425 : decode cL_law 1425 = .ok (.iaload, 1) := sdL_law_1420.2.2.2.2.2.1
theorem dL_law_1426 : decode cL_law 1426 = .ok (.aload_n 0, 1) := sdL_law_1420.2.2.2.2.2.2.1
theorem dL_law_1427 : decode cL_law 1427 = .ok (.iload_n 3, 1) := sdL_law_1420.2.2.2.2.2.2.2.1
theorem sdL_law_1428 : dz_Seg cL_law [(1428, .iconst 3, 1), (1429, .iadd, 1), (1430, .iaload, 1), (1431, .invokevirtual 171, 3), (1434, .pop, 1), (1435, .goto 296, 3), (1438, .aload_n 1, 1), (1439, .aload_n 0, 1)] := dz_sg _ 1428 (by decide +kernel)
theorem dL_law_1428 : decode cL_law 1428 = .ok (.iconst 3, 1) := sdL_law_1428.1
theorem dL_law_1429 : decode cL_law 1429 = .ok (.iadd, 1) := sdL_law_1428.2.1
theorem dL_law_1430 : decode cL_law 1430 = .ok (.iaload, 1) := sdL_law_1428.2.2.1
theorem dL_law_1431 : decode cL_law 1431 = .ok (.invokevirtual 171, 3) := sdL_law_1428.2.2.2.1
theorem dL_law_1434 : decode cL_law 1434 = .ok (.pop, 1) := sdL_law_1428.2.2.2.2.1
theorem dL_law_1435 : decode cL_law 1435 = .ok (.goto 296, 3) := sdL_law_1428.2.2.2.2.2.1
theorem dL_law_1438 : decode cL_law 1438 = .ok (.aload_n 1, 1) := sdL_law_1428.2.2.2.2.2.2.1
theorem dL_law_1439 : decode cL_law 1439 = .ok (.aload_n 0, 1) := sdL_law_1428.2.2.2.2.2.2.2.1
theorem sdL_law_1440 : dz_Seg cL_law [(1440, .iload_n 3, 1), (1441, .iconst 1, 1), (1442, .iadd, 1), (1443, .iaload, 1), (1444, .invokevirtual 172, 3), (1447, .pop, 1), (1448, .aload_n 2, 1), (1449, .aload_n 0, 1)] := dz_sg _ 1440 (by decide +kernel)
theorem dL_law_1440 : decode cL_law 1440 = .ok (.iload_n 3, 1) := sdL_law_1440.1
theorem dL_law_1441 : decode cL_law 1441 = .ok (.iconst 1, 1) := sdL_law_1440.2.1
theorem dL_law_1442 : decode cL_law 1442 = .ok (.iadd, 1) := sdL_law_1440.2.2.1
theorem dL_law_1443 : decode cL_law 1443 = .ok (.iaload, 1) := sdL_law_1440.2.2.2.1
theorem dL_law_1444 : decode cL_law 1444 = .ok (.invokevirtual 172, 3) := sdL_law_1440.2.2.2.2.1
theorem dL_law_1447 : decode cL_law 1447 = .ok (.pop, 1) := sdL_law_1440.2.2.2.2.2.1
theorem dL_law_1448 : decode cL_law 1448 = .ok (.aload_n 2, 1) := sdL_law_1440.2.2.2.2.2.2.1
theorem dL_law_1449 : decode cL_law 1449 = .ok (.aload_n 0, 1) := sdL_law_1440.2.2.2.2.2.2.2.1
theorem sdL_law_1450 : dz_Seg cL_law [(1450, .iload_n 3, 1), (1451, .iconst 1, 1), (1452, .iadd, 1), (1453, .iaload, 1), (1454, .invokevirtual 175, 3), (1457, .pop, 1), (1458, .goto 273, 3), (1461, .aload_n 1, 1)] := dz_sg _ 1450 (by decide +kernel)
theorem dL_law_1450 : decode cL_law 1450 = .ok (.iload_n 3, 1) := sdL_law_1450.1
theorem dL_law_1451 : decode cL_law 1451 = .ok (.iconst 1, 1) := sdL_law_1450.2.1
theorem dL_law_1452 : decode cL_law 1452 = .ok (.iadd, 1) := sdL_law_1450.2.2.1
theorem dL_law_1453 : decode cL_law 1453 = .ok (.iaload, 1) := sdL_law_1450.2.2.2.1
theorem dL_law_1454 : decode cL_law 1454 = .ok (.invokevirtual 175, 3) := sdL_law_1450.2.2.2.2.1
theorem dL_law_1457 : decode cL_law 1457 = .ok (.pop, 1) := sdL_law_1450.2.2.2.2.2.1
theorem dL_law_1458 : decode cL_law 1458 = .ok (.goto 273, 3) := sdL_law_1450.2.2.2.2.2.2.1
theorem dL_law_1461 : decode cL_law 1461 = .ok (.aload_n 1, 1) := sdL_law_1450.2.2.2.2.2.2.2.1
theorem sdL_law_1462 : dz_Seg cL_law [(1462, .aload_n 0, 1), (1463, .iload_n 3, 1), (1464, .iconst 1, 1), (1465, .iadd, 1), (1466, .iaload, 1), (1467, .aload_n 0, 1), (1468, .iload_n 3, 1), (1469, .iconst 2, 1)] := dz_sg _ 1462 (by decide +kernel)
theorem dL_law_1462 : decode cL_law 1462 = .ok (.aload_n 0, 1) := sdL_law_1462.1
theorem dL_law_1463 : decode cL_law 1463 = .ok (.iload_n 3, 1) := sdL_law_1462.2.1
theorem dL_law_1464 : decode cL_law 1464 = .ok (.iconst 1, 1) := sdL_law_1462.2.2.1
theorem dL_law_1465 : decode cL_law 1465 = .ok (.iadd, 1) := sdL_law_1462.2.2.2.1
theorem dL_law_1466 : decode cL_law 1466 = .ok (.iaload, 1) := sdL_law_1462.2.2.2.2.1
theorem dL_law_1467 : decode cL_law 1467 = .ok (.aload_n 0, 1) := sdL_law_1462.2.2.2.2.2.1
theorem dL_law_1468 : decode cL_law 1468 = .ok (.iload_n 3, 1) := sdL_law_1462.2.2.2.2.2.2.1
theorem dL_law_1469 : decode cL_law 1469 = .ok (.iconst 2, 1) := sdL_law_1462.2.2.2.2.2.2.2.1
theorem sdL_law_1470 : dz_Seg cL_law [(1470, .iadd, 1), (1471, .iaload, 1), (1472, .invokevirtual 176, 3), (1475, .pop, 1), (1476, .aload_n 2, 1), (1477, .aload_n 0, 1), (1478, .iload_n 3, 1), (1479, .iconst 1, 1)] := dz_sg _ 1470 (by decide +kernel)
theorem dL_law_1470 : decode cL_law 1470 = .ok (.iadd, 1) := sdL_law_1470.1
theorem dL_law_1471 : decode cL_law 1471 = .ok (.iaload, 1) := sdL_law_1470.2.1
theorem dL_law_1472 : decode cL_law 1472 = .ok (.invokevirtual 176, 3) := sdL_law_1470.2.2.1
theorem dL_law_1475 : decode cL_law 1475 = .ok (.pop, 1) := sdL_law_1470.2.2.2.1
theorem dL_law_1476 : decode cL_law 1476 = .ok (.aload_n 2, 1) := sdL_law_1470.2.2.2.2.1
theorem dL_law_1477 : decode cL_law 1477 = .ok (.aload_n 0, 1) := sdL_law_1470.2.2.2.2.2.1
theorem dL_law_1478 : decode cL_law 1478 = .ok (.iload_n 3, 1) := sdL_law_1470.2.2.2.2.2.2.1
theorem dL_law_1479 : decode cL_law 1479 = .ok (.iconst 1, 1) := sdL_law_1470.2.2.2.2.2.2.2.1
theorem sdL_law_1480 : dz_Seg cL_law [(1480, .iadd, 1), (1481, .iaload, 1), (1482, .aload_n 0, 1), (1483, .iload_n 3, 1), (1484, .iconst 2, 1), (1485, .iadd, 1), (1486, .iaload, 1), (1487, .invokevirtual 179, 3)] := dz_sg _ 1480 (by decide +kernel)
theorem dL_law_1480 : decode cL_law 1480 = .ok (.iadd, 1) := sdL_law_1480.1
theorem dL_law_1481 : decode cL_law 1481 = .ok (.iaload, 1) := sdL_law_1480.2.1
theorem dL_law_1482 : decode cL_law 1482 = .ok (.aload_n 0, 1) := sdL_law_1480.2.2.1
theorem dL_law_1483 : decode cL_law 1483 = .ok (.iload_n 3, 1) := sdL_law_1480.2.2.2.1
theorem dL_law_1484 : decode cL_law 1484 = .ok (.iconst 2, 1) := sdL_law_1480.2.2.2.2.1
theorem dL_law_1485 : decode cL_law 1485 = .ok (.iadd, 1) := sdL_law_1480.2.2.2.2.2.1
theorem dL_law_1486 : decode cL_law 1486 = .ok (.iaload, 1) := sdL_law_1480.2.2.2.2.2.2.1
theorem dL_law_1487 : decode cL_law 1487 = .ok (.invokevirtual 179, 3) := sdL_law_1480.2.2.2.2.2.2.2.1
theorem sdL_law_1490 : dz_Seg cL_law [(1490, .pop, 1), (1491, .goto 240, 3), (1494, .aload_n 1, 1), (1495, .aload_n 0, 1), (1496, .iload_n 3, 1), (1497, .iconst 1, 1), (1498, .iadd, 1), (1499, .iaload, 1)] := dz_sg _ 1490 (by decide +kernel)
theorem dL_law_1490 : decode cL_law 1490 = .ok (.pop, 1) := sdL_law_1490.1
theorem dL_law_1491 : decode cL_law 1491 = .ok (.goto 240, 3) := sdL_law_1490.2.1
theorem dL_law_1494 : decode cL_law 1494 = .ok (.aload_n 1, 1) := sdL_law_1490.2.2.1
theorem dL_law_1495 : decode cL_law 1495 = .ok (.aload_n 0, 1) := sdL_law_1490.2.2.2.1
theorem dL_law_1496 : decode cL_law 1496 = .ok (.iload_n 3, 1) := sdL_law_1490.2.2.2.2.1
theorem dL_law_1497 : decode cL_law 1497 = .ok (.iconst 1, 1) := sdL_law_1490.2.2.2.2.2.1
theorem dL_law_1498 : decode cL_law 1498 = .ok (.iadd, 1) := sdL_law_1490.2.2.2.2.2.2.1
theorem dL_law_1499 : decode cL_law 1499 = .ok (.iaload, 1) := sdL_law_1490.2.2.2.2.2.2.2.1
theorem sdL_law_1500 : dz_Seg cL_law [(1500, .aload_n 0, 1), (1501, .iload_n 3, 1), (1502, .iconst 2, 1), (1503, .iadd, 1), (1504, .iaload, 1), (1505, .invokevirtual 180, 3), (1508, .pop, 1), (1509, .aload_n 2, 1)] := dz_sg _ 1500 (by decide +kernel)
theorem dL_law_1500 : decode cL_law 1500 = .ok (.aload_n 0, 1) := sdL_law_1500.1
theorem dL_law_1501 : decode cL_law 1501 = .ok (.iload_n 3, 1) := sdL_law_1500.2.1
theorem dL_law_1502 : decode cL_law 1502 = .ok (.iconst 2, 1) := sdL_law_1500.2.2.1
theorem dL_law_1503 : decode cL_law 1503 = .ok (.iadd, 1) := sdL_law_1500.2.2.2.1
theorem dL_law_1504 : decode cL_law 1504 = .ok (.iaload, 1) := sdL_law_1500.2.2.2.2.1
theorem dL_law_1505 : decode cL_law 1505 = .ok (.invokevirtual 180, 3) := sdL_law_1500.2.2.2.2.2.1
theorem dL_law_1508 : decode cL_law 1508 = .ok (.pop, 1) := sdL_law_1500.2.2.2.2.2.2.1
theorem dL_law_1509 : decode cL_law 1509 = .ok (.aload_n 2, 1) := sdL_law_1500.2.2.2.2.2.2.2.1
theorem sdL_law_1510 : dz_Seg cL_law [(1510, .aload_n 0, 1), (1511, .iload_n 3, 1), (1512, .iconst 1, 1), (1513, .iadd, 1), (1514, .iaload, 1), (1515, .aload_n 0, 1), (1516, .iload_n 3, 1), (1517, .iconst 2, 1)] := dz_sg _ 1510 (by decide +kernel)
theorem dL_law_1510 : decode cL_law 1510 = .ok (.aload_n 0, 1) := sdL_law_1510.1
theorem dL_law_1511 : decode cL_law 1511 = .ok (.iload_n 3, 1) := sdL_law_1510.2.1
theorem dL_law_1512 : decode cL_law 1512 = .ok (.iconst 1, 1) := sdL_law_1510.2.2.1
theorem dL_law_1513 : decode cL_law 1513 = .ok (.iadd, 1) := sdL_law_1510.2.2.2.1
theorem dL_law_1514 : decode cL_law 1514 = .ok (.iaload, 1) := sdL_law_1510.2.2.2.2.1
theorem dL_law_1515 : decode cL_law 1515 = .ok (.aload_n 0, 1) := sdL_law_1510.2.2.2.2.2.1
theorem dL_law_1516 : decode cL_law 1516 = .ok (.iload_n 3, 1) := sdL_law_1510.2.2.2.2.2.2.1
theorem dL_law_1517 : decode cL_law 1517 = .ok (.iconst 2, 1) := sdL_law_1510.2.2.2.2.2.2.2.1
theorem sdL_law_1518 : dz_Seg cL_law [(1518, .iadd, 1), (1519, .iaload, 1), (1520, .invokevirtual 183, 3), (1523, .pop, 1), (1524, .goto 207, 3), (1527, .aload_n 1, 1), (1528, .aload_n 0, 1), (1529, .iload_n 3, 1)] := dz_sg _ 1518 (by decide +kernel)
theorem dL_law_1518 : decode cL_law 1518 = .ok (.iadd, 1) := sdL_law_1518.1
theorem dL_law_1519 : decode cL_law 1519 = .ok (.iaload, 1) := sdL_law_1518.2.1
theorem dL_law_1520 : decode cL_law 1520 = .ok (.invokevirtual 183, 3) := sdL_law_1518.2.2.1
theorem dL_law_1523 : decode cL_law 1523 = .ok (.pop, 1) := sdL_law_1518.2.2.2.1
theorem dL_law_1524 : decode cL_law 1524 = .ok (.goto 207, 3) := sdL_law_1518.2.2.2.2.1
theorem dL_law_1527 : decode cL_law 1527 = .ok (.aload_n 1, 1) := sdL_law_1518.2.2.2.2.2.1
theorem dL_law_1528 : decode cL_law 1528 = .ok (.aload_n 0, 1) := sdL_law_1518.2.2.2.2.2.2.1
theorem dL_law_1529 : decode cL_law 1529 = .ok (.iload_n 3, 1) := sdL_law_1518.2.2.2.2.2.2.2.1
theorem sdL_law_1530 : dz_Seg cL_law [(1530, .iconst 1, 1), (1531, .iadd, 1), (1532, .iaload, 1), (1533, .aload_n 0, 1), (1534, .iload_n 3, 1), (1535, .iconst 2, 1), (1536, .iadd, 1), (1537, .iaload, 1)] := dz_sg _ 1530 (by decide +kernel)
theorem dL_law_1530 : decode cL_law 1530 = .ok (.iconst 1, 1) := sdL_law_1530.1
theorem dL_law_1531 : decode cL_law 1531 = .ok (.iadd, 1) := sdL_law_1530.2.1
theorem dL_law_1532 : decode cL_law 1532 = .ok (.iaload, 1) := sdL_law_1530.2.2.1
theorem dL_law_1533 : decode cL_law 1533 = .ok (.aload_n 0, 1) := sdL_law_1530.2.2.2.1
theorem dL_law_1534 : decode cL_law 1534 = .ok (.iload_n 3, 1) := sdL_law_1530.2.2.2.2.1
theorem dL_law_1535 : decode cL_law 1535 = .ok (.iconst 2, 1) := sdL_law_1530.2.2.2.2.2.1
theorem dL_law_1536 : decode cL_law 1536 = .ok (.iadd, 1) := sdL_law_1530.2.2.2.2.2.2.1
theorem dL_law_1537 : decode cL_law 1537 = .ok (.iaload, 1) := sdL_law_1530.2.2.2.2.2.2.2.1
theorem sdL_law_1538 : dz_Seg cL_law [(1538, .aload_n 0, 1), (1539, .iload_n 3, 1), (1540, .iconst 3, 1), (1541, .iadd, 1), (1542, .iaload, 1), (1543, .aload_n 0, 1), (1544, .iload_n 3, 1), (1545, .iconst 4, 1)] := dz_sg _ 1538 (by decide +kernel)
theorem dL_law_1538 : decode cL_law 1538 = .ok (.aload_n 0, 1) := sdL_law_1538.1
theorem dL_law_1539 : decode cL_law 1539 = .ok (.iload_n 3, 1) := sdL_law_1538.2.1
theorem dL_law_1540 : decode cL_law 1540 = .ok (.iconst 3, 1) := sdL_law_1538.2.2.1
theorem dL_law_1541 : decode cL_law 1541 = .ok (.iadd, 1) := sdL_law_1538.2.2.2.1
theorem dL_law_1542 : decode cL_law 1542 = .ok (.iaload, 1) := sdL_law_1538.2.2.2.2.1
theorem dL_law_1543 : decode cL_law 1543 = .ok (.aload_n 0, 1) := sdL_law_1538.2.2.2.2.2.1
theorem dL_law_1544 : decode cL_law 1544 = .ok (.iload_n 3, 1) := sdL_law_1538.2.2.2.2.2.2.1
theorem dL_law_1545 : decode cL_law 1545 = .ok (.iconst 4, 1) := sdL_law_1538.2.2.2.2.2.2.2.1
theorem sdL_law_1546 : dz_Seg cL_law [(1546, .iadd, 1), (1547, .iaload, 1), (1548, .invokevirtual 184, 3), (1551, .pop, 1), (1552, .aload_n 2, 1), (1553, .aload_n 0, 1), (1554, .iload_n 3, 1), (1555, .iconst 1, 1)] := dz_sg _ 1546 (by decide +kernel)
theorem dL_law_1546 : decode cL_law 1546 = .ok (.iadd, 1) := sdL_law_1546.1
theorem dL_law_1547 : decode cL_law 1547 = .ok (.iaload, 1) := sdL_law_1546.2.1
theorem dL_law_1548 : decode cL_law 1548 = .ok (.invokevirtual 184, 3) := sdL_law_1546.2.2.1
theorem dL_law_1551 : decode cL_law 1551 = .ok (.pop, 1) := sdL_law_1546.2.2.2.1
theorem dL_law_1552 : decode cL_law 1552 = .ok (.aload_n 2, 1) := sdL_law_1546.2.2.2.2.1
theorem dL_law_1553 : decode cL_law 1553 = .ok (.aload_n 0, 1) := sdL_law_1546.2.2.2.2.2.1
theorem dL_law_1554 : decode cL_law 1554 = .ok (.iload_n 3, 1) := sdL_law_1546.2.2.2.2.2.2.1
theorem dL_law_1555 : decode cL_law 1555 = .ok (.iconst 1, 1) := sdL_law_1546.2.2.2.2.2.2.2.1
theorem sdL_law_1556 : dz_Seg cL_law [(1556, .iadd, 1), (1557, .iaload, 1), (1558, .aload_n 0, 1), (1559, .iload_n 3, 1), (1560, .iconst 2, 1), (1561, .iadd, 1), (1562, .iaload, 1), (1563, .aload_n 0, 1)] := dz_sg _ 1556 (by decide +kernel)
theorem dL_law_1556 : decode cL_law 1556 = .ok (.iadd, 1) := sdL_law_1556.1
theorem dL_law_1557 : decode cL_law 1557 = .ok (.iaload, 1) := sdL_law_1556.2.1
theorem dL_law_1558 : decode cL_law 1558 = .ok (.aload_n 0, 1) := sdL_law_1556.2.2.1
theorem dL_law_1559 : decode cL_law 1559 = .ok (.iload_n 3, 1) := sdL_law_1556.2.2.2.1
theorem dL_law_1560 : decode cL_law 1560 = .ok (.iconst 2, 1) := sdL_law_1556.2.2.2.2.1
theorem dL_law_1561 : decode cL_law 1561 = .ok (.iadd, 1) := sdL_law_1556.2.2.2.2.2.1
theorem dL_law_1562 : decode cL_law 1562 = .ok (.iaload, 1) := sdL_law_1556.2.2.2.2.2.2.1
theorem dL_law_1563 : decode cL_law 1563 = .ok (.aload_n 0, 1) := sdL_law_1556.2.2.2.2.2.2.2.1
theorem sdL_law_1564 : dz_Seg cL_law [(1564, .iload_n 3, 1), (1565, .iconst 3, 1), (1566, .iadd, 1), (1567, .iaload, 1), (1568, .aload_n 0, 1), (1569, .iload_n 3, 1), (1570, .iconst 4, 1), (1571, .iadd, 1)] := dz_sg _ 1564 (by decide +kernel)
theorem dL_law_1564 : decode cL_law 1564 = .ok (.iload_n 3, 1) := sdL_law_1564.1
theorem dL_law_1565 : decode cL_law 1565 = .ok (.iconst 3, 1) := sdL_law_1564.2.1
theorem dL_law_1566 : decode cL_law 1566 = .ok (.iadd, 1) := sdL_law_1564.2.2.1
theorem dL_law_1567 : decode cL_law 1567 = .ok (.iaload, 1) := sdL_law_1564.2.2.2.1
theorem dL_law_1568 : decode cL_law 1568 = .ok (.aload_n 0, 1) := sdL_law_1564.2.2.2.2.1
theorem dL_law_1569 : decode cL_law 1569 = .ok (.iload_n 3, 1) := sdL_law_1564.2.2.2.2.2.1
theorem dL_law_1570 : decode cL_law 1570 = .ok (.iconst 4, 1) := sdL_law_1564.2.2.2.2.2.2.1
theorem dL_law_1571 : decode cL_law 1571 = .ok (.iadd, 1) := sdL_law_1564.2.2.2.2.2.2.2.1
theorem sdL_law_1572 : dz_Seg cL_law [(1572, .iaload, 1), (1573, .invokevirtual 188, 3), (1576, .pop, 1), (1577, .goto 154, 3), (1580, .aload_n 1, 1), (1581, .aload_n 0, 1), (1582, .iload_n 3, 1), (1583, .iconst 1, 1)] := dz_sg _ 1572 (by decide +kernel)
theorem dL_law_1572 : decode cL_law 1572 = .ok (.iaload, 1) := sdL_law_1572.1
theorem dL_law_1573 : decode cL_law 1573 = .ok (.invokevirtual 188, 3) := sdL_law_1572.2.1
theorem dL_law_1576 : decode cL_law 1576 = .ok (.pop, 1) := sdL_law_1572.2.2.1
theorem dL_law_1577 : decode cL_law 1577 = .ok (.goto 154, 3) := sdL_law_1572.2.2.2.1
theorem dL_law_1580 : decode cL_law 1580 = .ok (.aload_n 1, 1) := sdL_law_1572.2.2.2.2.1
theorem dL_law_1581 : decode cL_law 1581 = .ok (.aload_n 0, 1) := sdL_law_1572.2.2.2.2.2.1
theorem dL_law_1582 : decode cL_law 1582 = .ok (.iload_n 3, 1) := sdL_law_1572.2.2.2.2.2.2.1
theorem dL_law_1583 : decode cL_law 1583 = .ok (.iconst 1, 1) := sdL_law_1572.2.2.2.2.2.2.2.1
theorem sdL_law_1584 : dz_Seg cL_law [(1584, .iadd, 1), (1585, .iaload, 1), (1586, .invokevirtual 189, 3), (1589, .pop, 1), (1590, .aload_n 2, 1), (1591, .aload_n 0, 1), (1592, .iload_n 3, 1), (1593, .iconst 1, 1)] := dz_sg _ 1584 (by decide +kernel)
theorem dL_law_1584 : decode cL_law 1584 = .ok (.iadd, 1) := sdL_law_1584.1
theorem dL_law_1585 : decode cL_law 1585 = .ok (.iaload, 1) := sdL_law_1584.2.1
theorem dL_law_1586 : decode cL_law 1586 = .ok (.invokevirtual 189, 3) := sdL_law_1584.2.2.1
theorem dL_law_1589 : decode cL_law 1589 = .ok (.pop, 1) := sdL_law_1584.2.2.2.1
theorem dL_law_1590 : decode cL_law 1590 = .ok (.aload_n 2, 1) := sdL_law_1584.2.2.2.2.1
theorem dL_law_1591 : decode cL_law 1591 = .ok (.aload_n 0, 1) := sdL_law_1584.2.2.2.2.2.1
theorem dL_law_1592 : decode cL_law 1592 = .ok (.iload_n 3, 1) := sdL_law_1584.2.2.2.2.2.2.1
theorem dL_law_1593 : decode cL_law 1593 = .ok (.iconst 1, 1) := sdL_law_1584.2.2.2.2.2.2.2.1
theorem sdL_law_1594 : dz_Seg cL_law [(1594, .iadd, 1), (1595, .iaload, 1), (1596, .invokevirtual 192, 3), (1599, .pop, 1), (1600, .goto 131, 3), (1603, .aload_n 1, 1), (1604, .aload_n 0, 1), (1605, .iload_n 3, 1)] := dz_sg _ 1594 (by decide +kernel)
theorem dL_law_1594 : decode cL_law 1594 = .ok (.iadd, 1) := sdL_law_1594.1
theorem dL_law_1595 : decode cL_law 1595 = .ok (.iaload, 1) := sdL_law_1594.2.1
theorem dL_law_1596 : decode cL_law 1596 = .ok (.invokevirtual 192, 3) := sdL_law_1594.2.2.1
theorem dL_law_1599 : decode cL_law 1599 = .ok (.pop, 1) := sdL_law_1594.2.2.2.1
theorem dL_law_1600 : decode cL_law 1600 = .ok (.goto 131, 3) := sdL_law_1594.2.2.2.2.1
theorem dL_law_1603 : decode cL_law 1603 = .ok (.aload_n 1, 1) := sdL_law_1594.2.2.2.2.2.1
theorem dL_law_1604 : decode cL_law 1604 = .ok (.aload_n 0, 1) := sdL_law_1594.2.2.2.2.2.2.1
theorem dL_law_1605 : decode cL_law 1605 = .ok (.iload_n 3, 1) := sdL_law_1594.2.2.2.2.2.2.2.1
theorem sdL_law_1606 : dz_Seg cL_law [(1606, .iconst 1, 1), (1607, .iadd, 1), (1608, .iaload, 1), (1609, .invokevirtual 193, 3), (1612, .pop, 1), (1613, .aload_n 2, 1), (1614, .aload_n 0, 1), (1615, .iload_n 3, 1)] := dz_sg _ 1606 (by decide +kernel)
theorem dL_law_1606 : decode cL_law 1606 = .ok (.iconst 1, 1) := sdL_law_1606.1
theorem dL_law_1607 : decode cL_law 1607 = .ok (.iadd, 1) := sdL_law_1606.2.1
theorem dL_law_1608 : decode cL_law 1608 = .ok (.iaload, 1) := sdL_law_1606.2.2.1
theorem dL_law_1609 : decode cL_law 1609 = .ok (.invokevirtual 193, 3) := sdL_law_1606.2.2.2.1
theorem dL_law_1612 : decode cL_law 1612 = .ok (.pop, 1) := sdL_law_1606.2.2.2.2.1
theorem dL_law_1613 : decode cL_law 1613 = .ok (.aload_n 2, 1) := sdL_law_1606.2.2.2.2.2.1
theorem dL_law_1614 : decode cL_law 1614 = .ok (.aload_n 0, 1) := sdL_law_1606.2.2.2.2.2.2.1
theorem dL_law_1615 : decode cL_law 1615 = .ok (.iload_n 3, 1) := sdL_law_1606.2.2.2.2.2.2.2.1
theorem sdL_law_1616 : dz_Seg cL_law [(1616, .iconst 1, 1), (1617, .iadd, 1), (1618, .iaload, 1), (1619, .invokevirtual 196, 3), (1622, .pop, 1), (1623, .goto 108, 3), (1626, .aload_n 1, 1), (1627, .aload_n 0, 1)] := dz_sg _ 1616 (by decide +kernel)
theorem dL_law_1616 : decode cL_law 1616 = .ok (.iconst 1, 1) := sdL_law_1616.1
theorem dL_law_1617 : decode cL_law 1617 = .ok (.iadd, 1) := sdL_law_1616.2.1
theorem dL_law_1618 : decode cL_law 1618 = .ok (.iaload, 1) := sdL_law_1616.2.2.1
theorem dL_law_1619 : decode cL_law 1619 = .ok (.invokevirtual 196, 3) := sdL_law_1616.2.2.2.1
theorem dL_law_1622 : decode cL_law 1622 = .ok (.pop, 1) := sdL_law_1616.2.2.2.2.1
theorem dL_law_1623 : decode cL_law 1623 = .ok (.goto 108, 3) := sdL_law_1616.2.2.2.2.2.1
theorem dL_law_1626 : decode cL_law 1626 = .ok (.aload_n 1, 1) := sdL_law_1616.2.2.2.2.2.2.1
theorem dL_law_1627 : decode cL_law 1627 = .ok (.aload_n 0, 1) := sdL_law_1616.2.2.2.2.2.2.2.1
theorem sdL_law_1628 : dz_Seg cL_law [(1628, .iload_n 3, 1), (1629, .iconst 1, 1), (1630, .iadd, 1), (1631, .iaload, 1), (1632, .invokevirtual 197, 3), (1635, .pop, 1), (1636, .aload_n 2, 1), (1637, .aload_n 0, 1)] := dz_sg _ 1628 (by decide +kernel)
theorem dL_law_1628 : decode cL_law 1628 = .ok (.iload_n 3, 1) := sdL_law_1628.1
theorem dL_law_1629 : decode cL_law 1629 = .ok (.iconst 1, 1) := sdL_law_1628.2.1
theorem dL_law_1630 : decode cL_law 1630 = .ok (.iadd, 1) := sdL_law_1628.2.2.1
theorem dL_law_1631 : decode cL_law 1631 = .ok (.iaload, 1) := sdL_law_1628.2.2.2.1
theorem dL_law_1632 : decode cL_law 1632 = .ok (.invokevirtual 197, 3) := sdL_law_1628.2.2.2.2.1
theorem dL_law_1635 : decode cL_law 1635 = .ok (.pop, 1) := sdL_law_1628.2.2.2.2.2.1
theorem dL_law_1636 : decode cL_law 1636 = .ok (.aload_n 2, 1) := sdL_law_1628.2.2.2.2.2.2.1
theorem dL_law_1637 : decode cL_law 1637 = .ok (.aload_n 0, 1) := sdL_law_1628.2.2.2.2.2.2.2.1
