theorem dX7_choose_5 : decode cX7_choose 5 = .ok (.iload_n 3, 1) := by decide +kernel
theorem dX7_choose_6 : decode cX7_choose 6 = .ok (.iconst (-1), 1) := by decide +kernel
theorem dX7_choose_7 : decode cX7_choose 7 = .ok (.if_icmp .ne 14, 3) := by decide +kernel
theorem dX7_choose_10 : decode cX7_choose 10 = .ok (.iload_n 3, 1) := by decide +kernel
theorem dX7_choose_11 : decode cX7_choose 11 = .ok (.iconst (-1), 1) := by decide +kernel
theorem dX7_choose_12 : decode cX7_choose 12 = .ok (.if_icmp .ne 15, 3) := by decide +kernel
theorem dX7_choose_15 : decode cX7_choose 15 = .ok (.iload 4, 2) := by decide +kernel
theorem dX7_choose_17 : decode cX7_choose 17 = .ok (.iconst (-1), 1) := by decide +kernel
theorem dX7_choose_18 : decode cX7_choose 18 = .ok (.if_icmp .eq 9, 3) := by decide +kernel
theorem dX7_choose_21 : decode cX7_choose 21 = .ok (.aload_n 0, 1) := by decide +kernel
theorem dX7_choose_22 : decode cX7_choose 22 = .ok (.iconst 1, 1) := by decide +kernel
theorem dX7_choose_23 : decode cX7_choose 23 = .ok (.invokevirtual 102, 3) := by decide +kernel
theorem dX7_choose_26 : decode cX7_choose 26 = .ok (.ireturn, 1) := by decide +kernel
theorem dX7_choose_27 : decode cX7_choose 27 = .ok (.iload_n 2, 1) := by decide +kernel
theorem dX7_choose_28 : decode cX7_choose 28 = .ok (.iconst (-1), 1) := by decide +kernel
theorem dX7_choose_29 : decode cX7_choose 29 = .ok (.if_icmp .eq 14, 3) := by decide +kernel
theorem dX7_choose_32 : decode cX7_choose 32 = .ok (.iload_n 2, 1) := by decide +kernel
theorem dX7_choose_33 : decode cX7_choose 33 = .ok (.iload_n 3, 1) := by decide +kernel
theorem dX7_choose_34 : decode cX7_choose 34 = .ok (.if_icmp .eq 20, 3) := by decide +kernel
theorem dX7_choose_37 : decode cX7_choose 37 = .ok (.iload_n 2, 1) := by decide +kernel
theorem dX7_choose_38 : decode cX7_choose 38 = .ok (.iload 4, 2) := by decide +kernel
theorem dX7_choose_40 : decode cX7_choose 40 = .ok (.if_icmp .eq 14, 3) := by decide +kernel
theorem dX7_choose_43 : decode cX7_choose 43 = .ok (.iload_n 3, 1) := by decide +kernel
theorem dX7_choose_44 : decode cX7_choose 44 = .ok (.iconst (-1), 1) := by decide +kernel
theorem dX7_choose_45 : decode cX7_choose 45 = .ok (.if_icmp .eq 15, 3) := by decide +kernel
theorem dX7_choose_48 : decode cX7_choose 48 = .ok (.iload_n 3, 1) := by decide +kernel
theorem dX7_choose_49 : decode cX7_choose 49 = .ok (.iload 4, 2) := by decide +kernel
theorem dX7_choose_51 : decode cX7_choose 51 = .ok (.if_icmp .ne 9, 3) := by decide +kernel
theorem dX7_choose_54 : decode cX7_choose 54 = .ok (.aload_n 0, 1) := by decide +kernel
theorem dX7_choose_55 : decode cX7_choose 55 = .ok (.iconst 1, 1) := by decide +kernel
theorem dX7_choose_56 : decode cX7_choose 56 = .ok (.invokevirtual 102, 3) := by decide +kernel
theorem dX7_choose_59 : decode cX7_choose 59 = .ok (.ireturn, 1) := by decide +kernel
theorem dX7_choose_60 : decode cX7_choose 60 = .ok (.aload_n 0, 1) := by decide +kernel
theorem dX7_choose_61 : decode cX7_choose 61 = .ok (.iload_n 1, 1) := by decide +kernel
theorem dX7_choose_62 : decode cX7_choose 62 = .ok (.invokevirtual 206, 3) := by decide +kernel
theorem dX7_choose_65 : decode cX7_choose 65 = .ok (.ifCond .eq 28, 3) := by decide +kernel
theorem dX7_choose_68 : decode cX7_choose 68 = .ok (.aload_n 0, 1) := by decide +kernel
theorem dX7_choose_69 : decode cX7_choose 69 = .ok (.iload_n 2, 1) := by decide +kernel
theorem dX7_choose_70 : decode cX7_choose 70 = .ok (.invokevirtual 406, 3) := by decide +kernel
theorem dX7_choose_73 : decode cX7_choose 73 = .ok (.ifCond .eq 20, 3) := by decide +kernel
theorem dX7_choose_76 : decode cX7_choose 76 = .ok (.aload_n 0, 1) := by decide +kernel
theorem dX7_choose_77 : decode cX7_choose 77 = .ok (.iload_n 3, 1) := by decide +kernel
theorem dX7_choose_78 : decode cX7_choose 78 = .ok (.invokevirtual 406, 3) := by decide +kernel
theorem dX7_choose_81 : decode cX7_choose 81 = .ok (.ifCond .eq 12, 3) := by decide +kernel
theorem dX7_choose_84 : decode cX7_choose 84 = .ok (.aload_n 0, 1) := by decide +kernel
theorem dX7_choose_85 : decode cX7_choose 85 = .ok (.iload 4, 2) := by decide +kernel
theorem dX7_choose_87 : decode cX7_choose 87 = .ok (.invokevirtual 406, 3) := by decide +kernel
theorem dX7_choose_90 : decode cX7_choose 90 = .ok (.ifCond .ne 9, 3) := by decide +kernel
theorem dX7_choose_93 : decode cX7_choose 93 = .ok (.aload_n 0, 1) := by decide +kernel
theorem dX7_choose_94 : decode cX7_choose 94 = .ok (.iconst 2, 1) := by decide +kernel
theorem dX7_choose_95 : decode cX7_choose 95 = .ok (.invokevirtual 102, 3) := by decide +kernel
theorem dX7_choose_98 : decode cX7_choose 98 = .ok (.ireturn, 1) := by decide +kernel
theorem dX7_choose_99 : decode cX7_choose 99 = .ok (.aload_n 0, 1) := by decide +kernel
theorem dX7_choose_100 : decode cX7_choose 100 = .ok (.getfield 40, 3) := by decide +kernel
theorem dX7_choose_103 : decode cX7_choose 103 = .ok (.iload_n 1, 1) := by decide +kernel
theorem dX7_choose_104 : decode cX7_choose 104 = .ok (.iconst 0, 1) := by decide +kernel
theorem dX7_choose_105 : decode cX7_choose 105 = .ok (.invokevirtual 226, 3) := by decide +kernel
theorem dX7_choose_108 : decode cX7_choose 108 = .ok (.iload_n 2, 1) := by decide +kernel
theorem dX7_choose_109 : decode cX7_choose 109 = .ok (.if_icmp .ne 36, 3) := by decide +kernel
theorem dX7_choose_112 : decode cX7_choose 112 = .ok (.aload_n 0, 1) := by decide +kernel
theorem dX7_choose_113 : decode cX7_choose 113 = .ok (.getfield 40, 3) := by decide +kernel
theorem dX7_choose_116 : decode cX7_choose 116 = .ok (.iload_n 1, 1) := by decide +kernel
theorem dX7_choose_117 : decode cX7_choose 117 = .ok (.iconst 1, 1) := by decide +kernel
theorem dX7_choose_118 : decode cX7_choose 118 = .ok (.invokevirtual 226, 3) := by decide +kernel
theorem dX7_choose_121 : decode cX7_choose 121 = .ok (.iload_n 3, 1) := by decide +kernel
theorem dX7_choose_122 : decode cX7_choose 122 = .ok (.if_icmp .ne 23, 3) := by decide +kernel
theorem dX7_choose_125 : decode cX7_choose 125 = .ok (.aload_n 0, 1) := by decide +kernel
theorem dX7_choose_126 : decode cX7_choose 126 = .ok (.getfield 40, 3) := by decide +kernel
theorem dX7_choose_129 : decode cX7_choose 129 = .ok (.iload_n 1, 1) := by decide +kernel
theorem dX7_choose_130 : decode cX7_choose 130 = .ok (.iconst 2, 1) := by decide +kernel
theorem dX7_choose_131 : decode cX7_choose 131 = .ok (.invokevirtual 226, 3) := by decide +kernel
theorem dX7_choose_134 : decode cX7_choose 134 = .ok (.iload 4, 2) := by decide +kernel
theorem dX7_choose_136 : decode cX7_choose 136 = .ok (.if_icmp .ne 9, 3) := by decide +kernel
theorem dX7_choose_139 : decode cX7_choose 139 = .ok (.aload_n 0, 1) := by decide +kernel
theorem dX7_choose_140 : decode cX7_choose 140 = .ok (.iconst 4, 1) := by decide +kernel
theorem dX7_choose_141 : decode cX7_choose 141 = .ok (.invokevirtual 102, 3) := by decide +kernel
theorem dX7_choose_144 : decode cX7_choose 144 = .ok (.ireturn, 1) := by decide +kernel
theorem dX7_choose_145 : decode cX7_choose 145 = .ok (.aload_n 0, 1) := by decide +kernel
theorem dX7_choose_146 : decode cX7_choose 146 = .ok (.getfield 40, 3) := by decide +kernel
theorem dX7_choose_149 : decode cX7_choose 149 = .ok (.getfield 219, 3) := by decide +kernel
theorem dX7_choose_152 : decode cX7_choose 152 = .ok (.iload_n 1, 1) := by decide +kernel
theorem dX7_choose_153 : decode cX7_choose 153 = .ok (.invokestatic 175, 3) := by decide +kernel
theorem dX7_choose_156 : decode cX7_choose 156 = .ok (.istore 5, 2) := by decide +kernel
theorem dX7_choose_158 : decode cX7_choose 158 = .ok (.aload_n 0, 1) := by decide +kernel
theorem dX7_choose_159 : decode cX7_choose 159 = .ok (.getfield 33, 3) := by decide +kernel
theorem dX7_choose_162 : decode cX7_choose 162 = .ok (.aload_n 0, 1) := by decide +kernel
theorem dX7_choose_163 : decode cX7_choose 163 = .ok (.getfield 26, 3) := by decide +kernel
theorem dX7_choose_166 : decode cX7_choose 166 = .ok (.invokevirtual 396, 3) := by decide +kernel
theorem dX7_choose_169 : decode cX7_choose 169 = .ok (.aload_n 0, 1) := by decide +kernel
theorem dX7_choose_170 : decode cX7_choose 170 = .ok (.getfield 26, 3) := by decide +kernel
theorem dX7_choose_173 : decode cX7_choose 173 = .ok (.aload_n 0, 1) := by decide +kernel
theorem dX7_choose_174 : decode cX7_choose 174 = .ok (.getfield 40, 3) := by decide +kernel
theorem dX7_choose_177 : decode cX7_choose 177 = .ok (.getfield 222, 3) := by decide +kernel
theorem dX7_choose_180 : decode cX7_choose 180 = .ok (.iload_n 1, 1) := by decide +kernel
theorem dX7_choose_181 : decode cX7_choose 181 = .ok (.invokestatic 175, 3) := by decide +kernel
theorem dX7_choose_184 : decode cX7_choose 184 = .ok (.iload_n 2, 1) := by decide +kernel
theorem dX7_choose_185 : decode cX7_choose 185 = .ok (.iload_n 3, 1) := by decide +kernel
theorem dX7_choose_186 : decode cX7_choose 186 = .ok (.iload 4, 2) := by decide +kernel
theorem dX7_choose_188 : decode cX7_choose 188 = .ok (.invokevirtual 283, 3) := by decide +kernel
theorem dX7_choose_191 : decode cX7_choose 191 = .ok (.aload_n 0, 1) := by decide +kernel
theorem dX7_choose_192 : decode cX7_choose 192 = .ok (.iload 5, 2) := by decide +kernel
theorem dX7_choose_194 : decode cX7_choose 194 = .ok (.invokevirtual 122, 3) := by decide +kernel
theorem dX7_choose_197 : decode cX7_choose 197 = .ok (.ireturn, 1) := by decide +kernel
theorem dX7_law_0 : decode cX7_law 0 = .ok (.iload_n 1, 1) := by decide +kernel
theorem dX7_law_1 : decode cX7_law 1 = .ok (.ifCond .lt 8, 3) := by decide +kernel
theorem dX7_law_4 : decode cX7_law 4 = .ok (.iload_n 1, 1) := by decide +kernel
theorem dX7_law_5 : decode cX7_law 5 = .ok (.iconst 2, 1) := by decide +kernel
theorem dX7_law_6 : decode cX7_law 6 = .ok (.if_icmp .le 9, 3) := by decide +kernel
theorem dX7_law_9 : decode cX7_law 9 = .ok (.aload_n 0, 1) := by decide +kernel
theorem dX7_law_10 : decode cX7_law 10 = .ok (.iconst 1, 1) := by decide +kernel
theorem dX7_law_11 : decode cX7_law 11 = .ok (.invokevirtual 102, 3) := by decide +kernel
theorem dX7_law_14 : decode cX7_law 14 = .ok (.ireturn, 1) := by decide +kernel
theorem dX7_law_15 : decode cX7_law 15 = .ok (.aload_n 0, 1) := by decide +kernel
theorem dX7_law_16 : decode cX7_law 16 = .ok (.getfield 26, 3) := by decide +kernel
theorem dX7_law_19 : decode cX7_law 19 = .ok (.getfield 143, 3) := by decide +kernel
theorem dX7_law_22 : decode cX7_law 22 = .ok (.istore_n 2, 1) := by decide +kernel
theorem dX7_law_23 : decode cX7_law 23 = .ok (.iload_n 2, 1) := by decide +kernel
theorem dX7_law_24 : decode cX7_law 24 = .ok (.iload_n 1, 1) := by decide +kernel
theorem dX7_law_25 : decode cX7_law 25 = .ok (.if_icmp .ne 9, 3) := by decide +kernel
theorem dX7_law_28 : decode cX7_law 28 = .ok (.aload_n 0, 1) := by decide +kernel
theorem dX7_law_29 : decode cX7_law 29 = .ok (.iconst 4, 1) := by decide +kernel
theorem dX7_law_30 : decode cX7_law 30 = .ok (.invokevirtual 102, 3) := by decide +kernel
theorem dX7_law_33 : decode cX7_law 33 = .ok (.ireturn, 1) := by decide +kernel
theorem dX7_law_34 : decode cX7_law 34 = .ok (.aload_n 0, 1) := by decide +kernel
theorem dX7_law_35 : decode cX7_law 35 = .ok (.getfield 33, 3) := by decide +kernel
theorem dX7_law_38 : decode cX7_law 38 = .ok (.aload_n 0, 1) := by decide +kernel
theorem dX7_law_39 : decode cX7_law 39 = .ok (.getfield 26, 3) := by decide +kernel
theorem dX7_law_42 : decode cX7_law 42 = .ok (.invokevirtual 396, 3) := by decide +kernel
theorem dX7_law_45 : decode cX7_law 45 = .ok (.aload_n 0, 1) := by decide +kernel
theorem dX7_law_46 : decode cX7_law 46 = .ok (.getfield 26, 3) := by decide +kernel
theorem dX7_law_49 : decode cX7_law 49 = .ok (.iload_n 1, 1) := by decide +kernel
theorem dX7_law_50 : decode cX7_law 50 = .ok (.putfield 143, 3) := by decide +kernel
theorem dX7_law_53 : decode cX7_law 53 = .ok (.aload_n 0, 1) := by decide +kernel
theorem dX7_law_54 : decode cX7_law 54 = .ok (.iload_n 2, 1) := by decide +kernel
theorem dX7_law_55 : decode cX7_law 55 = .ok (.invokevirtual 122, 3) := by decide +kernel
theorem dX7_law_58 : decode cX7_law 58 = .ok (.ireturn, 1) := by decide +kernel
theorem dX7_prefer_0 : decode cX7_prefer 0 = .ok (.iload_n 1, 1) := by decide +kernel
theorem dX7_prefer_1 : decode cX7_prefer 1 = .ok (.ifCond .lt 9, 3) := by decide +kernel
theorem dX7_prefer_4 : decode cX7_prefer 4 = .ok (.iload_n 1, 1) := by decide +kernel
theorem dX7_prefer_5 : decode cX7_prefer 5 = .ok (.bipush 100, 2) := by decide +kernel
theorem dX7_prefer_7 : decode cX7_prefer 7 = .ok (.if_icmp .le 9, 3) := by decide +kernel
theorem dX7_prefer_10 : decode cX7_prefer 10 = .ok (.aload_n 0, 1) := by decide +kernel
theorem dX7_prefer_11 : decode cX7_prefer 11 = .ok (.iconst 1, 1) := by decide +kernel
theorem dX7_prefer_12 : decode cX7_prefer 12 = .ok (.invokevirtual 102, 3) := by decide +kernel
theorem dX7_prefer_15 : decode cX7_prefer 15 = .ok (.ireturn, 1) := by decide +kernel
theorem dX7_prefer_16 : decode cX7_prefer 16 = .ok (.aload_n 0, 1) := by decide +kernel
theorem dX7_prefer_17 : decode cX7_prefer 17 = .ok (.getfield 26, 3) := by decide +kernel
theorem dX7_prefer_20 : decode cX7_prefer 20 = .ok (.getfield 146, 3) := by decide +kernel
theorem dX7_prefer_23 : decode cX7_prefer 23 = .ok (.istore_n 2, 1) := by decide +kernel
theorem dX7_prefer_24 : decode cX7_prefer 24 = .ok (.iload_n 2, 1) := by decide +kernel
theorem dX7_prefer_25 : decode cX7_prefer 25 = .ok (.iload_n 1, 1) := by decide +kernel
theorem dX7_prefer_26 : decode cX7_prefer 26 = .ok (.if_icmp .ne 9, 3) := by decide +kernel
theorem dX7_prefer_29 : decode cX7_prefer 29 = .ok (.aload_n 0, 1) := by decide +kernel
theorem dX7_prefer_30 : decode cX7_prefer 30 = .ok (.iconst 4, 1) := by decide +kernel
theorem dX7_prefer_31 : decode cX7_prefer 31 = .ok (.invokevirtual 102, 3) := by decide +kernel
theorem dX7_prefer_34 : decode cX7_prefer 34 = .ok (.ireturn, 1) := by decide +kernel
theorem dX7_prefer_35 : decode cX7_prefer 35 = .ok (.aload_n 0, 1) := by decide +kernel
theorem dX7_prefer_36 : decode cX7_prefer 36 = .ok (.getfield 33, 3) := by decide +kernel
theorem dX7_prefer_39 : decode cX7_prefer 39 = .ok (.aload_n 0, 1) := by decide +kernel
theorem dX7_prefer_40 : decode cX7_prefer 40 = .ok (.getfield 26, 3) := by decide +kernel
theorem dX7_prefer_43 : decode cX7_prefer 43 = .ok (.invokevirtual 396, 3) := by decide +kernel
theorem dX7_prefer_46 : decode cX7_prefer 46 = .ok (.aload_n 0, 1) := by decide +kernel
theorem dX7_prefer_47 : decode cX7_prefer 47 = .ok (.getfield 26, 3) := by decide +kernel
theorem dX7_prefer_50 : decode cX7_prefer 50 = .ok (.iload_n 1, 1) := by decide +kernel
theorem dX7_prefer_51 : decode cX7_prefer 51 = .ok (.putfield 146, 3) := by decide +kernel
theorem dX7_prefer_54 : decode cX7_prefer 54 = .ok (.aload_n 0, 1) := by decide +kernel
theorem dX7_prefer_55 : decode cX7_prefer 55 = .ok (.iload_n 2, 1) := by decide +kernel
theorem dX7_prefer_56 : decode cX7_prefer 56 = .ok (.invokevirtual 122, 3) := by decide +kernel
theorem dX7_prefer_59 : decode cX7_prefer 59 = .ok (.ireturn, 1) := by decide +kernel
theorem dX7_guests_0 : decode cX7_guests 0 = .ok (.iload_n 1, 1) := by decide +kernel
theorem dX7_guests_1 : decode cX7_guests 1 = .ok (.ifCond .lt 9, 3) := by decide +kernel
theorem dX7_guests_4 : decode cX7_guests 4 = .ok (.iload_n 1, 1) := by decide +kernel
theorem dX7_guests_5 : decode cX7_guests 5 = .ok (.bipush 100, 2) := by decide +kernel
theorem dX7_guests_7 : decode cX7_guests 7 = .ok (.if_icmp .le 9, 3) := by decide +kernel
theorem dX7_guests_10 : decode cX7_guests 10 = .ok (.aload_n 0, 1) := by decide +kernel
theorem dX7_guests_11 : decode cX7_guests 11 = .ok (.iconst 1, 1) := by decide +kernel
theorem dX7_guests_12 : decode cX7_guests 12 = .ok (.invokevirtual 102, 3) := by decide +kernel
theorem dX7_guests_15 : decode cX7_guests 15 = .ok (.ireturn, 1) := by decide +kernel
theorem dX7_guests_16 : decode cX7_guests 16 = .ok (.aload_n 0, 1) := by decide +kernel
theorem dX7_guests_17 : decode cX7_guests 17 = .ok (.getfield 26, 3) := by decide +kernel
theorem dX7_guests_20 : decode cX7_guests 20 = .ok (.getfield 149, 3) := by decide +kernel
theorem dX7_guests_23 : decode cX7_guests 23 = .ok (.istore_n 2, 1) := by decide +kernel
theorem dX7_guests_24 : decode cX7_guests 24 = .ok (.iload_n 2, 1) := by decide +kernel
theorem dX7_guests_25 : decode cX7_guests 25 = .ok (.iload_n 1, 1) := by decide +kernel
theorem dX7_guests_26 : decode cX7_guests 26 = .ok (.if_icmp .ne 9, 3) := by decide +kernel
theorem dX7_guests_29 : decode cX7_guests 29 = .ok (.aload_n 0, 1) := by decide +kernel
theorem dX7_guests_30 : decode cX7_guests 30 = .ok (.iconst 4, 1) := by decide +kernel
theorem dX7_guests_31 : decode cX7_guests 31 = .ok (.invokevirtual 102, 3) := by decide +kernel
theorem dX7_guests_34 : decode cX7_guests 34 = .ok (.ireturn, 1) := by decide +kernel
theorem dX7_guests_35 : decode cX7_guests 35 = .ok (.aload_n 0, 1) := by decide +kernel
theorem dX7_guests_36 : decode cX7_guests 36 = .ok (.getfield 33, 3) := by decide +kernel
theorem dX7_guests_39 : decode cX7_guests 39 = .ok (.aload_n 0, 1) := by decide +kernel
theorem dX7_guests_40 : decode cX7_guests 40 = .ok (.getfield 26, 3) := by decide +kernel
theorem dX7_guests_43 : decode cX7_guests 43 = .ok (.invokevirtual 396, 3) := by decide +kernel
theorem dX7_guests_46 : decode cX7_guests 46 = .ok (.aload_n 0, 1) := by decide +kernel
theorem dX7_guests_47 : decode cX7_guests 47 = .ok (.getfield 26, 3) := by decide +kernel
theorem dX7_guests_50 : decode cX7_guests 50 = .ok (.iload_n 1, 1) := by decide +kernel
theorem dX7_guests_51 : decode cX7_guests 51 = .ok (.putfield 149, 3) := by decide +kernel
theorem dX7_guests_54 : decode cX7_guests 54 = .ok (.aload_n 0, 1) := by decide +kernel
theorem dX7_guests_55 : decode cX7_guests 55 = .ok (.iload_n 2, 1) := by decide +kernel
theorem dX7_guests_56 : decode cX7_guests 56 = .ok (.invokevirtual 122, 3) := by decide +kernel
theorem dX7_guests_59 : decode cX7_guests 59 = .ok (.ireturn, 1) := by decide +kernel
theorem dX7_split_0 : decode cX7_split 0 = .ok (.aload_n 0, 1) := by decide +kernel
theorem dX7_split_1 : decode cX7_split 1 = .ok (.iload_n 1, 1) := by decide +kernel
theorem dX7_split_2 : decode cX7_split 2 = .ok (.invokevirtual 362, 3) := by decide +kernel
theorem dX7_split_5 : decode cX7_split 5 = .ok (.ifCond .ne 9, 3) := by decide +kernel
theorem dX7_split_8 : decode cX7_split 8 = .ok (.aload_n 0, 1) := by decide +kernel
theorem dX7_split_9 : decode cX7_split 9 = .ok (.iconst 2, 1) := by decide +kernel
theorem dX7_split_10 : decode cX7_split 10 = .ok (.invokevirtual 102, 3) := by decide +kernel
theorem dX7_split_13 : decode cX7_split 13 = .ok (.ireturn, 1) := by decide +kernel
theorem dX7_split_14 : decode cX7_split 14 = .ok (.aload_n 0, 1) := by decide +kernel
theorem dX7_split_15 : decode cX7_split 15 = .ok (.getfield 33, 3) := by decide +kernel
theorem dX7_split_18 : decode cX7_split 18 = .ok (.aload_n 0, 1) := by decide +kernel
theorem dX7_split_19 : decode cX7_split 19 = .ok (.getfield 26, 3) := by decide +kernel
theorem dX7_split_22 : decode cX7_split 22 = .ok (.invokevirtual 396, 3) := by decide +kernel
theorem dX7_split_25 : decode cX7_split 25 = .ok (.aload_n 0, 1) := by decide +kernel
theorem dX7_split_26 : decode cX7_split 26 = .ok (.getfield 26, 3) := by decide +kernel
theorem dX7_split_29 : decode cX7_split 29 = .ok (.iload_n 1, 1) := by decide +kernel
theorem dX7_split_30 : decode cX7_split 30 = .ok (.invokevirtual 365, 3) := by decide +kernel
theorem dX7_split_33 : decode cX7_split 33 = .ok (.aload_n 0, 1) := by decide +kernel
theorem dX7_split_34 : decode cX7_split 34 = .ok (.iconst 0, 1) := by decide +kernel
theorem dX7_split_35 : decode cX7_split 35 = .ok (.invokevirtual 122, 3) := by decide +kernel
theorem dX7_split_38 : decode cX7_split 38 = .ok (.pop, 1) := by decide +kernel
theorem dX7_split_39 : decode cX7_split 39 = .ok (.aload_n 0, 1) := by decide +kernel
theorem dX7_split_40 : decode cX7_split 40 = .ok (.aload_n 0, 1) := by decide +kernel
theorem dX7_split_41 : decode cX7_split 41 = .ok (.getfield 40, 3) := by decide +kernel
theorem dX7_split_44 : decode cX7_split 44 = .ok (.getfield 140, 3) := by decide +kernel
theorem dX7_split_47 : decode cX7_split 47 = .ok (.invokevirtual 134, 3) := by decide +kernel
theorem dX7_split_50 : decode cX7_split 50 = .ok (.ireturn, 1) := by decide +kernel
theorem dX7_undo_0 : decode cX7_undo 0 = .ok (.aload_n 0, 1) := by decide +kernel
theorem dX7_undo_1 : decode cX7_undo 1 = .ok (.getfield 33, 3) := by decide +kernel
theorem dX7_undo_4 : decode cX7_undo 4 = .ok (.aload_n 0, 1) := by decide +kernel
theorem dX7_undo_5 : decode cX7_undo 5 = .ok (.getfield 26, 3) := by decide +kernel
theorem dX7_undo_8 : decode cX7_undo 8 = .ok (.invokevirtual 409, 3) := by decide +kernel
theorem dX7_undo_11 : decode cX7_undo 11 = .ok (.ifCond .ne 9, 3) := by decide +kernel
theorem dX7_undo_14 : decode cX7_undo 14 = .ok (.aload_n 0, 1) := by decide +kernel
theorem dX7_undo_15 : decode cX7_undo 15 = .ok (.iconst 5, 1) := by decide +kernel
theorem dX7_undo_16 : decode cX7_undo 16 = .ok (.invokevirtual 102, 3) := by decide +kernel
theorem dX7_undo_19 : decode cX7_undo 19 = .ok (.ireturn, 1) := by decide +kernel
theorem dX7_undo_20 : decode cX7_undo 20 = .ok (.aload_n 0, 1) := by decide +kernel
theorem dX7_undo_21 : decode cX7_undo 21 = .ok (.aload_n 0, 1) := by decide +kernel
theorem dX7_undo_22 : decode cX7_undo 22 = .ok (.getfield 33, 3) := by decide +kernel
theorem dX7_undo_25 : decode cX7_undo 25 = .ok (.getfield 155, 3) := by decide +kernel
theorem dX7_undo_28 : decode cX7_undo 28 = .ok (.invokevirtual 122, 3) := by decide +kernel
theorem dX7_undo_31 : decode cX7_undo 31 = .ok (.ireturn, 1) := by decide +kernel
theorem dX7_print_0 : decode cX7_print 0 = .ok (.iload_n 1, 1) := by decide +kernel
theorem dX7_print_1 : decode cX7_print 1 = .ok (.invokestatic 237, 3) := by decide +kernel
theorem dX7_print_4 : decode cX7_print 4 = .ok (.ifCond .ne 9, 3) := by decide +kernel
theorem dX7_print_7 : decode cX7_print 7 = .ok (.aload_n 0, 1) := by decide +kernel
theorem dX7_print_8 : decode cX7_print 8 = .ok (.iconst 1, 1) := by decide +kernel
theorem dX7_print_9 : decode cX7_print 9 = .ok (.invokevirtual 102, 3) := by decide +kernel
theorem dX7_print_12 : decode cX7_print 12 = .ok (.ireturn, 1) := by decide +kernel
theorem dX7_print_13 : decode cX7_print 13 = .ok (.aload_n 0, 1) := by decide +kernel
theorem dX7_print_14 : decode cX7_print 14 = .ok (.getfield 47, 3) := by decide +kernel
theorem dX7_print_17 : decode cX7_print 17 = .ok (.aload_n 0, 1) := by decide +kernel
theorem dX7_print_18 : decode cX7_print 18 = .ok (.getfield 40, 3) := by decide +kernel
theorem dX7_print_21 : decode cX7_print 21 = .ok (.iload_n 1, 1) := by decide +kernel
theorem dX7_print_22 : decode cX7_print 22 = .ok (.invokevirtual 247, 3) := by decide +kernel
theorem dX7_print_25 : decode cX7_print 25 = .ok (.aload_n 0, 1) := by decide +kernel
theorem dX7_print_26 : decode cX7_print 26 = .ok (.iconst 0, 1) := by decide +kernel
theorem dX7_print_27 : decode cX7_print 27 = .ok (.putfield 84, 3) := by decide +kernel
theorem dX7_print_30 : decode cX7_print 30 = .ok (.iconst 0, 1) := by decide +kernel
theorem dX7_print_31 : decode cX7_print 31 = .ok (.istore_n 2, 1) := by decide +kernel
theorem dX7_print_32 : decode cX7_print 32 = .ok (.iload_n 2, 1) := by decide +kernel
theorem dX7_print_33 : decode cX7_print 33 = .ok (.aload_n 0, 1) := by decide +kernel
theorem dX7_print_34 : decode cX7_print 34 = .ok (.getfield 40, 3) := by decide +kernel
theorem dX7_print_37 : decode cX7_print 37 = .ok (.getfield 140, 3) := by decide +kernel
theorem dX7_print_40 : decode cX7_print 40 = .ok (.if_icmp .ge 95, 3) := by decide +kernel
theorem dX7_print_43 : decode cX7_print 43 = .ok (.aload_n 0, 1) := by decide +kernel
theorem dX7_print_44 : decode cX7_print 44 = .ok (.getfield 47, 3) := by decide +kernel
theorem dX7_print_47 : decode cX7_print 47 = .ok (.getfield 244, 3) := by decide +kernel
theorem dX7_print_50 : decode cX7_print 50 = .ok (.iload_n 2, 1) := by decide +kernel
theorem dX7_print_51 : decode cX7_print 51 = .ok (.invokestatic 175, 3) := by decide +kernel
theorem dX7_print_54 : decode cX7_print 54 = .ok (.istore_n 3, 1) := by decide +kernel
theorem dX7_print_55 : decode cX7_print 55 = .ok (.aload_n 0, 1) := by decide +kernel
theorem dX7_print_56 : decode cX7_print 56 = .ok (.getfield 47, 3) := by decide +kernel
theorem dX7_print_59 : decode cX7_print 59 = .ok (.getfield 250, 3) := by decide +kernel
theorem dX7_print_62 : decode cX7_print 62 = .ok (.iload_n 3, 1) := by decide +kernel
theorem dX7_print_63 : decode cX7_print 63 = .ok (.invokestatic 175, 3) := by decide +kernel
theorem dX7_print_66 : decode cX7_print 66 = .ok (.istore 4, 2) := by decide +kernel
theorem dX7_print_68 : decode cX7_print 68 = .ok (.aload_n 0, 1) := by decide +kernel
theorem dX7_print_69 : decode cX7_print 69 = .ok (.bipush 48, 2) := by decide +kernel
theorem dX7_print_71 : decode cX7_print 71 = .ok (.iload_n 3, 1) := by decide +kernel
theorem dX7_print_72 : decode cX7_print 72 = .ok (.iadd, 1) := by decide +kernel
theorem dX7_print_73 : decode cX7_print 73 = .ok (.invokevirtual 413, 3) := by decide +kernel
theorem dX7_print_76 : decode cX7_print 76 = .ok (.aload_n 0, 1) := by decide +kernel
theorem dX7_print_77 : decode cX7_print 77 = .ok (.bipush 61, 2) := by decide +kernel
theorem dX7_print_79 : decode cX7_print 79 = .ok (.invokevirtual 413, 3) := by decide +kernel
theorem dX7_print_82 : decode cX7_print 82 = .ok (.aload_n 0, 1) := by decide +kernel
theorem dX7_print_83 : decode cX7_print 83 = .ok (.iload 4, 2) := by decide +kernel
theorem dX7_print_85 : decode cX7_print 85 = .ok (.iconst (-1), 1) := by decide +kernel
theorem dX7_print_86 : decode cX7_print 86 = .ok (.if_icmp .ne 8, 3) := by decide +kernel
theorem dX7_print_89 : decode cX7_print 89 = .ok (.bipush 45, 2) := by decide +kernel
theorem dX7_print_91 : decode cX7_print 91 = .ok (.goto 8, 3) := by decide +kernel
theorem dX7_print_94 : decode cX7_print 94 = .ok (.bipush 48, 2) := by decide +kernel
theorem dX7_print_96 : decode cX7_print 96 = .ok (.iload 4, 2) := by decide +kernel
theorem dX7_print_98 : decode cX7_print 98 = .ok (.iadd, 1) := by decide +kernel
theorem dX7_print_99 : decode cX7_print 99 = .ok (.invokevirtual 413, 3) := by decide +kernel
theorem dX7_print_102 : decode cX7_print 102 = .ok (.aload_n 0, 1) := by decide +kernel
theorem dX7_print_103 : decode cX7_print 103 = .ok (.getfield 47, 3) := by decide +kernel
theorem dX7_print_106 : decode cX7_print 106 = .ok (.getfield 253, 3) := by decide +kernel
theorem dX7_print_109 : decode cX7_print 109 = .ok (.iload_n 3, 1) := by decide +kernel
theorem dX7_print_110 : decode cX7_print 110 = .ok (.invokestatic 175, 3) := by decide +kernel
theorem dX7_print_113 : decode cX7_print 113 = .ok (.iconst 1, 1) := by decide +kernel
theorem dX7_print_114 : decode cX7_print 114 = .ok (.if_icmp .ne 9, 3) := by decide +kernel
theorem dX7_print_117 : decode cX7_print 117 = .ok (.aload_n 0, 1) := by decide +kernel
theorem dX7_print_118 : decode cX7_print 118 = .ok (.bipush 33, 2) := by decide +kernel
theorem dX7_print_120 : decode cX7_print 120 = .ok (.invokevirtual 413, 3) := by decide +kernel
theorem dX7_print_123 : decode cX7_print 123 = .ok (.aload_n 0, 1) := by decide +kernel
theorem dX7_print_124 : decode cX7_print 124 = .ok (.bipush 59, 2) := by decide +kernel
theorem dX7_print_126 : decode cX7_print 126 = .ok (.invokevirtual 413, 3) := by decide +kernel
theorem dX7_print_129 : decode cX7_print 129 = .ok (.iinc 2 1, 3) := by decide +kernel
theorem dX7_print_132 : decode cX7_print 132 = .ok (.goto (-100), 3) := by decide +kernel
theorem dX7_print_135 : decode cX7_print 135 = .ok (.aload_n 0, 1) := by decide +kernel
theorem dX7_print_136 : decode cX7_print 136 = .ok (.aload_n 0, 1) := by decide +kernel
theorem dX7_print_137 : decode cX7_print 137 = .ok (.getfield 84, 3) := by decide +kernel
theorem dX7_print_140 : decode cX7_print 140 = .ok (.invokevirtual 134, 3) := by decide +kernel
theorem dX7_print_143 : decode cX7_print 143 = .ok (.ireturn, 1) := by decide +kernel
theorem dX7_write_0 : decode cX7_write 0 = .ok (.aload_n 0, 1) := by decide +kernel
theorem dX7_write_1 : decode cX7_write 1 = .ok (.getfield 13, 3) := by decide +kernel
theorem dX7_write_4 : decode cX7_write 4 = .ok (.aload_n 0, 1) := by decide +kernel
theorem dX7_write_5 : decode cX7_write 5 = .ok (.getfield 84, 3) := by decide +kernel
theorem dX7_write_8 : decode cX7_write 8 = .ok (.iload_n 1, 1) := by decide +kernel
theorem dX7_write_9 : decode cX7_write 9 = .ok (.invokestatic 98, 3) := by decide +kernel
theorem dX7_write_12 : decode cX7_write 12 = .ok (.aload_n 0, 1) := by decide +kernel
theorem dX7_write_13 : decode cX7_write 13 = .ok (.dup, 1) := by decide +kernel
theorem dX7_write_14 : decode cX7_write 14 = .ok (.getfield 84, 3) := by decide +kernel
theorem dX7_write_17 : decode cX7_write 17 = .ok (.iconst 1, 1) := by decide +kernel
theorem dX7_write_18 : decode cX7_write 18 = .ok (.iadd, 1) := by decide +kernel
theorem dX7_write_19 : decode cX7_write 19 = .ok (.putfield 84, 3) := by decide +kernel
theorem dX7_write_22 : decode cX7_write 22 = .ok (.return_, 1) := by decide +kernel
theorem dX7_out_0 : decode cX7_out 0 = .ok (.iload_n 1, 1) := by decide +kernel
theorem dX7_out_1 : decode cX7_out 1 = .ok (.ifCond .ge 9, 3) := by decide +kernel
theorem dX7_out_4 : decode cX7_out 4 = .ok (.aload_n 0, 1) := by decide +kernel
theorem dX7_out_5 : decode cX7_out 5 = .ok (.iconst 1, 1) := by decide +kernel
theorem dX7_out_6 : decode cX7_out 6 = .ok (.invokevirtual 102, 3) := by decide +kernel
theorem dX7_out_9 : decode cX7_out 9 = .ok (.ireturn, 1) := by decide +kernel
theorem dX7_out_10 : decode cX7_out 10 = .ok (.iload_n 1, 1) := by decide +kernel
theorem dX7_out_11 : decode cX7_out 11 = .ok (.aload_n 0, 1) := by decide +kernel
theorem dX7_out_12 : decode cX7_out 12 = .ok (.getfield 84, 3) := by decide +kernel
theorem dX7_out_15 : decode cX7_out 15 = .ok (.if_icmp .lt 11, 3) := by decide +kernel
theorem dX7_out_18 : decode cX7_out 18 = .ok (.aload_n 0, 1) := by decide +kernel
theorem dX7_out_19 : decode cX7_out 19 = .ok (.iconst 5, 1) := by decide +kernel
theorem dX7_out_20 : decode cX7_out 20 = .ok (.invokevirtual 102, 3) := by decide +kernel
theorem dX7_out_23 : decode cX7_out 23 = .ok (.goto 15, 3) := by decide +kernel
theorem dX7_out_26 : decode cX7_out 26 = .ok (.aload_n 0, 1) := by decide +kernel
theorem dX7_out_27 : decode cX7_out 27 = .ok (.aload_n 0, 1) := by decide +kernel
theorem dX7_out_28 : decode cX7_out 28 = .ok (.getfield 13, 3) := by decide +kernel
theorem dX7_out_31 : decode cX7_out 31 = .ok (.iload_n 1, 1) := by decide +kernel
theorem dX7_out_32 : decode cX7_out 32 = .ok (.invokestatic 175, 3) := by decide +kernel
theorem dX7_out_35 : decode cX7_out 35 = .ok (.invokevirtual 134, 3) := by decide +kernel
theorem dX7_out_38 : decode cX7_out 38 = .ok (.ireturn, 1) := by decide +kernel
theorem dX7_answer_0 : decode cX7_answer 0 = .ok (.aload_n 0, 1) := by decide +kernel
theorem dX7_answer_1 : decode cX7_answer 1 = .ok (.iconst 0, 1) := by decide +kernel
theorem dX7_answer_2 : decode cX7_answer 2 = .ok (.putfield 88, 3) := by decide +kernel
theorem dX7_answer_5 : decode cX7_answer 5 = .ok (.iload_n 1, 1) := by decide +kernel
theorem dX7_answer_6 : decode cX7_answer 6 = .ok (.ireturn, 1) := by decide +kernel
theorem dX7_answerParts_0 : decode cX7_answerParts 0 = .ok (.aload_n 0, 1) := by decide +kernel
theorem dX7_answerParts_1 : decode cX7_answerParts 1 = .ok (.iconst 0, 1) := by decide +kernel
theorem dX7_answerParts_2 : decode cX7_answerParts 2 = .ok (.putfield 88, 3) := by decide +kernel
theorem dX7_answerParts_5 : decode cX7_answerParts 5 = .ok (.lload_n 1, 1) := by decide +kernel
theorem dX7_answerParts_6 : decode cX7_answerParts 6 = .ok (.lreturn, 1) := by decide +kernel
theorem dX7_refuse_0 : decode cX7_refuse 0 = .ok (.aload_n 0, 1) := by decide +kernel
theorem dX7_refuse_1 : decode cX7_refuse 1 = .ok (.iload_n 1, 1) := by decide +kernel
theorem dX7_refuse_2 : decode cX7_refuse 2 = .ok (.putfield 88, 3) := by decide +kernel
theorem dX7_refuse_5 : decode cX7_refuse 5 = .ok (.iconst (-1), 1) := by decide +kernel
theorem dX7_refuse_6 : decode cX7_refuse 6 = .ok (.ireturn, 1) := by decide +kernel
theorem dX7_changed_0 : decode cX7_changed 0 = .ok (.aload_n 0, 1) := by decide +kernel
theorem dX7_changed_1 : decode cX7_changed 1 = .ok (.getfield 40, 3) := by decide +kernel
theorem dX7_changed_4 : decode cX7_changed 4 = .ok (.aload_n 0, 1) := by decide +kernel
theorem dX7_changed_5 : decode cX7_changed 5 = .ok (.getfield 26, 3) := by decide +kernel
theorem dX7_changed_8 : decode cX7_changed 8 = .ok (.invokevirtual 80, 3) := by decide +kernel
theorem dX7_changed_11 : decode cX7_changed 11 = .ok (.aload_n 0, 1) := by decide +kernel
theorem dX7_changed_12 : decode cX7_changed 12 = .ok (.iconst 0, 1) := by decide +kernel
theorem dX7_changed_13 : decode cX7_changed 13 = .ok (.putfield 368, 3) := by decide +kernel
theorem dX7_changed_16 : decode cX7_changed 16 = .ok (.aload_n 0, 1) := by decide +kernel
theorem dX7_changed_17 : decode cX7_changed 17 = .ok (.iload_n 1, 1) := by decide +kernel
theorem dX7_changed_18 : decode cX7_changed 18 = .ok (.invokevirtual 134, 3) := by decide +kernel
theorem dX7_changed_21 : decode cX7_changed 21 = .ok (.ireturn, 1) := by decide +kernel
theorem dX7_isUnit_0 : decode cX7_isUnit 0 = .ok (.iload_n 1, 1) := by decide +kernel
theorem dX7_isUnit_1 : decode cX7_isUnit 1 = .ok (.ifCond .lt 18, 3) := by decide +kernel
theorem dX7_isUnit_4 : decode cX7_isUnit 4 = .ok (.iload_n 1, 1) := by decide +kernel
theorem dX7_isUnit_5 : decode cX7_isUnit 5 = .ok (.aload_n 0, 1) := by decide +kernel
theorem dX7_isUnit_6 : decode cX7_isUnit 6 = .ok (.getfield 26, 3) := by decide +kernel
theorem dX7_isUnit_9 : decode cX7_isUnit 9 = .ok (.getfield 131, 3) := by decide +kernel
theorem dX7_isUnit_12 : decode cX7_isUnit 12 = .ok (.if_icmp .ge 7, 3) := by decide +kernel
theorem dX7_isUnit_15 : decode cX7_isUnit 15 = .ok (.iconst 1, 1) := by decide +kernel
theorem dX7_isUnit_16 : decode cX7_isUnit 16 = .ok (.goto 4, 3) := by decide +kernel
theorem dX7_isUnit_19 : decode cX7_isUnit 19 = .ok (.iconst 0, 1) := by decide +kernel
theorem dX7_isUnit_20 : decode cX7_isUnit 20 = .ok (.ireturn, 1) := by decide +kernel
theorem dX7_isUnitOrNone_0 : decode cX7_isUnitOrNone 0 = .ok (.iload_n 1, 1) := by decide +kernel
theorem dX7_isUnitOrNone_1 : decode cX7_isUnitOrNone 1 = .ok (.iconst (-1), 1) := by decide +kernel
theorem dX7_isUnitOrNone_2 : decode cX7_isUnitOrNone 2 = .ok (.if_icmp .eq 11, 3) := by decide +kernel
theorem dX7_isUnitOrNone_5 : decode cX7_isUnitOrNone 5 = .ok (.aload_n 0, 1) := by decide +kernel
theorem dX7_isUnitOrNone_6 : decode cX7_isUnitOrNone 6 = .ok (.iload_n 1, 1) := by decide +kernel
theorem dX7_isUnitOrNone_7 : decode cX7_isUnitOrNone 7 = .ok (.invokevirtual 188, 3) := by decide +kernel
theorem dX7_isUnitOrNone_10 : decode cX7_isUnitOrNone 10 = .ok (.ifCond .eq 7, 3) := by decide +kernel
theorem dX7_isUnitOrNone_13 : decode cX7_isUnitOrNone 13 = .ok (.iconst 1, 1) := by decide +kernel
theorem dX7_isUnitOrNone_14 : decode cX7_isUnitOrNone 14 = .ok (.goto 4, 3) := by decide +kernel
theorem dX7_isUnitOrNone_17 : decode cX7_isUnitOrNone 17 = .ok (.iconst 0, 1) := by decide +kernel
theorem dX7_isUnitOrNone_18 : decode cX7_isUnitOrNone 18 = .ok (.ireturn, 1) := by decide +kernel
theorem dX7_isHunter_0 : decode cX7_isHunter 0 = .ok (.iload_n 1, 1) := by decide +kernel
theorem dX7_isHunter_1 : decode cX7_isHunter 1 = .ok (.ifCond .lt 18, 3) := by decide +kernel
theorem dX7_isHunter_4 : decode cX7_isHunter 4 = .ok (.iload_n 1, 1) := by decide +kernel
theorem dX7_isHunter_5 : decode cX7_isHunter 5 = .ok (.aload_n 0, 1) := by decide +kernel
theorem dX7_isHunter_6 : decode cX7_isHunter 6 = .ok (.getfield 26, 3) := by decide +kernel
theorem dX7_isHunter_9 : decode cX7_isHunter 9 = .ok (.getfield 119, 3) := by decide +kernel
theorem dX7_isHunter_12 : decode cX7_isHunter 12 = .ok (.if_icmp .ge 7, 3) := by decide +kernel
theorem dX7_isHunter_15 : decode cX7_isHunter 15 = .ok (.iconst 1, 1) := by decide +kernel
theorem dX7_isHunter_16 : decode cX7_isHunter 16 = .ok (.goto 4, 3) := by decide +kernel
theorem dX7_isHunter_19 : decode cX7_isHunter 19 = .ok (.iconst 0, 1) := by decide +kernel
theorem dX7_isHunter_20 : decode cX7_isHunter 20 = .ok (.ireturn, 1) := by decide +kernel
theorem dX7_isParty_0 : decode cX7_isParty 0 = .ok (.iload_n 1, 1) := by decide +kernel
theorem dX7_isParty_1 : decode cX7_isParty 1 = .ok (.ifCond .lt 18, 3) := by decide +kernel
theorem dX7_isParty_4 : decode cX7_isParty 4 = .ok (.iload_n 1, 1) := by decide +kernel
theorem dX7_isParty_5 : decode cX7_isParty 5 = .ok (.aload_n 0, 1) := by decide +kernel
theorem dX7_isParty_6 : decode cX7_isParty 6 = .ok (.getfield 26, 3) := by decide +kernel
theorem dX7_isParty_9 : decode cX7_isParty 9 = .ok (.getfield 137, 3) := by decide +kernel
theorem dX7_isParty_12 : decode cX7_isParty 12 = .ok (.if_icmp .ge 7, 3) := by decide +kernel
theorem dX7_isParty_15 : decode cX7_isParty 15 = .ok (.iconst 1, 1) := by decide +kernel
theorem dX7_isParty_16 : decode cX7_isParty 16 = .ok (.goto 4, 3) := by decide +kernel
theorem dX7_isParty_19 : decode cX7_isParty 19 = .ok (.iconst 0, 1) := by decide +kernel
theorem dX7_isParty_20 : decode cX7_isParty 20 = .ok (.ireturn, 1) := by decide +kernel
theorem dX7_isApplicant_0 : decode cX7_isApplicant 0 = .ok (.iload_n 1, 1) := by decide +kernel
theorem dX7_isApplicant_1 : decode cX7_isApplicant 1 = .ok (.ifCond .lt 18, 3) := by decide +kernel
theorem dX7_isApplicant_4 : decode cX7_isApplicant 4 = .ok (.iload_n 1, 1) := by decide +kernel
theorem dX7_isApplicant_5 : decode cX7_isApplicant 5 = .ok (.aload_n 0, 1) := by decide +kernel
theorem dX7_isApplicant_6 : decode cX7_isApplicant 6 = .ok (.getfield 40, 3) := by decide +kernel
theorem dX7_isApplicant_9 : decode cX7_isApplicant 9 = .ok (.getfield 140, 3) := by decide +kernel
theorem dX7_isApplicant_12 : decode cX7_isApplicant 12 = .ok (.if_icmp .ge 7, 3) := by decide +kernel
theorem dX7_isApplicant_15 : decode cX7_isApplicant 15 = .ok (.iconst 1, 1) := by decide +kernel
theorem dX7_isApplicant_16 : decode cX7_isApplicant 16 = .ok (.goto 4, 3) := by decide +kernel
theorem dX7_isApplicant_19 : decode cX7_isApplicant 19 = .ok (.iconst 0, 1) := by decide +kernel
theorem dX7_isApplicant_20 : decode cX7_isApplicant 20 = .ok (.ireturn, 1) := by decide +kernel
theorem dX7_isSeed_0 : decode cX7_isSeed 0 = .ok (.iload_n 0, 1) := by decide +kernel
theorem dX7_isSeed_1 : decode cX7_isSeed 1 = .ok (.ifCond .lt 14, 3) := by decide +kernel
theorem dX7_isSeed_4 : decode cX7_isSeed 4 = .ok (.iload_n 0, 1) := by decide +kernel
theorem dX7_isSeed_5 : decode cX7_isSeed 5 = .ok (.ldc_w 395, 3) := by decide +kernel
theorem dX7_isSeed_8 : decode cX7_isSeed 8 = .ok (.if_icmp .gt 7, 3) := by decide +kernel
theorem dX7_isSeed_11 : decode cX7_isSeed 11 = .ok (.iconst 1, 1) := by decide +kernel
theorem dX7_isSeed_12 : decode cX7_isSeed 12 = .ok (.goto 4, 3) := by decide +kernel
theorem dX7_isSeed_15 : decode cX7_isSeed 15 = .ok (.iconst 0, 1) := by decide +kernel
theorem dX7_isSeed_16 : decode cX7_isSeed 16 = .ok (.ireturn, 1) := by decide +kernel
theorem dX7_cell_0 : decode cX7_cell 0 = .ok (.iload_n 1, 1) := by decide +kernel
theorem dX7_cell_1 : decode cX7_cell 1 = .ok (.ifCond .lt 15, 3) := by decide +kernel
theorem dX7_cell_4 : decode cX7_cell 4 = .ok (.iload_n 1, 1) := by decide +kernel
theorem dX7_cell_5 : decode cX7_cell 5 = .ok (.aload_n 0, 1) := by decide +kernel
theorem dX7_cell_6 : decode cX7_cell 6 = .ok (.arraylength, 1) := by decide +kernel
theorem dX7_cell_7 : decode cX7_cell 7 = .ok (.if_icmp .ge 9, 3) := by decide +kernel
theorem dX7_cell_10 : decode cX7_cell 10 = .ok (.aload_n 0, 1) := by decide +kernel
theorem dX7_cell_11 : decode cX7_cell 11 = .ok (.iload_n 1, 1) := by decide +kernel
theorem dX7_cell_12 : decode cX7_cell 12 = .ok (.iaload, 1) := by decide +kernel
theorem dX7_cell_13 : decode cX7_cell 13 = .ok (.goto 4, 3) := by decide +kernel
theorem dX7_cell_16 : decode cX7_cell 16 = .ok (.iconst 0, 1) := by decide +kernel
theorem dX7_cell_17 : decode cX7_cell 17 = .ok (.ireturn, 1) := by decide +kernel
theorem dX7_bigCell_0 : decode cX7_bigCell 0 = .ok (.iload_n 1, 1) := by decide +kernel
theorem dX7_bigCell_1 : decode cX7_bigCell 1 = .ok (.ifCond .lt 15, 3) := by decide +kernel
theorem dX7_bigCell_4 : decode cX7_bigCell 4 = .ok (.iload_n 1, 1) := by decide +kernel
theorem dX7_bigCell_5 : decode cX7_bigCell 5 = .ok (.aload_n 0, 1) := by decide +kernel
theorem dX7_bigCell_6 : decode cX7_bigCell 6 = .ok (.arraylength, 1) := by decide +kernel
theorem dX7_bigCell_7 : decode cX7_bigCell 7 = .ok (.if_icmp .ge 9, 3) := by decide +kernel
theorem dX7_bigCell_10 : decode cX7_bigCell 10 = .ok (.aload_n 0, 1) := by decide +kernel
theorem dX7_bigCell_11 : decode cX7_bigCell 11 = .ok (.iload_n 1, 1) := by decide +kernel
theorem dX7_bigCell_12 : decode cX7_bigCell 12 = .ok (.laload, 1) := by decide +kernel
theorem dX7_bigCell_13 : decode cX7_bigCell 13 = .ok (.goto 4, 3) := by decide +kernel
theorem dX7_bigCell_16 : decode cX7_bigCell 16 = .ok (.lconst 0, 1) := by decide +kernel
theorem dX7_bigCell_17 : decode cX7_bigCell 17 = .ok (.lreturn, 1) := by decide +kernel
theorem dX7_put_0 : decode cX7_put 0 = .ok (.iload_n 1, 1) := by decide +kernel
theorem dX7_put_1 : decode cX7_put 1 = .ok (.ifCond .lt 13, 3) := by decide +kernel
theorem dX7_put_4 : decode cX7_put 4 = .ok (.iload_n 1, 1) := by decide +kernel
theorem dX7_put_5 : decode cX7_put 5 = .ok (.aload_n 0, 1) := by decide +kernel
theorem dX7_put_6 : decode cX7_put 6 = .ok (.arraylength, 1) := by decide +kernel
theorem dX7_put_7 : decode cX7_put 7 = .ok (.if_icmp .ge 7, 3) := by decide +kernel
theorem dX7_put_10 : decode cX7_put 10 = .ok (.aload_n 0, 1) := by decide +kernel
theorem dX7_put_11 : decode cX7_put 11 = .ok (.iload_n 1, 1) := by decide +kernel
theorem dX7_put_12 : decode cX7_put 12 = .ok (.iload_n 2, 1) := by decide +kernel
theorem dX7_put_13 : decode cX7_put 13 = .ok (.iastore, 1) := by decide +kernel
theorem dX7_put_14 : decode cX7_put 14 = .ok (.return_, 1) := by decide +kernel
theorem dX7_bigPut_0 : decode cX7_bigPut 0 = .ok (.iload_n 1, 1) := by decide +kernel
theorem dX7_bigPut_1 : decode cX7_bigPut 1 = .ok (.ifCond .lt 13, 3) := by decide +kernel
theorem dX7_bigPut_4 : decode cX7_bigPut 4 = .ok (.iload_n 1, 1) := by decide +kernel
theorem dX7_bigPut_5 : decode cX7_bigPut 5 = .ok (.aload_n 0, 1) := by decide +kernel
theorem dX7_bigPut_6 : decode cX7_bigPut 6 = .ok (.arraylength, 1) := by decide +kernel
theorem dX7_bigPut_7 : decode cX7_bigPut 7 = .ok (.if_icmp .ge 7, 3) := by decide +kernel
theorem dX7_bigPut_10 : decode cX7_bigPut 10 = .ok (.aload_n 0, 1) := by decide +kernel
theorem dX7_bigPut_11 : decode cX7_bigPut 11 = .ok (.iload_n 1, 1) := by decide +kernel
theorem dX7_bigPut_12 : decode cX7_bigPut 12 = .ok (.lload_n 2, 1) := by decide +kernel
theorem dX7_bigPut_13 : decode cX7_bigPut 13 = .ok (.lastore, 1) := by decide +kernel
theorem dX7_bigPut_14 : decode cX7_bigPut 14 = .ok (.return_, 1) := by decide +kernel
theorem dX7_add_0 : decode cX7_add 0 = .ok (.iload_n 1, 1) := by decide +kernel
theorem dX7_add_1 : decode cX7_add 1 = .ok (.ifCond .lt 16, 3) := by decide +kernel
theorem dX7_add_4 : decode cX7_add 4 = .ok (.iload_n 1, 1) := by decide +kernel
theorem dX7_add_5 : decode cX7_add 5 = .ok (.aload_n 0, 1) := by decide +kernel
theorem dX7_add_6 : decode cX7_add 6 = .ok (.arraylength, 1) := by decide +kernel
theorem dX7_add_7 : decode cX7_add 7 = .ok (.if_icmp .ge 10, 3) := by decide +kernel
theorem dX7_add_10 : decode cX7_add 10 = .ok (.aload_n 0, 1) := by decide +kernel
theorem dX7_add_11 : decode cX7_add 11 = .ok (.iload_n 1, 1) := by decide +kernel
theorem dX7_add_12 : decode cX7_add 12 = .ok (.dup2, 1) := by decide +kernel
theorem dX7_add_13 : decode cX7_add 13 = .ok (.iaload, 1) := by decide +kernel
theorem dX7_add_14 : decode cX7_add 14 = .ok (.iload_n 2, 1) := by decide +kernel
theorem dX7_add_15 : decode cX7_add 15 = .ok (.iadd, 1) := by decide +kernel
theorem dX7_add_16 : decode cX7_add 16 = .ok (.iastore, 1) := by decide +kernel
theorem dX7_add_17 : decode cX7_add 17 = .ok (.return_, 1) := by decide +kernel
theorem dX7_bigAdd_0 : decode cX7_bigAdd 0 = .ok (.iload_n 1, 1) := by decide +kernel
theorem dX7_bigAdd_1 : decode cX7_bigAdd 1 = .ok (.ifCond .lt 16, 3) := by decide +kernel
theorem dX7_bigAdd_4 : decode cX7_bigAdd 4 = .ok (.iload_n 1, 1) := by decide +kernel
theorem dX7_bigAdd_5 : decode cX7_bigAdd 5 = .ok (.aload_n 0, 1) := by decide +kernel
theorem dX7_bigAdd_6 : decode cX7_bigAdd 6 = .ok (.arraylength, 1) := by decide +kernel
theorem dX7_bigAdd_7 : decode cX7_bigAdd 7 = .ok (.if_icmp .ge 10, 3) := by decide +kernel
theorem dX7_bigAdd_10 : decode cX7_bigAdd 10 = .ok (.aload_n 0, 1) := by decide +kernel
theorem dX7_bigAdd_11 : decode cX7_bigAdd 11 = .ok (.iload_n 1, 1) := by decide +kernel
theorem dX7_bigAdd_12 : decode cX7_bigAdd 12 = .ok (.dup2, 1) := by decide +kernel
theorem dX7_bigAdd_13 : decode cX7_bigAdd 13 = .ok (.laload, 1) := by decide +kernel
theorem dX7_bigAdd_14 : decode cX7_bigAdd 14 = .ok (.lload_n 2, 1) := by decide +kernel
theorem dX7_bigAdd_15 : decode cX7_bigAdd 15 = .ok (.ladd, 1) := by decide +kernel
theorem dX7_bigAdd_16 : decode cX7_bigAdd 16 = .ok (.lastore, 1) := by decide +kernel
theorem dX7_bigAdd_17 : decode cX7_bigAdd 17 = .ok (.return_, 1) := by decide +kernel
theorem dX7_fill_0 : decode cX7_fill 0 = .ok (.iconst 0, 1) := by decide +kernel
theorem dX7_fill_1 : decode cX7_fill 1 = .ok (.istore_n 2, 1) := by decide +kernel
theorem dX7_fill_2 : decode cX7_fill 2 = .ok (.iload_n 2, 1) := by decide +kernel
theorem dX7_fill_3 : decode cX7_fill 3 = .ok (.aload_n 0, 1) := by decide +kernel
theorem dX7_fill_4 : decode cX7_fill 4 = .ok (.arraylength, 1) := by decide +kernel
theorem dX7_fill_5 : decode cX7_fill 5 = .ok (.if_icmp .ge 13, 3) := by decide +kernel
theorem dX7_fill_8 : decode cX7_fill 8 = .ok (.aload_n 0, 1) := by decide +kernel
theorem dX7_fill_9 : decode cX7_fill 9 = .ok (.iload_n 2, 1) := by decide +kernel
theorem dX7_fill_10 : decode cX7_fill 10 = .ok (.iload_n 1, 1) := by decide +kernel
theorem dX7_fill_11 : decode cX7_fill 11 = .ok (.iastore, 1) := by decide +kernel
theorem dX7_fill_12 : decode cX7_fill 12 = .ok (.iinc 2 1, 3) := by decide +kernel
theorem dX7_fill_15 : decode cX7_fill 15 = .ok (.goto (-13), 3) := by decide +kernel
theorem dX7_fill_18 : decode cX7_fill 18 = .ok (.return_, 1) := by decide +kernel
theorem dX7_bigFill_0 : decode cX7_bigFill 0 = .ok (.iconst 0, 1) := by decide +kernel
theorem dX7_bigFill_1 : decode cX7_bigFill 1 = .ok (.istore_n 3, 1) := by decide +kernel
theorem dX7_bigFill_2 : decode cX7_bigFill 2 = .ok (.iload_n 3, 1) := by decide +kernel
theorem dX7_bigFill_3 : decode cX7_bigFill 3 = .ok (.aload_n 0, 1) := by decide +kernel
theorem dX7_bigFill_4 : decode cX7_bigFill 4 = .ok (.arraylength, 1) := by decide +kernel
theorem dX7_bigFill_5 : decode cX7_bigFill 5 = .ok (.if_icmp .ge 13, 3) := by decide +kernel
theorem dX7_bigFill_8 : decode cX7_bigFill 8 = .ok (.aload_n 0, 1) := by decide +kernel
theorem dX7_bigFill_9 : decode cX7_bigFill 9 = .ok (.iload_n 3, 1) := by decide +kernel
theorem dX7_bigFill_10 : decode cX7_bigFill 10 = .ok (.lload_n 1, 1) := by decide +kernel
theorem dX7_bigFill_11 : decode cX7_bigFill 11 = .ok (.lastore, 1) := by decide +kernel
theorem dX7_bigFill_12 : decode cX7_bigFill 12 = .ok (.iinc 3 1, 3) := by decide +kernel
theorem dX7_bigFill_15 : decode cX7_bigFill 15 = .ok (.goto (-13), 3) := by decide +kernel
theorem dX7_bigFill_18 : decode cX7_bigFill 18 = .ok (.return_, 1) := by decide +kernel
theorem dX7_copy_0 : decode cX7_copy 0 = .ok (.iconst 0, 1) := by decide +kernel
theorem dX7_copy_1 : decode cX7_copy 1 = .ok (.istore_n 2, 1) := by decide +kernel
theorem dX7_copy_2 : decode cX7_copy 2 = .ok (.iload_n 2, 1) := by decide +kernel
theorem dX7_copy_3 : decode cX7_copy 3 = .ok (.aload_n 1, 1) := by decide +kernel
theorem dX7_copy_4 : decode cX7_copy 4 = .ok (.arraylength, 1) := by decide +kernel
theorem dX7_copy_5 : decode cX7_copy 5 = .ok (.if_icmp .ge 17, 3) := by decide +kernel
theorem dX7_copy_8 : decode cX7_copy 8 = .ok (.aload_n 1, 1) := by decide +kernel
theorem dX7_copy_9 : decode cX7_copy 9 = .ok (.iload_n 2, 1) := by decide +kernel
theorem dX7_copy_10 : decode cX7_copy 10 = .ok (.aload_n 0, 1) := by decide +kernel
theorem dX7_copy_11 : decode cX7_copy 11 = .ok (.iload_n 2, 1) := by decide +kernel
theorem dX7_copy_12 : decode cX7_copy 12 = .ok (.invokestatic 175, 3) := by decide +kernel
theorem dX7_copy_15 : decode cX7_copy 15 = .ok (.iastore, 1) := by decide +kernel
theorem dX7_copy_16 : decode cX7_copy 16 = .ok (.iinc 2 1, 3) := by decide +kernel
theorem dX7_copy_19 : decode cX7_copy 19 = .ok (.goto (-17), 3) := by decide +kernel
theorem dX7_copy_22 : decode cX7_copy 22 = .ok (.return_, 1) := by decide +kernel
theorem dX7_sum_0 : decode cX7_sum 0 = .ok (.iconst 0, 1) := by decide +kernel
theorem dX7_sum_1 : decode cX7_sum 1 = .ok (.istore_n 1, 1) := by decide +kernel
theorem dX7_sum_2 : decode cX7_sum 2 = .ok (.iconst 0, 1) := by decide +kernel
theorem dX7_sum_3 : decode cX7_sum 3 = .ok (.istore_n 2, 1) := by decide +kernel
theorem dX7_sum_4 : decode cX7_sum 4 = .ok (.iload_n 2, 1) := by decide +kernel
theorem dX7_sum_5 : decode cX7_sum 5 = .ok (.aload_n 0, 1) := by decide +kernel
theorem dX7_sum_6 : decode cX7_sum 6 = .ok (.arraylength, 1) := by decide +kernel
theorem dX7_sum_7 : decode cX7_sum 7 = .ok (.if_icmp .ge 15, 3) := by decide +kernel
theorem dX7_sum_10 : decode cX7_sum 10 = .ok (.iload_n 1, 1) := by decide +kernel
theorem dX7_sum_11 : decode cX7_sum 11 = .ok (.aload_n 0, 1) := by decide +kernel
theorem dX7_sum_12 : decode cX7_sum 12 = .ok (.iload_n 2, 1) := by decide +kernel
theorem dX7_sum_13 : decode cX7_sum 13 = .ok (.iaload, 1) := by decide +kernel
theorem dX7_sum_14 : decode cX7_sum 14 = .ok (.iadd, 1) := by decide +kernel
theorem dX7_sum_15 : decode cX7_sum 15 = .ok (.istore_n 1, 1) := by decide +kernel
theorem dX7_sum_16 : decode cX7_sum 16 = .ok (.iinc 2 1, 3) := by decide +kernel
theorem dX7_sum_19 : decode cX7_sum 19 = .ok (.goto (-15), 3) := by decide +kernel
theorem dX7_sum_22 : decode cX7_sum 22 = .ok (.iload_n 1, 1) := by decide +kernel
theorem dX7_sum_23 : decode cX7_sum 23 = .ok (.ireturn, 1) := by decide +kernel
theorem dX7_lowest_0 : decode cX7_lowest 0 = .ok (.iload_n 0, 1) := by decide +kernel
theorem dX7_lowest_1 : decode cX7_lowest 1 = .ok (.iload_n 1, 1) := by decide +kernel
theorem dX7_lowest_2 : decode cX7_lowest 2 = .ok (.invokestatic 416, 3) := by decide +kernel
theorem dX7_lowest_5 : decode cX7_lowest 5 = .ok (.istore_n 3, 1) := by decide +kernel
theorem dX7_lowest_6 : decode cX7_lowest 6 = .ok (.iload_n 2, 1) := by decide +kernel
theorem dX7_lowest_7 : decode cX7_lowest 7 = .ok (.ifCond .ne 7, 3) := by decide +kernel
theorem dX7_lowest_10 : decode cX7_lowest 10 = .ok (.iload_n 0, 1) := by decide +kernel
theorem dX7_lowest_11 : decode cX7_lowest 11 = .ok (.goto 4, 3) := by decide +kernel
theorem dX7_lowest_14 : decode cX7_lowest 14 = .ok (.iload_n 1, 1) := by decide +kernel
theorem dX7_lowest_15 : decode cX7_lowest 15 = .ok (.istore 4, 2) := by decide +kernel
theorem dX7_lowest_17 : decode cX7_lowest 17 = .ok (.iload_n 3, 1) := by decide +kernel
theorem dX7_lowest_18 : decode cX7_lowest 18 = .ok (.ifCond .ne 8, 3) := by decide +kernel
theorem dX7_lowest_21 : decode cX7_lowest 21 = .ok (.iload 4, 2) := by decide +kernel
theorem dX7_lowest_23 : decode cX7_lowest 23 = .ok (.goto 7, 3) := by decide +kernel
theorem dX7_lowest_26 : decode cX7_lowest 26 = .ok (.iload 4, 2) := by decide +kernel
theorem dX7_lowest_28 : decode cX7_lowest 28 = .ok (.iload_n 3, 1) := by decide +kernel
theorem dX7_lowest_29 : decode cX7_lowest 29 = .ok (.idiv, 1) := by decide +kernel
theorem dX7_lowest_30 : decode cX7_lowest 30 = .ok (.ireturn, 1) := by decide +kernel
theorem dX7_commonDivisor_0 : decode cX7_commonDivisor 0 = .ok (.iload_n 0, 1) := by decide +kernel
theorem dX7_commonDivisor_1 : decode cX7_commonDivisor 1 = .ok (.istore_n 2, 1) := by decide +kernel
theorem dX7_commonDivisor_2 : decode cX7_commonDivisor 2 = .ok (.iload_n 1, 1) := by decide +kernel
theorem dX7_commonDivisor_3 : decode cX7_commonDivisor 3 = .ok (.istore_n 3, 1) := by decide +kernel
theorem dX7_commonDivisor_4 : decode cX7_commonDivisor 4 = .ok (.iconst 0, 1) := by decide +kernel
theorem dX7_commonDivisor_5 : decode cX7_commonDivisor 5 = .ok (.istore 4, 2) := by decide +kernel
theorem dX7_commonDivisor_7 : decode cX7_commonDivisor 7 = .ok (.iload 4, 2) := by decide +kernel
theorem dX7_commonDivisor_9 : decode cX7_commonDivisor 9 = .ok (.bipush 100, 2) := by decide +kernel
theorem dX7_commonDivisor_11 : decode cX7_commonDivisor 11 = .ok (.if_icmp .ge 23, 3) := by decide +kernel
theorem dX7_commonDivisor_14 : decode cX7_commonDivisor 14 = .ok (.iload_n 3, 1) := by decide +kernel
theorem dX7_commonDivisor_15 : decode cX7_commonDivisor 15 = .ok (.ifCond .eq 19, 3) := by decide +kernel
theorem dX7_commonDivisor_18 : decode cX7_commonDivisor 18 = .ok (.iload_n 2, 1) := by decide +kernel
theorem dX7_commonDivisor_19 : decode cX7_commonDivisor 19 = .ok (.iload_n 3, 1) := by decide +kernel
theorem dX7_commonDivisor_20 : decode cX7_commonDivisor 20 = .ok (.irem, 1) := by decide +kernel
theorem dX7_commonDivisor_21 : decode cX7_commonDivisor 21 = .ok (.istore 5, 2) := by decide +kernel
theorem dX7_commonDivisor_23 : decode cX7_commonDivisor 23 = .ok (.iload_n 3, 1) := by decide +kernel
theorem dX7_commonDivisor_24 : decode cX7_commonDivisor 24 = .ok (.istore_n 2, 1) := by decide +kernel
theorem dX7_commonDivisor_25 : decode cX7_commonDivisor 25 = .ok (.iload 5, 2) := by decide +kernel
theorem dX7_commonDivisor_27 : decode cX7_commonDivisor 27 = .ok (.istore_n 3, 1) := by decide +kernel
theorem dX7_commonDivisor_28 : decode cX7_commonDivisor 28 = .ok (.iinc 4 1, 3) := by decide +kernel
theorem dX7_commonDivisor_31 : decode cX7_commonDivisor 31 = .ok (.goto (-24), 3) := by decide +kernel
theorem dX7_commonDivisor_34 : decode cX7_commonDivisor 34 = .ok (.iload_n 2, 1) := by decide +kernel
theorem dX7_commonDivisor_35 : decode cX7_commonDivisor 35 = .ok (.ireturn, 1) := by decide +kernel
theorem dX8_init_0 : decode cX8_init 0 = .ok (.aload_n 0, 1) := by decide +kernel
theorem dX8_init_1 : decode cX8_init 1 = .ok (.invokespecial 1, 3) := by decide +kernel
theorem dX8_init_4 : decode cX8_init 4 = .ok (.aload_n 0, 1) := by decide +kernel
theorem dX8_init_5 : decode cX8_init 5 = .ok (.bipush 82, 2) := by decide +kernel
theorem dX8_init_7 : decode cX8_init 7 = .ok (.newarray .int, 2) := by decide +kernel
theorem dX8_init_9 : decode cX8_init 9 = .ok (.putfield 7, 3) := by decide +kernel
theorem dX8_init_12 : decode cX8_init 12 = .ok (.aload_n 0, 1) := by decide +kernel
theorem dX8_init_13 : decode cX8_init 13 = .ok (.bipush 82, 2) := by decide +kernel
theorem dX8_init_15 : decode cX8_init 15 = .ok (.newarray .int, 2) := by decide +kernel
theorem dX8_init_17 : decode cX8_init 17 = .ok (.putfield 13, 3) := by decide +kernel
theorem dX8_init_20 : decode cX8_init 20 = .ok (.aload_n 0, 1) := by decide +kernel
theorem dX8_init_21 : decode cX8_init 21 = .ok (.bipush 82, 2) := by decide +kernel
theorem dX8_init_23 : decode cX8_init 23 = .ok (.newarray .int, 2) := by decide +kernel
theorem dX8_init_25 : decode cX8_init 25 = .ok (.putfield 16, 3) := by decide +kernel
theorem dX8_init_28 : decode cX8_init 28 = .ok (.aload_n 0, 1) := by decide +kernel
theorem dX8_init_29 : decode cX8_init 29 = .ok (.sipush 656, 3) := by decide +kernel
theorem dX8_init_32 : decode cX8_init 32 = .ok (.newarray .int, 2) := by decide +kernel
theorem dX8_init_34 : decode cX8_init 34 = .ok (.putfield 19, 3) := by decide +kernel
theorem dX8_init_37 : decode cX8_init 37 = .ok (.aload_n 0, 1) := by decide +kernel
theorem dX8_init_38 : decode cX8_init 38 = .ok (.bipush 10, 2) := by decide +kernel
theorem dX8_init_40 : decode cX8_init 40 = .ok (.newarray .boolean, 2) := by decide +kernel
theorem dX8_init_42 : decode cX8_init 42 = .ok (.putfield 22, 3) := by decide +kernel
theorem dX8_init_45 : decode cX8_init 45 = .ok (.aload_n 0, 1) := by decide +kernel
theorem dX8_init_46 : decode cX8_init 46 = .ok (.bipush 10, 2) := by decide +kernel
theorem dX8_init_48 : decode cX8_init 48 = .ok (.newarray .boolean, 2) := by decide +kernel
theorem dX8_init_50 : decode cX8_init 50 = .ok (.putfield 26, 3) := by decide +kernel
theorem dX8_init_53 : decode cX8_init 53 = .ok (.aload_n 0, 1) := by decide +kernel
theorem dX8_init_54 : decode cX8_init 54 = .ok (.sipush 700, 3) := by decide +kernel
theorem dX8_init_57 : decode cX8_init 57 = .ok (.newarray .int, 2) := by decide +kernel
theorem dX8_init_59 : decode cX8_init 59 = .ok (.putfield 29, 3) := by decide +kernel
theorem dX8_init_62 : decode cX8_init 62 = .ok (.aload_n 0, 1) := by decide +kernel
theorem dX8_init_63 : decode cX8_init 63 = .ok (.iconst (-1), 1) := by decide +kernel
theorem dX8_init_64 : decode cX8_init 64 = .ok (.putfield 32, 3) := by decide +kernel
theorem dX8_init_67 : decode cX8_init 67 = .ok (.aload_n 0, 1) := by decide +kernel
theorem dX8_init_68 : decode cX8_init 68 = .ok (.iconst (-1), 1) := by decide +kernel
theorem dX8_init_69 : decode cX8_init 69 = .ok (.putfield 36, 3) := by decide +kernel
theorem dX8_init_72 : decode cX8_init 72 = .ok (.aload_n 0, 1) := by decide +kernel
theorem dX8_init_73 : decode cX8_init 73 = .ok (.iconst 5, 1) := by decide +kernel
theorem dX8_init_74 : decode cX8_init 74 = .ok (.newarray .long, 2) := by decide +kernel
theorem dX8_init_76 : decode cX8_init 76 = .ok (.putfield 39, 3) := by decide +kernel
theorem dX8_init_79 : decode cX8_init 79 = .ok (.aload_n 0, 1) := by decide +kernel
theorem dX8_init_80 : decode cX8_init 80 = .ok (.bipush 10, 2) := by decide +kernel
theorem dX8_init_82 : decode cX8_init 82 = .ok (.newarray .long, 2) := by decide +kernel
theorem dX8_init_84 : decode cX8_init 84 = .ok (.putfield 43, 3) := by decide +kernel
theorem dX8_init_87 : decode cX8_init 87 = .ok (.aload_n 0, 1) := by decide +kernel
theorem dX8_init_88 : decode cX8_init 88 = .ok (.iconst 4, 1) := by decide +kernel
theorem dX8_init_89 : decode cX8_init 89 = .ok (.newarray .long, 2) := by decide +kernel
theorem dX8_init_91 : decode cX8_init 91 = .ok (.putfield 46, 3) := by decide +kernel
theorem dX8_init_94 : decode cX8_init 94 = .ok (.aload_n 0, 1) := by decide +kernel
theorem dX8_init_95 : decode cX8_init 95 = .ok (.bipush 10, 2) := by decide +kernel
theorem dX8_init_97 : decode cX8_init 97 = .ok (.newarray .int, 2) := by decide +kernel
theorem dX8_init_99 : decode cX8_init 99 = .ok (.putfield 49, 3) := by decide +kernel
theorem dX8_init_102 : decode cX8_init 102 = .ok (.aload_n 0, 1) := by decide +kernel
theorem dX8_init_103 : decode cX8_init 103 = .ok (.bipush 10, 2) := by decide +kernel
theorem dX8_init_105 : decode cX8_init 105 = .ok (.newarray .int, 2) := by decide +kernel
theorem dX8_init_107 : decode cX8_init 107 = .ok (.putfield 52, 3) := by decide +kernel
theorem dX8_init_110 : decode cX8_init 110 = .ok (.aload_n 0, 1) := by decide +kernel
theorem dX8_init_111 : decode cX8_init 111 = .ok (.bipush 10, 2) := by decide +kernel
theorem dX8_init_113 : decode cX8_init 113 = .ok (.newarray .int, 2) := by decide +kernel
theorem dX8_init_115 : decode cX8_init 115 = .ok (.putfield 55, 3) := by decide +kernel
theorem dX8_init_118 : decode cX8_init 118 = .ok (.aload_n 0, 1) := by decide +kernel
theorem dX8_init_119 : decode cX8_init 119 = .ok (.bipush 10, 2) := by decide +kernel
theorem dX8_init_121 : decode cX8_init 121 = .ok (.newarray .int, 2) := by decide +kernel
theorem dX8_init_123 : decode cX8_init 123 = .ok (.putfield 58, 3) := by decide +kernel
theorem dX8_init_126 : decode cX8_init 126 = .ok (.aload_n 0, 1) := by decide +kernel
theorem dX8_init_127 : decode cX8_init 127 = .ok (.bipush 10, 2) := by decide +kernel
theorem dX8_init_129 : decode cX8_init 129 = .ok (.newarray .int, 2) := by decide +kernel
theorem dX8_init_131 : decode cX8_init 131 = .ok (.putfield 61, 3) := by decide +kernel
theorem dX8_init_134 : decode cX8_init 134 = .ok (.aload_n 0, 1) := by decide +kernel
theorem dX8_init_135 : decode cX8_init 135 = .ok (.bipush 10, 2) := by decide +kernel
theorem dX8_init_137 : decode cX8_init 137 = .ok (.newarray .int, 2) := by decide +kernel
theorem dX8_init_139 : decode cX8_init 139 = .ok (.putfield 64, 3) := by decide +kernel
theorem dX8_init_142 : decode cX8_init 142 = .ok (.aload_n 0, 1) := by decide +kernel
theorem dX8_init_143 : decode cX8_init 143 = .ok (.bipush 10, 2) := by decide +kernel
theorem dX8_init_145 : decode cX8_init 145 = .ok (.newarray .int, 2) := by decide +kernel
theorem dX8_init_147 : decode cX8_init 147 = .ok (.putfield 67, 3) := by decide +kernel
theorem dX8_init_150 : decode cX8_init 150 = .ok (.aload_n 0, 1) := by decide +kernel
theorem dX8_init_151 : decode cX8_init 151 = .ok (.bipush 10, 2) := by decide +kernel
theorem dX8_init_153 : decode cX8_init 153 = .ok (.newarray .int, 2) := by decide +kernel
theorem dX8_init_155 : decode cX8_init 155 = .ok (.putfield 70, 3) := by decide +kernel
theorem dX8_init_158 : decode cX8_init 158 = .ok (.aload_n 0, 1) := by decide +kernel
theorem dX8_init_159 : decode cX8_init 159 = .ok (.bipush 10, 2) := by decide +kernel
theorem dX8_init_161 : decode cX8_init 161 = .ok (.newarray .int, 2) := by decide +kernel
theorem dX8_init_163 : decode cX8_init 163 = .ok (.putfield 73, 3) := by decide +kernel
theorem dX8_init_166 : decode cX8_init 166 = .ok (.aload_n 0, 1) := by decide +kernel
theorem dX8_init_167 : decode cX8_init 167 = .ok (.bipush 10, 2) := by decide +kernel
theorem dX8_init_169 : decode cX8_init 169 = .ok (.newarray .int, 2) := by decide +kernel
theorem dX8_init_171 : decode cX8_init 171 = .ok (.putfield 76, 3) := by decide +kernel
theorem dX8_init_174 : decode cX8_init 174 = .ok (.aload_n 0, 1) := by decide +kernel
theorem dX8_init_175 : decode cX8_init 175 = .ok (.iconst 5, 1) := by decide +kernel
theorem dX8_init_176 : decode cX8_init 176 = .ok (.newarray .int, 2) := by decide +kernel
theorem dX8_init_178 : decode cX8_init 178 = .ok (.putfield 79, 3) := by decide +kernel
theorem dX8_init_181 : decode cX8_init 181 = .ok (.aload_n 0, 1) := by decide +kernel
theorem dX8_init_182 : decode cX8_init 182 = .ok (.iconst 5, 1) := by decide +kernel
theorem dX8_init_183 : decode cX8_init 183 = .ok (.newarray .int, 2) := by decide +kernel
theorem dX8_init_185 : decode cX8_init 185 = .ok (.putfield 82, 3) := by decide +kernel
theorem dX8_init_188 : decode cX8_init 188 = .ok (.aload_n 0, 1) := by decide +kernel
theorem dX8_init_189 : decode cX8_init 189 = .ok (.bipush 10, 2) := by decide +kernel
theorem dX8_init_191 : decode cX8_init 191 = .ok (.newarray .int, 2) := by decide +kernel
theorem dX8_init_193 : decode cX8_init 193 = .ok (.putfield 85, 3) := by decide +kernel
theorem dX8_init_196 : decode cX8_init 196 = .ok (.aload_n 0, 1) := by decide +kernel
theorem dX8_init_197 : decode cX8_init 197 = .ok (.bipush 35, 2) := by decide +kernel
theorem dX8_init_199 : decode cX8_init 199 = .ok (.newarray .long, 2) := by decide +kernel
theorem dX8_init_201 : decode cX8_init 201 = .ok (.putfield 88, 3) := by decide +kernel
theorem dX8_init_204 : decode cX8_init 204 = .ok (.aload_n 0, 1) := by decide +kernel
theorem dX8_init_205 : decode cX8_init 205 = .ok (.bipush 7, 2) := by decide +kernel
theorem dX8_init_207 : decode cX8_init 207 = .ok (.newarray .long, 2) := by decide +kernel
theorem dX8_init_209 : decode cX8_init 209 = .ok (.putfield 91, 3) := by decide +kernel
theorem dX8_init_212 : decode cX8_init 212 = .ok (.aload_n 0, 1) := by decide +kernel
theorem dX8_init_213 : decode cX8_init 213 = .ok (.bipush 7, 2) := by decide +kernel
theorem dX8_init_215 : decode cX8_init 215 = .ok (.newarray .long, 2) := by decide +kernel
theorem dX8_init_217 : decode cX8_init 217 = .ok (.putfield 94, 3) := by decide +kernel
theorem dX8_init_220 : decode cX8_init 220 = .ok (.aload_n 0, 1) := by decide +kernel
theorem dX8_init_221 : decode cX8_init 221 = .ok (.bipush 49, 2) := by decide +kernel
theorem dX8_init_223 : decode cX8_init 223 = .ok (.newarray .long, 2) := by decide +kernel
theorem dX8_init_225 : decode cX8_init 225 = .ok (.putfield 97, 3) := by decide +kernel
theorem dX8_init_228 : decode cX8_init 228 = .ok (.aload_n 0, 1) := by decide +kernel
theorem dX8_init_229 : decode cX8_init 229 = .ok (.iconst 5, 1) := by decide +kernel
theorem dX8_init_230 : decode cX8_init 230 = .ok (.newarray .long, 2) := by decide +kernel
theorem dX8_init_232 : decode cX8_init 232 = .ok (.putfield 100, 3) := by decide +kernel
theorem dX8_init_235 : decode cX8_init 235 = .ok (.aload_n 0, 1) := by decide +kernel
theorem dX8_init_236 : decode cX8_init 236 = .ok (.sipush 128, 3) := by decide +kernel
theorem dX8_init_239 : decode cX8_init 239 = .ok (.newarray .boolean, 2) := by decide +kernel
theorem dX8_init_241 : decode cX8_init 241 = .ok (.putfield 103, 3) := by decide +kernel
theorem dX8_init_244 : decode cX8_init 244 = .ok (.aload_n 0, 1) := by decide +kernel
theorem dX8_init_245 : decode cX8_init 245 = .ok (.bipush 10, 2) := by decide +kernel
theorem dX8_init_247 : decode cX8_init 247 = .ok (.newarray .int, 2) := by decide +kernel
theorem dX8_init_249 : decode cX8_init 249 = .ok (.putfield 106, 3) := by decide +kernel
theorem dX8_init_252 : decode cX8_init 252 = .ok (.aload_n 0, 1) := by decide +kernel
theorem dX8_init_253 : decode cX8_init 253 = .ok (.bipush 10, 2) := by decide +kernel
theorem dX8_init_255 : decode cX8_init 255 = .ok (.newarray .int, 2) := by decide +kernel
theorem dX8_init_257 : decode cX8_init 257 = .ok (.putfield 109, 3) := by decide +kernel
theorem dX8_init_260 : decode cX8_init 260 = .ok (.aload_n 0, 1) := by decide +kernel
theorem dX8_init_261 : decode cX8_init 261 = .ok (.bipush 64, 2) := by decide +kernel
theorem dX8_init_263 : decode cX8_init 263 = .ok (.newarray .int, 2) := by decide +kernel
theorem dX8_init_265 : decode cX8_init 265 = .ok (.putfield 112, 3) := by decide +kernel
theorem dX8_init_268 : decode cX8_init 268 = .ok (.aload_n 0, 1) := by decide +kernel
theorem dX8_init_269 : decode cX8_init 269 = .ok (.getfield 7, 3) := by decide +kernel
theorem dX8_init_272 : decode cX8_init 272 = .ok (.invokestatic 115, 3) := by decide +kernel
theorem dX8_init_275 : decode cX8_init 275 = .ok (.return_, 1) := by decide +kernel
theorem dX8_status_0 : decode cX8_status 0 = .ok (.aload_n 0, 1) := by decide +kernel
theorem dX8_status_1 : decode cX8_status 1 = .ok (.iconst 0, 1) := by decide +kernel
theorem dX8_status_2 : decode cX8_status 2 = .ok (.putfield 119, 3) := by decide +kernel
theorem dX8_status_5 : decode cX8_status 5 = .ok (.aload_n 0, 1) := by decide +kernel
theorem dX8_status_6 : decode cX8_status 6 = .ok (.getfield 122, 3) := by decide +kernel
theorem dX8_status_9 : decode cX8_status 9 = .ok (.ireturn, 1) := by decide +kernel
theorem dX8_refuse_0 : decode cX8_refuse 0 = .ok (.aload_n 0, 1) := by decide +kernel
theorem dX8_refuse_1 : decode cX8_refuse 1 = .ok (.iconst 0, 1) := by decide +kernel
theorem dX8_refuse_2 : decode cX8_refuse 2 = .ok (.putfield 119, 3) := by decide +kernel
theorem dX8_refuse_5 : decode cX8_refuse 5 = .ok (.aload_n 0, 1) := by decide +kernel
theorem dX8_refuse_6 : decode cX8_refuse 6 = .ok (.iload_n 1, 1) := by decide +kernel
theorem dX8_refuse_7 : decode cX8_refuse 7 = .ok (.putfield 122, 3) := by decide +kernel
theorem dX8_refuse_10 : decode cX8_refuse 10 = .ok (.iconst (-1), 1) := by decide +kernel
theorem dX8_refuse_11 : decode cX8_refuse 11 = .ok (.ireturn, 1) := by decide +kernel
theorem dX8_gives_0 : decode cX8_gives 0 = .ok (.aload_n 0, 1) := by decide +kernel
theorem dX8_gives_1 : decode cX8_gives 1 = .ok (.iconst 0, 1) := by decide +kernel
theorem dX8_gives_2 : decode cX8_gives 2 = .ok (.putfield 119, 3) := by decide +kernel
theorem dX8_gives_5 : decode cX8_gives 5 = .ok (.aload_n 0, 1) := by decide +kernel
theorem dX8_gives_6 : decode cX8_gives 6 = .ok (.iconst 0, 1) := by decide +kernel
theorem dX8_gives_7 : decode cX8_gives 7 = .ok (.putfield 122, 3) := by decide +kernel
theorem dX8_gives_10 : decode cX8_gives 10 = .ok (.iload_n 1, 1) := by decide +kernel
theorem dX8_gives_11 : decode cX8_gives 11 = .ok (.ireturn, 1) := by decide +kernel
theorem dX8_givesLong_0 : decode cX8_givesLong 0 = .ok (.aload_n 0, 1) := by decide +kernel
theorem dX8_givesLong_1 : decode cX8_givesLong 1 = .ok (.iconst 0, 1) := by decide +kernel
theorem dX8_givesLong_2 : decode cX8_givesLong 2 = .ok (.putfield 119, 3) := by decide +kernel
theorem dX8_givesLong_5 : decode cX8_givesLong 5 = .ok (.aload_n 0, 1) := by decide +kernel
theorem dX8_givesLong_6 : decode cX8_givesLong 6 = .ok (.iconst 0, 1) := by decide +kernel
theorem dX8_givesLong_7 : decode cX8_givesLong 7 = .ok (.putfield 122, 3) := by decide +kernel
theorem dX8_givesLong_10 : decode cX8_givesLong 10 = .ok (.lload_n 1, 1) := by decide +kernel
theorem dX8_givesLong_11 : decode cX8_givesLong 11 = .ok (.lreturn, 1) := by decide +kernel
theorem dX8_isFrom_0 : decode cX8_isFrom 0 = .ok (.lload_n 0, 1) := by decide +kernel
theorem dX8_isFrom_1 : decode cX8_isFrom 1 = .ok (.lload_n 2, 1) := by decide +kernel
theorem dX8_isFrom_2 : decode cX8_isFrom 2 = .ok (.lcmp, 1) := by decide +kernel
theorem dX8_isFrom_3 : decode cX8_isFrom 3 = .ok (.ifCond .lt 14, 3) := by decide +kernel
theorem dX8_isFrom_6 : decode cX8_isFrom 6 = .ok (.lload_n 0, 1) := by decide +kernel
theorem dX8_isFrom_7 : decode cX8_isFrom 7 = .ok (.lload 4, 2) := by decide +kernel
theorem dX8_isFrom_9 : decode cX8_isFrom 9 = .ok (.lcmp, 1) := by decide +kernel
theorem dX8_isFrom_10 : decode cX8_isFrom 10 = .ok (.ifCond .gt 7, 3) := by decide +kernel
theorem dX8_isFrom_13 : decode cX8_isFrom 13 = .ok (.iconst 1, 1) := by decide +kernel
theorem dX8_isFrom_14 : decode cX8_isFrom 14 = .ok (.goto 4, 3) := by decide +kernel
theorem dX8_isFrom_17 : decode cX8_isFrom 17 = .ok (.iconst 0, 1) := by decide +kernel
theorem dX8_isFrom_18 : decode cX8_isFrom 18 = .ok (.ireturn, 1) := by decide +kernel
theorem dX8_has_0 : decode cX8_has 0 = .ok (.iload_n 0, 1) := by decide +kernel
theorem dX8_has_1 : decode cX8_has 1 = .ok (.iload_n 1, 1) := by decide +kernel
theorem dX8_has_2 : decode cX8_has 2 = .ok (.ishr, 1) := by decide +kernel
theorem dX8_has_3 : decode cX8_has 3 = .ok (.iconst 1, 1) := by decide +kernel
theorem dX8_has_4 : decode cX8_has 4 = .ok (.iand, 1) := by decide +kernel
theorem dX8_has_5 : decode cX8_has 5 = .ok (.iconst 1, 1) := by decide +kernel
theorem dX8_has_6 : decode cX8_has 6 = .ok (.if_icmp .ne 7, 3) := by decide +kernel
theorem dX8_has_9 : decode cX8_has 9 = .ok (.iconst 1, 1) := by decide +kernel
theorem dX8_has_10 : decode cX8_has 10 = .ok (.goto 4, 3) := by decide +kernel
theorem dX8_has_13 : decode cX8_has 13 = .ok (.iconst 0, 1) := by decide +kernel
theorem dX8_has_14 : decode cX8_has 14 = .ok (.ireturn, 1) := by decide +kernel
theorem dX8_common_0 : decode cX8_common 0 = .ok (.iload_n 0, 1) := by decide +kernel
theorem dX8_common_1 : decode cX8_common 1 = .ok (.istore_n 2, 1) := by decide +kernel
theorem dX8_common_2 : decode cX8_common 2 = .ok (.iload_n 1, 1) := by decide +kernel
theorem dX8_common_3 : decode cX8_common 3 = .ok (.istore_n 3, 1) := by decide +kernel
theorem dX8_common_4 : decode cX8_common 4 = .ok (.iload_n 3, 1) := by decide +kernel
theorem dX8_common_5 : decode cX8_common 5 = .ok (.ifCond .eq 16, 3) := by decide +kernel
theorem dX8_common_8 : decode cX8_common 8 = .ok (.iload_n 2, 1) := by decide +kernel
theorem dX8_common_9 : decode cX8_common 9 = .ok (.iload_n 3, 1) := by decide +kernel
theorem dX8_common_10 : decode cX8_common 10 = .ok (.irem, 1) := by decide +kernel
theorem dX8_common_11 : decode cX8_common 11 = .ok (.istore 4, 2) := by decide +kernel
theorem dX8_common_13 : decode cX8_common 13 = .ok (.iload_n 3, 1) := by decide +kernel
theorem dX8_common_14 : decode cX8_common 14 = .ok (.istore_n 2, 1) := by decide +kernel
theorem dX8_common_15 : decode cX8_common 15 = .ok (.iload 4, 2) := by decide +kernel
theorem dX8_common_17 : decode cX8_common 17 = .ok (.istore_n 3, 1) := by decide +kernel
theorem dX8_common_18 : decode cX8_common 18 = .ok (.goto (-14), 3) := by decide +kernel
theorem dX8_common_21 : decode cX8_common 21 = .ok (.iload_n 2, 1) := by decide +kernel
theorem dX8_common_22 : decode cX8_common 22 = .ok (.ireturn, 1) := by decide +kernel
theorem dX8_begins_0 : decode cX8_begins 0 = .ok (.iconst 0, 1) := by decide +kernel
theorem dX8_begins_1 : decode cX8_begins 1 = .ok (.istore_n 1, 1) := by decide +kernel
theorem dX8_begins_2 : decode cX8_begins 2 = .ok (.iload_n 1, 1) := by decide +kernel
theorem dX8_begins_3 : decode cX8_begins 3 = .ok (.bipush 82, 2) := by decide +kernel
theorem dX8_begins_5 : decode cX8_begins 5 = .ok (.if_icmp .ge 13, 3) := by decide +kernel
theorem dX8_begins_8 : decode cX8_begins 8 = .ok (.aload_n 0, 1) := by decide +kernel
theorem dX8_begins_9 : decode cX8_begins 9 = .ok (.iload_n 1, 1) := by decide +kernel
theorem dX8_begins_10 : decode cX8_begins 10 = .ok (.iconst 0, 1) := by decide +kernel
theorem dX8_begins_11 : decode cX8_begins 11 = .ok (.iastore, 1) := by decide +kernel
theorem dX8_begins_12 : decode cX8_begins 12 = .ok (.iinc 1 1, 3) := by decide +kernel
theorem dX8_begins_15 : decode cX8_begins 15 = .ok (.goto (-13), 3) := by decide +kernel
theorem dX8_begins_18 : decode cX8_begins 18 = .ok (.bipush 10, 2) := by decide +kernel
theorem dX8_begins_20 : decode cX8_begins 20 = .ok (.istore_n 1, 1) := by decide +kernel
theorem dX8_begins_21 : decode cX8_begins 21 = .ok (.iload_n 1, 1) := by decide +kernel
theorem dX8_begins_22 : decode cX8_begins 22 = .ok (.bipush 62, 2) := by decide +kernel
theorem dX8_begins_24 : decode cX8_begins 24 = .ok (.if_icmp .ge 13, 3) := by decide +kernel
theorem dX8_begins_27 : decode cX8_begins 27 = .ok (.aload_n 0, 1) := by decide +kernel
theorem dX8_begins_28 : decode cX8_begins 28 = .ok (.iload_n 1, 1) := by decide +kernel
theorem dX8_begins_29 : decode cX8_begins 29 = .ok (.iconst (-1), 1) := by decide +kernel
theorem dX8_begins_30 : decode cX8_begins 30 = .ok (.iastore, 1) := by decide +kernel
theorem dX8_begins_31 : decode cX8_begins 31 = .ok (.iinc 1 1, 3) := by decide +kernel
theorem dX8_begins_34 : decode cX8_begins 34 = .ok (.goto (-13), 3) := by decide +kernel
theorem dX8_begins_37 : decode cX8_begins 37 = .ok (.iconst 0, 1) := by decide +kernel
theorem dX8_begins_38 : decode cX8_begins 38 = .ok (.istore_n 1, 1) := by decide +kernel
theorem dX8_begins_39 : decode cX8_begins 39 = .ok (.iload_n 1, 1) := by decide +kernel
theorem dX8_begins_40 : decode cX8_begins 40 = .ok (.bipush 10, 2) := by decide +kernel
theorem dX8_begins_42 : decode cX8_begins 42 = .ok (.if_icmp .ge 16, 3) := by decide +kernel
theorem dX8_begins_45 : decode cX8_begins 45 = .ok (.aload_n 0, 1) := by decide +kernel
theorem dX8_begins_46 : decode cX8_begins 46 = .ok (.bipush 72, 2) := by decide +kernel
theorem dX8_begins_48 : decode cX8_begins 48 = .ok (.iload_n 1, 1) := by decide +kernel
theorem dX8_begins_49 : decode cX8_begins 49 = .ok (.iadd, 1) := by decide +kernel
theorem dX8_begins_50 : decode cX8_begins 50 = .ok (.iconst (-1), 1) := by decide +kernel
theorem dX8_begins_51 : decode cX8_begins 51 = .ok (.iastore, 1) := by decide +kernel
theorem dX8_begins_52 : decode cX8_begins 52 = .ok (.iinc 1 1, 3) := by decide +kernel
theorem dX8_begins_55 : decode cX8_begins 55 = .ok (.goto (-16), 3) := by decide +kernel
theorem dX8_begins_58 : decode cX8_begins 58 = .ok (.aload_n 0, 1) := by decide +kernel
theorem dX8_begins_59 : decode cX8_begins 59 = .ok (.bipush 69, 2) := by decide +kernel
theorem dX8_begins_61 : decode cX8_begins 61 = .ok (.bipush 100, 2) := by decide +kernel
theorem dX8_begins_63 : decode cX8_begins 63 = .ok (.iastore, 1) := by decide +kernel
theorem dX8_begins_64 : decode cX8_begins 64 = .ok (.return_, 1) := by decide +kernel
theorem dX8_isUnit_0 : decode cX8_isUnit 0 = .ok (.iload_n 1, 1) := by decide +kernel
theorem dX8_isUnit_1 : decode cX8_isUnit 1 = .ok (.i2l, 1) := by decide +kernel
theorem dX8_isUnit_2 : decode cX8_isUnit 2 = .ok (.lconst 0, 1) := by decide +kernel
theorem dX8_isUnit_3 : decode cX8_isUnit 3 = .ok (.aload_n 0, 1) := by decide +kernel
theorem dX8_isUnit_4 : decode cX8_isUnit 4 = .ok (.getfield 125, 3) := by decide +kernel
theorem dX8_isUnit_7 : decode cX8_isUnit 7 = .ok (.iconst 1, 1) := by decide +kernel
theorem dX8_isUnit_8 : decode cX8_isUnit 8 = .ok (.isub, 1) := by decide +kernel
theorem dX8_isUnit_9 : decode cX8_isUnit 9 = .ok (.i2l, 1) := by decide +kernel
theorem dX8_isUnit_10 : decode cX8_isUnit 10 = .ok (.invokestatic 128, 3) := by decide +kernel
theorem dX8_isUnit_13 : decode cX8_isUnit 13 = .ok (.ireturn, 1) := by decide +kernel
theorem dX8_isHunter_0 : decode cX8_isHunter 0 = .ok (.iload_n 1, 1) := by decide +kernel
theorem dX8_isHunter_1 : decode cX8_isHunter 1 = .ok (.i2l, 1) := by decide +kernel
theorem dX8_isHunter_2 : decode cX8_isHunter 2 = .ok (.lconst 0, 1) := by decide +kernel
theorem dX8_isHunter_3 : decode cX8_isHunter 3 = .ok (.aload_n 0, 1) := by decide +kernel
theorem dX8_isHunter_4 : decode cX8_isHunter 4 = .ok (.getfield 132, 3) := by decide +kernel
theorem dX8_isHunter_7 : decode cX8_isHunter 7 = .ok (.iconst 1, 1) := by decide +kernel
theorem dX8_isHunter_8 : decode cX8_isHunter 8 = .ok (.isub, 1) := by decide +kernel
theorem dX8_isHunter_9 : decode cX8_isHunter 9 = .ok (.i2l, 1) := by decide +kernel
theorem dX8_isHunter_10 : decode cX8_isHunter 10 = .ok (.invokestatic 128, 3) := by decide +kernel
theorem dX8_isHunter_13 : decode cX8_isHunter 13 = .ok (.ireturn, 1) := by decide +kernel
theorem dX8_isParty_0 : decode cX8_isParty 0 = .ok (.iload_n 1, 1) := by decide +kernel
theorem dX8_isParty_1 : decode cX8_isParty 1 = .ok (.i2l, 1) := by decide +kernel
theorem dX8_isParty_2 : decode cX8_isParty 2 = .ok (.lconst 0, 1) := by decide +kernel
theorem dX8_isParty_3 : decode cX8_isParty 3 = .ok (.aload_n 0, 1) := by decide +kernel
theorem dX8_isParty_4 : decode cX8_isParty 4 = .ok (.getfield 7, 3) := by decide +kernel
theorem dX8_isParty_7 : decode cX8_isParty 7 = .ok (.bipush 70, 2) := by decide +kernel
theorem dX8_isParty_9 : decode cX8_isParty 9 = .ok (.iaload, 1) := by decide +kernel
theorem dX8_isParty_10 : decode cX8_isParty 10 = .ok (.iconst 1, 1) := by decide +kernel
theorem dX8_isParty_11 : decode cX8_isParty 11 = .ok (.isub, 1) := by decide +kernel
theorem dX8_isParty_12 : decode cX8_isParty 12 = .ok (.i2l, 1) := by decide +kernel
theorem dX8_isParty_13 : decode cX8_isParty 13 = .ok (.invokestatic 128, 3) := by decide +kernel
theorem dX8_isParty_16 : decode cX8_isParty 16 = .ok (.ireturn, 1) := by decide +kernel
theorem dX8_isSeed_0 : decode cX8_isSeed 0 = .ok (.iload_n 0, 1) := by decide +kernel
theorem dX8_isSeed_1 : decode cX8_isSeed 1 = .ok (.i2l, 1) := by decide +kernel
theorem dX8_isSeed_2 : decode cX8_isSeed 2 = .ok (.lconst 0, 1) := by decide +kernel
theorem dX8_isSeed_3 : decode cX8_isSeed 3 = .ok (.ldc2_w 135, 3) := by decide +kernel
theorem dX8_isSeed_6 : decode cX8_isSeed 6 = .ok (.invokestatic 128, 3) := by decide +kernel
theorem dX8_isSeed_9 : decode cX8_isSeed 9 = .ok (.ireturn, 1) := by decide +kernel
theorem dX8_come_0 : decode cX8_come 0 = .ok (.bipush 24, 2) := by decide +kernel
theorem dX8_come_2 : decode cX8_come 2 = .ok (.istore_n 2, 1) := by decide +kernel
theorem dX8_come_3 : decode cX8_come 3 = .ok (.iload_n 2, 1) := by decide +kernel
theorem dX8_come_4 : decode cX8_come 4 = .ok (.ifCond .lt 35, 3) := by decide +kernel
theorem dX8_come_7 : decode cX8_come 7 = .ok (.aload_n 0, 1) := by decide +kernel
theorem dX8_come_8 : decode cX8_come 8 = .ok (.getfield 29, 3) := by decide +kernel
theorem dX8_come_11 : decode cX8_come 11 = .ok (.aload_n 0, 1) := by decide +kernel
theorem dX8_come_12 : decode cX8_come 12 = .ok (.getfield 137, 3) := by decide +kernel
theorem dX8_come_15 : decode cX8_come 15 = .ok (.iload_n 1, 1) := by decide +kernel
theorem dX8_come_16 : decode cX8_come 16 = .ok (.iload_n 2, 1) := by decide +kernel
theorem dX8_come_17 : decode cX8_come 17 = .ok (.iushr, 1) := by decide +kernel
theorem dX8_come_18 : decode cX8_come 18 = .ok (.sipush 255, 3) := by decide +kernel
theorem dX8_come_21 : decode cX8_come 21 = .ok (.iand, 1) := by decide +kernel
theorem dX8_come_22 : decode cX8_come 22 = .ok (.iastore, 1) := by decide +kernel
theorem dX8_come_23 : decode cX8_come 23 = .ok (.aload_n 0, 1) := by decide +kernel
theorem dX8_come_24 : decode cX8_come 24 = .ok (.dup, 1) := by decide +kernel
theorem dX8_come_25 : decode cX8_come 25 = .ok (.getfield 137, 3) := by decide +kernel
theorem dX8_come_28 : decode cX8_come 28 = .ok (.iconst 1, 1) := by decide +kernel
theorem dX8_come_29 : decode cX8_come 29 = .ok (.iadd, 1) := by decide +kernel
theorem dX8_come_30 : decode cX8_come 30 = .ok (.putfield 137, 3) := by decide +kernel
theorem dX8_come_33 : decode cX8_come 33 = .ok (.iinc 2 (-8), 3) := by decide +kernel
theorem dX8_come_36 : decode cX8_come 36 = .ok (.goto (-33), 3) := by decide +kernel
theorem dX8_come_39 : decode cX8_come 39 = .ok (.return_, 1) := by decide +kernel
theorem dX8_feed_0 : decode cX8_feed 0 = .ok (.aload_n 0, 1) := by decide +kernel
theorem dX8_feed_1 : decode cX8_feed 1 = .ok (.iconst 0, 1) := by decide +kernel
theorem dX8_feed_2 : decode cX8_feed 2 = .ok (.putfield 119, 3) := by decide +kernel
theorem dX8_feed_5 : decode cX8_feed 5 = .ok (.aload_n 0, 1) := by decide +kernel
theorem dX8_feed_6 : decode cX8_feed 6 = .ok (.getfield 137, 3) := by decide +kernel
theorem dX8_feed_9 : decode cX8_feed 9 = .ok (.bipush 20, 2) := by decide +kernel
theorem dX8_feed_11 : decode cX8_feed 11 = .ok (.iadd, 1) := by decide +kernel
theorem dX8_feed_12 : decode cX8_feed 12 = .ok (.sipush 700, 3) := by decide +kernel
theorem dX8_feed_15 : decode cX8_feed 15 = .ok (.if_icmp .le 5, 3) := by decide +kernel
theorem dX8_feed_18 : decode cX8_feed 18 = .ok (.iconst (-1), 1) := by decide +kernel
theorem dX8_feed_19 : decode cX8_feed 19 = .ok (.ireturn, 1) := by decide +kernel
theorem dX8_feed_20 : decode cX8_feed 20 = .ok (.aload_n 0, 1) := by decide +kernel
theorem dX8_feed_21 : decode cX8_feed 21 = .ok (.iload_n 1, 1) := by decide +kernel
theorem dX8_feed_22 : decode cX8_feed 22 = .ok (.invokevirtual 140, 3) := by decide +kernel
theorem dX8_feed_25 : decode cX8_feed 25 = .ok (.aload_n 0, 1) := by decide +kernel
theorem dX8_feed_26 : decode cX8_feed 26 = .ok (.iload_n 2, 1) := by decide +kernel
theorem dX8_feed_27 : decode cX8_feed 27 = .ok (.invokevirtual 140, 3) := by decide +kernel
theorem dX8_feed_30 : decode cX8_feed 30 = .ok (.aload_n 0, 1) := by decide +kernel
theorem dX8_feed_31 : decode cX8_feed 31 = .ok (.iload_n 3, 1) := by decide +kernel
theorem dX8_feed_32 : decode cX8_feed 32 = .ok (.invokevirtual 140, 3) := by decide +kernel
theorem dX8_feed_35 : decode cX8_feed 35 = .ok (.aload_n 0, 1) := by decide +kernel
theorem dX8_feed_36 : decode cX8_feed 36 = .ok (.iload 4, 2) := by decide +kernel
theorem dX8_feed_38 : decode cX8_feed 38 = .ok (.invokevirtual 140, 3) := by decide +kernel
theorem dX8_feed_41 : decode cX8_feed 41 = .ok (.aload_n 0, 1) := by decide +kernel
theorem dX8_feed_42 : decode cX8_feed 42 = .ok (.iload 5, 2) := by decide +kernel
theorem dX8_feed_44 : decode cX8_feed 44 = .ok (.invokevirtual 140, 3) := by decide +kernel
theorem dX8_feed_47 : decode cX8_feed 47 = .ok (.aload_n 0, 1) := by decide +kernel
theorem dX8_feed_48 : decode cX8_feed 48 = .ok (.getfield 137, 3) := by decide +kernel
theorem dX8_feed_51 : decode cX8_feed 51 = .ok (.ireturn, 1) := by decide +kernel
theorem dX8_byteAt_0 : decode cX8_byteAt 0 = .ok (.iload_n 1, 1) := by decide +kernel
theorem dX8_byteAt_1 : decode cX8_byteAt 1 = .ok (.aload_n 0, 1) := by decide +kernel
theorem dX8_byteAt_2 : decode cX8_byteAt 2 = .ok (.getfield 144, 3) := by decide +kernel
theorem dX8_byteAt_5 : decode cX8_byteAt 5 = .ok (.if_icmp .ge 12, 3) := by decide +kernel
theorem dX8_byteAt_8 : decode cX8_byteAt 8 = .ok (.aload_n 0, 1) := by decide +kernel
theorem dX8_byteAt_9 : decode cX8_byteAt 9 = .ok (.getfield 29, 3) := by decide +kernel
theorem dX8_byteAt_12 : decode cX8_byteAt 12 = .ok (.iload_n 1, 1) := by decide +kernel
theorem dX8_byteAt_13 : decode cX8_byteAt 13 = .ok (.iaload, 1) := by decide +kernel
theorem dX8_byteAt_14 : decode cX8_byteAt 14 = .ok (.goto 4, 3) := by decide +kernel
theorem dX8_byteAt_17 : decode cX8_byteAt 17 = .ok (.iconst (-1), 1) := by decide +kernel
theorem dX8_byteAt_18 : decode cX8_byteAt 18 = .ok (.ireturn, 1) := by decide +kernel
theorem dX8_isLetter_0 : decode cX8_isLetter 0 = .ok (.iload_n 0, 1) := by decide +kernel
theorem dX8_isLetter_1 : decode cX8_isLetter 1 = .ok (.bipush 97, 2) := by decide +kernel
theorem dX8_isLetter_3 : decode cX8_isLetter 3 = .ok (.if_icmp .lt 13, 3) := by decide +kernel
theorem dX8_isLetter_6 : decode cX8_isLetter 6 = .ok (.iload_n 0, 1) := by decide +kernel
theorem dX8_isLetter_7 : decode cX8_isLetter 7 = .ok (.bipush 122, 2) := by decide +kernel
theorem dX8_isLetter_9 : decode cX8_isLetter 9 = .ok (.if_icmp .gt 7, 3) := by decide +kernel
theorem dX8_isLetter_12 : decode cX8_isLetter 12 = .ok (.iconst 1, 1) := by decide +kernel
theorem dX8_isLetter_13 : decode cX8_isLetter 13 = .ok (.goto 4, 3) := by decide +kernel
theorem dX8_isLetter_16 : decode cX8_isLetter 16 = .ok (.iconst 0, 1) := by decide +kernel
theorem dX8_isLetter_17 : decode cX8_isLetter 17 = .ok (.ireturn, 1) := by decide +kernel
theorem dX8_isDigit_0 : decode cX8_isDigit 0 = .ok (.iload_n 0, 1) := by decide +kernel
theorem dX8_isDigit_1 : decode cX8_isDigit 1 = .ok (.bipush 48, 2) := by decide +kernel
theorem dX8_isDigit_3 : decode cX8_isDigit 3 = .ok (.if_icmp .lt 13, 3) := by decide +kernel
theorem dX8_isDigit_6 : decode cX8_isDigit 6 = .ok (.iload_n 0, 1) := by decide +kernel
theorem dX8_isDigit_7 : decode cX8_isDigit 7 = .ok (.bipush 57, 2) := by decide +kernel
theorem dX8_isDigit_9 : decode cX8_isDigit 9 = .ok (.if_icmp .gt 7, 3) := by decide +kernel
theorem dX8_isDigit_12 : decode cX8_isDigit 12 = .ok (.iconst 1, 1) := by decide +kernel
theorem dX8_isDigit_13 : decode cX8_isDigit 13 = .ok (.goto 4, 3) := by decide +kernel
theorem dX8_isDigit_16 : decode cX8_isDigit 16 = .ok (.iconst 0, 1) := by decide +kernel
theorem dX8_isDigit_17 : decode cX8_isDigit 17 = .ok (.ireturn, 1) := by decide +kernel
theorem dX8_next_0 : decode cX8_next 0 = .ok (.aload_n 0, 1) := by decide +kernel
theorem dX8_next_1 : decode cX8_next 1 = .ok (.aload_n 0, 1) := by decide +kernel
theorem dX8_next_2 : decode cX8_next 2 = .ok (.getfield 147, 3) := by decide +kernel
theorem dX8_next_5 : decode cX8_next 5 = .ok (.invokevirtual 150, 3) := by decide +kernel
theorem dX8_next_8 : decode cX8_next 8 = .ok (.bipush 32, 2) := by decide +kernel
theorem dX8_next_10 : decode cX8_next 10 = .ok (.if_icmp .eq 16, 3) := by decide +kernel
theorem dX8_next_13 : decode cX8_next 13 = .ok (.aload_n 0, 1) := by decide +kernel
theorem dX8_next_14 : decode cX8_next 14 = .ok (.aload_n 0, 1) := by decide +kernel
theorem dX8_next_15 : decode cX8_next 15 = .ok (.getfield 147, 3) := by decide +kernel
theorem dX8_next_18 : decode cX8_next 18 = .ok (.invokevirtual 150, 3) := by decide +kernel
theorem dX8_next_21 : decode cX8_next 21 = .ok (.bipush 10, 2) := by decide +kernel
theorem dX8_next_23 : decode cX8_next 23 = .ok (.if_icmp .ne 16, 3) := by decide +kernel
theorem dX8_next_26 : decode cX8_next 26 = .ok (.aload_n 0, 1) := by decide +kernel
theorem dX8_next_27 : decode cX8_next 27 = .ok (.dup, 1) := by decide +kernel
theorem dX8_next_28 : decode cX8_next 28 = .ok (.getfield 147, 3) := by decide +kernel
theorem dX8_next_31 : decode cX8_next 31 = .ok (.iconst 1, 1) := by decide +kernel
theorem dX8_next_32 : decode cX8_next 32 = .ok (.iadd, 1) := by decide +kernel
theorem dX8_next_33 : decode cX8_next 33 = .ok (.putfield 147, 3) := by decide +kernel
theorem dX8_next_36 : decode cX8_next 36 = .ok (.goto (-36), 3) := by decide +kernel
theorem dX8_next_39 : decode cX8_next 39 = .ok (.aload_n 0, 1) := by decide +kernel
theorem dX8_next_40 : decode cX8_next 40 = .ok (.aload_n 0, 1) := by decide +kernel
theorem dX8_next_41 : decode cX8_next 41 = .ok (.getfield 147, 3) := by decide +kernel
theorem dX8_next_44 : decode cX8_next 44 = .ok (.putfield 154, 3) := by decide +kernel
theorem dX8_next_47 : decode cX8_next 47 = .ok (.aload_n 0, 1) := by decide +kernel
theorem dX8_next_48 : decode cX8_next 48 = .ok (.iconst (-1), 1) := by decide +kernel
theorem dX8_next_49 : decode cX8_next 49 = .ok (.putfield 157, 3) := by decide +kernel
theorem dX8_next_52 : decode cX8_next 52 = .ok (.aload_n 0, 1) := by decide +kernel
theorem dX8_next_53 : decode cX8_next 53 = .ok (.aload_n 0, 1) := by decide +kernel
theorem dX8_next_54 : decode cX8_next 54 = .ok (.getfield 147, 3) := by decide +kernel
theorem dX8_next_57 : decode cX8_next 57 = .ok (.invokevirtual 150, 3) := by decide +kernel
theorem dX8_next_60 : decode cX8_next 60 = .ok (.istore_n 1, 1) := by decide +kernel
theorem dX8_next_61 : decode cX8_next 61 = .ok (.iload_n 1, 1) := by decide +kernel
theorem dX8_next_62 : decode cX8_next 62 = .ok (.iconst (-1), 1) := by decide +kernel
theorem dX8_next_63 : decode cX8_next 63 = .ok (.if_icmp .ne 11, 3) := by decide +kernel
theorem dX8_next_66 : decode cX8_next 66 = .ok (.aload_n 0, 1) := by decide +kernel
theorem dX8_next_67 : decode cX8_next 67 = .ok (.iconst 0, 1) := by decide +kernel
theorem dX8_next_68 : decode cX8_next 68 = .ok (.putfield 160, 3) := by decide +kernel
theorem dX8_next_71 : decode cX8_next 71 = .ok (.goto 249, 3) := by decide +kernel
theorem dX8_next_74 : decode cX8_next 74 = .ok (.iload_n 1, 1) := by decide +kernel
theorem dX8_next_75 : decode cX8_next 75 = .ok (.invokestatic 163, 3) := by decide +kernel
theorem dX8_next_78 : decode cX8_next 78 = .ok (.ifCond .eq 117, 3) := by decide +kernel
theorem dX8_next_81 : decode cX8_next 81 = .ok (.aload_n 0, 1) := by decide +kernel
theorem dX8_next_82 : decode cX8_next 82 = .ok (.lconst 0, 1) := by decide +kernel
theorem dX8_next_83 : decode cX8_next 83 = .ok (.putfield 167, 3) := by decide +kernel
theorem dX8_next_86 : decode cX8_next 86 = .ok (.aload_n 0, 1) := by decide +kernel
theorem dX8_next_87 : decode cX8_next 87 = .ok (.aload_n 0, 1) := by decide +kernel
theorem dX8_next_88 : decode cX8_next 88 = .ok (.getfield 147, 3) := by decide +kernel
theorem dX8_next_91 : decode cX8_next 91 = .ok (.invokevirtual 150, 3) := by decide +kernel
theorem dX8_next_94 : decode cX8_next 94 = .ok (.invokestatic 163, 3) := by decide +kernel
theorem dX8_next_97 : decode cX8_next 97 = .ok (.ifCond .eq 54, 3) := by decide +kernel
theorem dX8_next_100 : decode cX8_next 100 = .ok (.aload_n 0, 1) := by decide +kernel
theorem dX8_next_101 : decode cX8_next 101 = .ok (.getfield 147, 3) := by decide +kernel
theorem dX8_next_104 : decode cX8_next 104 = .ok (.aload_n 0, 1) := by decide +kernel
theorem dX8_next_105 : decode cX8_next 105 = .ok (.getfield 154, 3) := by decide +kernel
theorem dX8_next_108 : decode cX8_next 108 = .ok (.isub, 1) := by decide +kernel
theorem dX8_next_109 : decode cX8_next 109 = .ok (.bipush 8, 2) := by decide +kernel
theorem dX8_next_111 : decode cX8_next 111 = .ok (.if_icmp .ge 27, 3) := by decide +kernel
theorem dX8_next_114 : decode cX8_next 114 = .ok (.aload_n 0, 1) := by decide +kernel
theorem dX8_next_115 : decode cX8_next 115 = .ok (.aload_n 0, 1) := by decide +kernel
theorem dX8_next_116 : decode cX8_next 116 = .ok (.getfield 167, 3) := by decide +kernel
theorem dX8_next_119 : decode cX8_next 119 = .ok (.iconst 5, 1) := by decide +kernel
theorem dX8_next_120 : decode cX8_next 120 = .ok (.lshl, 1) := by decide +kernel
theorem dX8_next_121 : decode cX8_next 121 = .ok (.aload_n 0, 1) := by decide +kernel
theorem dX8_next_122 : decode cX8_next 122 = .ok (.aload_n 0, 1) := by decide +kernel
theorem dX8_next_123 : decode cX8_next 123 = .ok (.getfield 147, 3) := by decide +kernel
theorem dX8_next_126 : decode cX8_next 126 = .ok (.invokevirtual 150, 3) := by decide +kernel
theorem dX8_next_129 : decode cX8_next 129 = .ok (.i2l, 1) := by decide +kernel
theorem dX8_next_130 : decode cX8_next 130 = .ok (.ldc2_w 171, 3) := by decide +kernel
theorem dX8_next_133 : decode cX8_next 133 = .ok (.lsub, 1) := by decide +kernel
theorem dX8_next_134 : decode cX8_next 134 = .ok (.lor, 1) := by decide +kernel
theorem dX8_next_135 : decode cX8_next 135 = .ok (.putfield 167, 3) := by decide +kernel
theorem dX8_next_138 : decode cX8_next 138 = .ok (.aload_n 0, 1) := by decide +kernel
theorem dX8_next_139 : decode cX8_next 139 = .ok (.dup, 1) := by decide +kernel
theorem dX8_next_140 : decode cX8_next 140 = .ok (.getfield 147, 3) := by decide +kernel
theorem dX8_next_143 : decode cX8_next 143 = .ok (.iconst 1, 1) := by decide +kernel
theorem dX8_next_144 : decode cX8_next 144 = .ok (.iadd, 1) := by decide +kernel
theorem dX8_next_145 : decode cX8_next 145 = .ok (.putfield 147, 3) := by decide +kernel
theorem dX8_next_148 : decode cX8_next 148 = .ok (.goto (-62), 3) := by decide +kernel
theorem dX8_next_151 : decode cX8_next 151 = .ok (.aload_n 0, 1) := by decide +kernel
theorem dX8_next_152 : decode cX8_next 152 = .ok (.aload_n 0, 1) := by decide +kernel
theorem dX8_next_153 : decode cX8_next 153 = .ok (.getfield 147, 3) := by decide +kernel
theorem dX8_next_156 : decode cX8_next 156 = .ok (.aload_n 0, 1) := by decide +kernel
theorem dX8_next_157 : decode cX8_next 157 = .ok (.getfield 154, 3) := by decide +kernel
theorem dX8_next_160 : decode cX8_next 160 = .ok (.isub, 1) := by decide +kernel
theorem dX8_next_161 : decode cX8_next 161 = .ok (.bipush 8, 2) := by decide +kernel
theorem dX8_next_163 : decode cX8_next 163 = .ok (.if_icmp .le 7, 3) := by decide +kernel
theorem dX8_next_166 : decode cX8_next 166 = .ok (.iconst 1, 1) := by decide +kernel
theorem dX8_next_167 : decode cX8_next 167 = .ok (.goto 4, 3) := by decide +kernel
theorem dX8_next_170 : decode cX8_next 170 = .ok (.iconst 2, 1) := by decide +kernel
theorem dX8_next_171 : decode cX8_next 171 = .ok (.putfield 160, 3) := by decide +kernel
theorem dX8_next_174 : decode cX8_next 174 = .ok (.aload_n 0, 1) := by decide +kernel
theorem dX8_next_175 : decode cX8_next 175 = .ok (.getfield 160, 3) := by decide +kernel
theorem dX8_next_178 : decode cX8_next 178 = .ok (.iconst 2, 1) := by decide +kernel
theorem dX8_next_179 : decode cX8_next 179 = .ok (.if_icmp .ne 141, 3) := by decide +kernel
theorem dX8_next_182 : decode cX8_next 182 = .ok (.aload_n 0, 1) := by decide +kernel
theorem dX8_next_183 : decode cX8_next 183 = .ok (.aload_n 0, 1) := by decide +kernel
theorem dX8_next_184 : decode cX8_next 184 = .ok (.ldc 173, 2) := by decide +kernel
theorem dX8_next_186 : decode cX8_next 186 = .ok (.invokevirtual 175, 3) := by decide +kernel
theorem dX8_next_189 : decode cX8_next 189 = .ok (.putfield 157, 3) := by decide +kernel
theorem dX8_next_192 : decode cX8_next 192 = .ok (.goto 128, 3) := by decide +kernel
theorem dX8_next_195 : decode cX8_next 195 = .ok (.iload_n 1, 1) := by decide +kernel
theorem dX8_next_196 : decode cX8_next 196 = .ok (.invokestatic 179, 3) := by decide +kernel
theorem dX8_next_199 : decode cX8_next 199 = .ok (.ifCond .eq 96, 3) := by decide +kernel
theorem dX8_next_202 : decode cX8_next 202 = .ok (.aload_n 0, 1) := by decide +kernel
theorem dX8_next_203 : decode cX8_next 203 = .ok (.iconst 0, 1) := by decide +kernel
theorem dX8_next_204 : decode cX8_next 204 = .ok (.putfield 182, 3) := by decide +kernel
theorem dX8_next_207 : decode cX8_next 207 = .ok (.aload_n 0, 1) := by decide +kernel
theorem dX8_next_208 : decode cX8_next 208 = .ok (.aload_n 0, 1) := by decide +kernel
theorem dX8_next_209 : decode cX8_next 209 = .ok (.getfield 147, 3) := by decide +kernel
theorem dX8_next_212 : decode cX8_next 212 = .ok (.invokevirtual 150, 3) := by decide +kernel
theorem dX8_next_215 : decode cX8_next 215 = .ok (.invokestatic 179, 3) := by decide +kernel
theorem dX8_next_218 : decode cX8_next 218 = .ok (.ifCond .eq 52, 3) := by decide +kernel
theorem dX8_next_221 : decode cX8_next 221 = .ok (.aload_n 0, 1) := by decide +kernel
theorem dX8_next_222 : decode cX8_next 222 = .ok (.getfield 147, 3) := by decide +kernel
theorem dX8_next_225 : decode cX8_next 225 = .ok (.aload_n 0, 1) := by decide +kernel
theorem dX8_next_226 : decode cX8_next 226 = .ok (.getfield 154, 3) := by decide +kernel
theorem dX8_next_229 : decode cX8_next 229 = .ok (.isub, 1) := by decide +kernel
theorem dX8_next_230 : decode cX8_next 230 = .ok (.iconst 3, 1) := by decide +kernel
theorem dX8_next_231 : decode cX8_next 231 = .ok (.if_icmp .ge 26, 3) := by decide +kernel
theorem dX8_next_234 : decode cX8_next 234 = .ok (.aload_n 0, 1) := by decide +kernel
theorem dX8_next_235 : decode cX8_next 235 = .ok (.bipush 10, 2) := by decide +kernel
theorem dX8_next_237 : decode cX8_next 237 = .ok (.aload_n 0, 1) := by decide +kernel
theorem dX8_next_238 : decode cX8_next 238 = .ok (.getfield 182, 3) := by decide +kernel
theorem dX8_next_241 : decode cX8_next 241 = .ok (.imul, 1) := by decide +kernel
theorem dX8_next_242 : decode cX8_next 242 = .ok (.aload_n 0, 1) := by decide +kernel
theorem dX8_next_243 : decode cX8_next 243 = .ok (.aload_n 0, 1) := by decide +kernel
theorem dX8_next_244 : decode cX8_next 244 = .ok (.getfield 147, 3) := by decide +kernel
theorem dX8_next_247 : decode cX8_next 247 = .ok (.invokevirtual 150, 3) := by decide +kernel
theorem dX8_next_250 : decode cX8_next 250 = .ok (.iadd, 1) := by decide +kernel
theorem dX8_next_251 : decode cX8_next 251 = .ok (.bipush 48, 2) := by decide +kernel
theorem dX8_next_253 : decode cX8_next 253 = .ok (.isub, 1) := by decide +kernel
theorem dX8_next_254 : decode cX8_next 254 = .ok (.putfield 182, 3) := by decide +kernel
theorem dX8_next_257 : decode cX8_next 257 = .ok (.aload_n 0, 1) := by decide +kernel
theorem dX8_next_258 : decode cX8_next 258 = .ok (.dup, 1) := by decide +kernel
theorem dX8_next_259 : decode cX8_next 259 = .ok (.getfield 147, 3) := by decide +kernel
theorem dX8_next_262 : decode cX8_next 262 = .ok (.iconst 1, 1) := by decide +kernel
theorem dX8_next_263 : decode cX8_next 263 = .ok (.iadd, 1) := by decide +kernel
theorem dX8_next_264 : decode cX8_next 264 = .ok (.putfield 147, 3) := by decide +kernel
theorem dX8_next_267 : decode cX8_next 267 = .ok (.goto (-60), 3) := by decide +kernel
theorem dX8_next_270 : decode cX8_next 270 = .ok (.aload_n 0, 1) := by decide +kernel
theorem dX8_next_271 : decode cX8_next 271 = .ok (.aload_n 0, 1) := by decide +kernel
theorem dX8_next_272 : decode cX8_next 272 = .ok (.getfield 147, 3) := by decide +kernel
theorem dX8_next_275 : decode cX8_next 275 = .ok (.aload_n 0, 1) := by decide +kernel
theorem dX8_next_276 : decode cX8_next 276 = .ok (.getfield 154, 3) := by decide +kernel
theorem dX8_next_279 : decode cX8_next 279 = .ok (.isub, 1) := by decide +kernel
theorem dX8_next_280 : decode cX8_next 280 = .ok (.iconst 3, 1) := by decide +kernel
theorem dX8_next_281 : decode cX8_next 281 = .ok (.if_icmp .le 7, 3) := by decide +kernel
theorem dX8_next_284 : decode cX8_next 284 = .ok (.iconst 1, 1) := by decide +kernel
theorem dX8_next_285 : decode cX8_next 285 = .ok (.goto 4, 3) := by decide +kernel
theorem dX8_next_288 : decode cX8_next 288 = .ok (.iconst 3, 1) := by decide +kernel
theorem dX8_next_289 : decode cX8_next 289 = .ok (.putfield 160, 3) := by decide +kernel
theorem dX8_next_292 : decode cX8_next 292 = .ok (.goto 28, 3) := by decide +kernel
theorem dX8_next_295 : decode cX8_next 295 = .ok (.aload_n 0, 1) := by decide +kernel
theorem dX8_next_296 : decode cX8_next 296 = .ok (.dup, 1) := by decide +kernel
theorem dX8_next_297 : decode cX8_next 297 = .ok (.getfield 147, 3) := by decide +kernel
theorem dX8_next_300 : decode cX8_next 300 = .ok (.iconst 1, 1) := by decide +kernel
theorem dX8_next_301 : decode cX8_next 301 = .ok (.iadd, 1) := by decide +kernel
theorem dX8_next_302 : decode cX8_next 302 = .ok (.putfield 147, 3) := by decide +kernel
theorem dX8_next_305 : decode cX8_next 305 = .ok (.aload_n 0, 1) := by decide +kernel
theorem dX8_next_306 : decode cX8_next 306 = .ok (.iload_n 1, 1) := by decide +kernel
theorem dX8_next_307 : decode cX8_next 307 = .ok (.bipush 59, 2) := by decide +kernel
theorem dX8_next_309 : decode cX8_next 309 = .ok (.if_icmp .ne 7, 3) := by decide +kernel
theorem dX8_next_312 : decode cX8_next 312 = .ok (.iconst 4, 1) := by decide +kernel
theorem dX8_next_313 : decode cX8_next 313 = .ok (.goto 4, 3) := by decide +kernel
theorem dX8_next_316 : decode cX8_next 316 = .ok (.iconst 1, 1) := by decide +kernel
theorem dX8_next_317 : decode cX8_next 317 = .ok (.putfield 160, 3) := by decide +kernel
theorem dX8_next_320 : decode cX8_next 320 = .ok (.iconst 1, 1) := by decide +kernel
theorem dX8_next_321 : decode cX8_next 321 = .ok (.ireturn, 1) := by decide +kernel
theorem dX8_among_0 : decode cX8_among 0 = .ok (.iconst 0, 1) := by decide +kernel
theorem dX8_among_1 : decode cX8_among 1 = .ok (.istore_n 2, 1) := by decide +kernel
theorem dX8_among_2 : decode cX8_among 2 = .ok (.lconst 0, 1) := by decide +kernel
theorem dX8_among_3 : decode cX8_among 3 = .ok (.lstore_n 3, 1) := by decide +kernel
theorem dX8_among_4 : decode cX8_among 4 = .ok (.iconst 0, 1) := by decide +kernel
theorem dX8_among_5 : decode cX8_among 5 = .ok (.istore 5, 2) := by decide +kernel
theorem dX8_among_7 : decode cX8_among 7 = .ok (.iload 5, 2) := by decide +kernel
theorem dX8_among_9 : decode cX8_among 9 = .ok (.aload_n 1, 1) := by decide +kernel
theorem dX8_among_10 : decode cX8_among 10 = .ok (.invokevirtual 185, 3) := by decide +kernel
theorem dX8_among_13 : decode cX8_among 13 = .ok (.if_icmp .ge 55, 3) := by decide +kernel
theorem dX8_among_16 : decode cX8_among 16 = .ok (.aload_n 1, 1) := by decide +kernel
theorem dX8_among_17 : decode cX8_among 17 = .ok (.iload 5, 2) := by decide +kernel
theorem dX8_among_19 : decode cX8_among 19 = .ok (.invokevirtual 191, 3) := by decide +kernel
theorem dX8_among_22 : decode cX8_among 22 = .ok (.istore 6, 2) := by decide +kernel
theorem dX8_among_24 : decode cX8_among 24 = .ok (.iload 6, 2) := by decide +kernel
theorem dX8_among_26 : decode cX8_among 26 = .ok (.bipush 32, 2) := by decide +kernel
theorem dX8_among_28 : decode cX8_among 28 = .ok (.if_icmp .eq 18, 3) := by decide +kernel
theorem dX8_among_31 : decode cX8_among 31 = .ok (.lload_n 3, 1) := by decide +kernel
theorem dX8_among_32 : decode cX8_among 32 = .ok (.iconst 5, 1) := by decide +kernel
theorem dX8_among_33 : decode cX8_among 33 = .ok (.lshl, 1) := by decide +kernel
theorem dX8_among_34 : decode cX8_among 34 = .ok (.iload 6, 2) := by decide +kernel
theorem dX8_among_36 : decode cX8_among 36 = .ok (.i2l, 1) := by decide +kernel
theorem dX8_among_37 : decode cX8_among 37 = .ok (.ldc2_w 171, 3) := by decide +kernel
theorem dX8_among_40 : decode cX8_among 40 = .ok (.lsub, 1) := by decide +kernel
theorem dX8_among_41 : decode cX8_among 41 = .ok (.lor, 1) := by decide +kernel
theorem dX8_among_42 : decode cX8_among 42 = .ok (.lstore_n 3, 1) := by decide +kernel
theorem dX8_among_43 : decode cX8_among 43 = .ok (.goto 19, 3) := by decide +kernel
theorem dX8_among_46 : decode cX8_among 46 = .ok (.lload_n 3, 1) := by decide +kernel
theorem dX8_among_47 : decode cX8_among 47 = .ok (.aload_n 0, 1) := by decide +kernel
theorem dX8_among_48 : decode cX8_among 48 = .ok (.getfield 167, 3) := by decide +kernel
theorem dX8_among_51 : decode cX8_among 51 = .ok (.lcmp, 1) := by decide +kernel
theorem dX8_among_52 : decode cX8_among 52 = .ok (.ifCond .ne 5, 3) := by decide +kernel
theorem dX8_among_55 : decode cX8_among 55 = .ok (.iload_n 2, 1) := by decide +kernel
theorem dX8_among_56 : decode cX8_among 56 = .ok (.ireturn, 1) := by decide +kernel
theorem dX8_among_57 : decode cX8_among 57 = .ok (.lconst 0, 1) := by decide +kernel
theorem dX8_among_58 : decode cX8_among 58 = .ok (.lstore_n 3, 1) := by decide +kernel
theorem dX8_among_59 : decode cX8_among 59 = .ok (.iinc 2 1, 3) := by decide +kernel
theorem dX8_among_62 : decode cX8_among 62 = .ok (.iinc 5 1, 3) := by decide +kernel
theorem dX8_among_65 : decode cX8_among 65 = .ok (.goto (-58), 3) := by decide +kernel
theorem dX8_among_68 : decode cX8_among 68 = .ok (.iconst (-1), 1) := by decide +kernel
theorem dX8_among_69 : decode cX8_among 69 = .ok (.ireturn, 1) := by decide +kernel
theorem dX8_bad_0 : decode cX8_bad 0 = .ok (.aload_n 0, 1) := by decide +kernel
theorem dX8_bad_1 : decode cX8_bad 1 = .ok (.aload_n 0, 1) := by decide +kernel
theorem dX8_bad_2 : decode cX8_bad 2 = .ok (.getfield 160, 3) := by decide +kernel
theorem dX8_bad_5 : decode cX8_bad 5 = .ok (.iconst 1, 1) := by decide +kernel
theorem dX8_bad_6 : decode cX8_bad 6 = .ok (.if_icmp .ne 7, 3) := by decide +kernel
theorem dX8_bad_9 : decode cX8_bad 9 = .ok (.iconst 1, 1) := by decide +kernel
theorem dX8_bad_10 : decode cX8_bad 10 = .ok (.goto 4, 3) := by decide +kernel
theorem dX8_bad_13 : decode cX8_bad 13 = .ok (.iload_n 1, 1) := by decide +kernel
theorem dX8_bad_14 : decode cX8_bad 14 = .ok (.putfield 195, 3) := by decide +kernel
theorem dX8_bad_17 : decode cX8_bad 17 = .ok (.aload_n 0, 1) := by decide +kernel
theorem dX8_bad_18 : decode cX8_bad 18 = .ok (.aload_n 0, 1) := by decide +kernel
theorem dX8_bad_19 : decode cX8_bad 19 = .ok (.getfield 154, 3) := by decide +kernel
theorem dX8_bad_22 : decode cX8_bad 22 = .ok (.putfield 198, 3) := by decide +kernel
theorem dX8_bad_25 : decode cX8_bad 25 = .ok (.iconst 0, 1) := by decide +kernel
theorem dX8_bad_26 : decode cX8_bad 26 = .ok (.ireturn, 1) := by decide +kernel
theorem dX8_isName_0 : decode cX8_isName 0 = .ok (.aload_n 0, 1) := by decide +kernel
theorem dX8_isName_1 : decode cX8_isName 1 = .ok (.getfield 160, 3) := by decide +kernel
theorem dX8_isName_4 : decode cX8_isName 4 = .ok (.iconst 2, 1) := by decide +kernel
theorem dX8_isName_5 : decode cX8_isName 5 = .ok (.if_icmp .ne 15, 3) := by decide +kernel
theorem dX8_isName_8 : decode cX8_isName 8 = .ok (.aload_n 0, 1) := by decide +kernel
theorem dX8_isName_9 : decode cX8_isName 9 = .ok (.getfield 157, 3) := by decide +kernel
theorem dX8_isName_12 : decode cX8_isName 12 = .ok (.iconst (-1), 1) := by decide +kernel
theorem dX8_isName_13 : decode cX8_isName 13 = .ok (.if_icmp .ne 7, 3) := by decide +kernel
theorem dX8_isName_16 : decode cX8_isName 16 = .ok (.iconst 1, 1) := by decide +kernel
theorem dX8_isName_17 : decode cX8_isName 17 = .ok (.goto 4, 3) := by decide +kernel
theorem dX8_isName_20 : decode cX8_isName 20 = .ok (.iconst 0, 1) := by decide +kernel
theorem dX8_isName_21 : decode cX8_isName 21 = .ok (.ireturn, 1) := by decide +kernel
theorem dX8_found_0 : decode cX8_found 0 = .ok (.iconst 0, 1) := by decide +kernel
theorem dX8_found_1 : decode cX8_found 1 = .ok (.istore 4, 2) := by decide +kernel
theorem dX8_found_3 : decode cX8_found 3 = .ok (.iload 4, 2) := by decide +kernel
theorem dX8_found_5 : decode cX8_found 5 = .ok (.iload_n 1, 1) := by decide +kernel
theorem dX8_found_6 : decode cX8_found 6 = .ok (.if_icmp .ge 21, 3) := by decide +kernel
theorem dX8_found_9 : decode cX8_found 9 = .ok (.aload_n 0, 1) := by decide +kernel
theorem dX8_found_10 : decode cX8_found 10 = .ok (.iload 4, 2) := by decide +kernel
theorem dX8_found_12 : decode cX8_found 12 = .ok (.laload, 1) := by decide +kernel
theorem dX8_found_13 : decode cX8_found 13 = .ok (.lload_n 2, 1) := by decide +kernel
theorem dX8_found_14 : decode cX8_found 14 = .ok (.lcmp, 1) := by decide +kernel
theorem dX8_found_15 : decode cX8_found 15 = .ok (.ifCond .ne 6, 3) := by decide +kernel
theorem dX8_found_18 : decode cX8_found 18 = .ok (.iload 4, 2) := by decide +kernel
theorem dX8_found_20 : decode cX8_found 20 = .ok (.ireturn, 1) := by decide +kernel
theorem dX8_found_21 : decode cX8_found 21 = .ok (.iinc 4 1, 3) := by decide +kernel
theorem dX8_found_24 : decode cX8_found 24 = .ok (.goto (-21), 3) := by decide +kernel
theorem dX8_found_27 : decode cX8_found 27 = .ok (.iconst (-1), 1) := by decide +kernel
theorem dX8_found_28 : decode cX8_found 28 = .ok (.ireturn, 1) := by decide +kernel
theorem dX8_isTaken_0 : decode cX8_isTaken 0 = .ok (.aload_n 0, 1) := by decide +kernel
theorem dX8_isTaken_1 : decode cX8_isTaken 1 = .ok (.getfield 39, 3) := by decide +kernel
theorem dX8_isTaken_4 : decode cX8_isTaken 4 = .ok (.aload_n 0, 1) := by decide +kernel
theorem dX8_isTaken_5 : decode cX8_isTaken 5 = .ok (.getfield 201, 3) := by decide +kernel
theorem dX8_isTaken_8 : decode cX8_isTaken 8 = .ok (.aload_n 0, 1) := by decide +kernel
theorem dX8_isTaken_9 : decode cX8_isTaken 9 = .ok (.getfield 167, 3) := by decide +kernel
theorem dX8_isTaken_12 : decode cX8_isTaken 12 = .ok (.invokestatic 204, 3) := by decide +kernel
theorem dX8_isTaken_15 : decode cX8_isTaken 15 = .ok (.iconst (-1), 1) := by decide +kernel
theorem dX8_isTaken_16 : decode cX8_isTaken 16 = .ok (.if_icmp .ne 41, 3) := by decide +kernel
theorem dX8_isTaken_19 : decode cX8_isTaken 19 = .ok (.aload_n 0, 1) := by decide +kernel
theorem dX8_isTaken_20 : decode cX8_isTaken 20 = .ok (.getfield 43, 3) := by decide +kernel
theorem dX8_isTaken_23 : decode cX8_isTaken 23 = .ok (.aload_n 0, 1) := by decide +kernel
theorem dX8_isTaken_24 : decode cX8_isTaken 24 = .ok (.getfield 208, 3) := by decide +kernel
theorem dX8_isTaken_27 : decode cX8_isTaken 27 = .ok (.aload_n 0, 1) := by decide +kernel
theorem dX8_isTaken_28 : decode cX8_isTaken 28 = .ok (.getfield 167, 3) := by decide +kernel
theorem dX8_isTaken_31 : decode cX8_isTaken 31 = .ok (.invokestatic 204, 3) := by decide +kernel
theorem dX8_isTaken_34 : decode cX8_isTaken 34 = .ok (.iconst (-1), 1) := by decide +kernel
theorem dX8_isTaken_35 : decode cX8_isTaken 35 = .ok (.if_icmp .ne 22, 3) := by decide +kernel
theorem dX8_isTaken_38 : decode cX8_isTaken 38 = .ok (.aload_n 0, 1) := by decide +kernel
theorem dX8_isTaken_39 : decode cX8_isTaken 39 = .ok (.getfield 46, 3) := by decide +kernel
theorem dX8_isTaken_42 : decode cX8_isTaken 42 = .ok (.aload_n 0, 1) := by decide +kernel
theorem dX8_isTaken_43 : decode cX8_isTaken 43 = .ok (.getfield 211, 3) := by decide +kernel
theorem dX8_isTaken_46 : decode cX8_isTaken 46 = .ok (.aload_n 0, 1) := by decide +kernel
theorem dX8_isTaken_47 : decode cX8_isTaken 47 = .ok (.getfield 167, 3) := by decide +kernel
theorem dX8_isTaken_50 : decode cX8_isTaken 50 = .ok (.invokestatic 204, 3) := by decide +kernel
theorem dX8_isTaken_53 : decode cX8_isTaken 53 = .ok (.iconst (-1), 1) := by decide +kernel
theorem dX8_isTaken_54 : decode cX8_isTaken 54 = .ok (.if_icmp .eq 7, 3) := by decide +kernel
theorem dX8_isTaken_57 : decode cX8_isTaken 57 = .ok (.iconst 1, 1) := by decide +kernel
theorem dX8_isTaken_58 : decode cX8_isTaken 58 = .ok (.goto 4, 3) := by decide +kernel
theorem dX8_isTaken_61 : decode cX8_isTaken 61 = .ok (.iconst 0, 1) := by decide +kernel
theorem dX8_isTaken_62 : decode cX8_isTaken 62 = .ok (.ireturn, 1) := by decide +kernel
theorem dX8_number_0 : decode cX8_number 0 = .ok (.aload_n 0, 1) := by decide +kernel
theorem dX8_number_1 : decode cX8_number 1 = .ok (.getfield 160, 3) := by decide +kernel
theorem dX8_number_4 : decode cX8_number 4 = .ok (.iconst 3, 1) := by decide +kernel
theorem dX8_number_5 : decode cX8_number 5 = .ok (.if_icmp .eq 9, 3) := by decide +kernel
theorem dX8_number_8 : decode cX8_number 8 = .ok (.aload_n 0, 1) := by decide +kernel
theorem dX8_number_9 : decode cX8_number 9 = .ok (.iconst 2, 1) := by decide +kernel
theorem dX8_number_10 : decode cX8_number 10 = .ok (.invokevirtual 214, 3) := by decide +kernel
theorem dX8_number_13 : decode cX8_number 13 = .ok (.ireturn, 1) := by decide +kernel
theorem dX8_number_14 : decode cX8_number 14 = .ok (.aload_n 0, 1) := by decide +kernel
theorem dX8_number_15 : decode cX8_number 15 = .ok (.getfield 182, 3) := by decide +kernel
theorem dX8_number_18 : decode cX8_number 18 = .ok (.i2l, 1) := by decide +kernel
theorem dX8_number_19 : decode cX8_number 19 = .ok (.iload_n 1, 1) := by decide +kernel
theorem dX8_number_20 : decode cX8_number 20 = .ok (.i2l, 1) := by decide +kernel
theorem dX8_number_21 : decode cX8_number 21 = .ok (.iload_n 2, 1) := by decide +kernel
theorem dX8_number_22 : decode cX8_number 22 = .ok (.i2l, 1) := by decide +kernel
theorem dX8_number_23 : decode cX8_number 23 = .ok (.invokestatic 128, 3) := by decide +kernel
theorem dX8_number_26 : decode cX8_number 26 = .ok (.ifCond .ne 9, 3) := by decide +kernel
theorem dX8_number_29 : decode cX8_number 29 = .ok (.aload_n 0, 1) := by decide +kernel
theorem dX8_number_30 : decode cX8_number 30 = .ok (.iconst 3, 1) := by decide +kernel
theorem dX8_number_31 : decode cX8_number 31 = .ok (.invokevirtual 214, 3) := by decide +kernel
theorem dX8_number_34 : decode cX8_number 34 = .ok (.ireturn, 1) := by decide +kernel
theorem dX8_number_35 : decode cX8_number 35 = .ok (.aload_n 0, 1) := by decide +kernel
theorem dX8_number_36 : decode cX8_number 36 = .ok (.aload_n 0, 1) := by decide +kernel
theorem dX8_number_37 : decode cX8_number 37 = .ok (.getfield 182, 3) := by decide +kernel
theorem dX8_number_40 : decode cX8_number 40 = .ok (.putfield 217, 3) := by decide +kernel
theorem dX8_number_43 : decode cX8_number 43 = .ok (.aload_n 0, 1) := by decide +kernel
theorem dX8_number_44 : decode cX8_number 44 = .ok (.invokevirtual 220, 3) := by decide +kernel
theorem dX8_number_47 : decode cX8_number 47 = .ok (.ireturn, 1) := by decide +kernel
theorem dX8_newName_0 : decode cX8_newName 0 = .ok (.aload_n 0, 1) := by decide +kernel
theorem dX8_newName_1 : decode cX8_newName 1 = .ok (.invokevirtual 224, 3) := by decide +kernel
theorem dX8_newName_4 : decode cX8_newName 4 = .ok (.ifCond .ne 9, 3) := by decide +kernel
theorem dX8_newName_7 : decode cX8_newName 7 = .ok (.aload_n 0, 1) := by decide +kernel
theorem dX8_newName_8 : decode cX8_newName 8 = .ok (.iconst 2, 1) := by decide +kernel
theorem dX8_newName_9 : decode cX8_newName 9 = .ok (.invokevirtual 214, 3) := by decide +kernel
theorem dX8_newName_12 : decode cX8_newName 12 = .ok (.ireturn, 1) := by decide +kernel
theorem dX8_newName_13 : decode cX8_newName 13 = .ok (.aload_n 0, 1) := by decide +kernel
theorem dX8_newName_14 : decode cX8_newName 14 = .ok (.invokevirtual 227, 3) := by decide +kernel
theorem dX8_newName_17 : decode cX8_newName 17 = .ok (.ifCond .eq 9, 3) := by decide +kernel
theorem dX8_newName_20 : decode cX8_newName 20 = .ok (.aload_n 0, 1) := by decide +kernel
theorem dX8_newName_21 : decode cX8_newName 21 = .ok (.iconst 4, 1) := by decide +kernel
theorem dX8_newName_22 : decode cX8_newName 22 = .ok (.invokevirtual 214, 3) := by decide +kernel
theorem dX8_newName_25 : decode cX8_newName 25 = .ok (.ireturn, 1) := by decide +kernel
theorem dX8_newName_26 : decode cX8_newName 26 = .ok (.aload_n 0, 1) := by decide +kernel
theorem dX8_newName_27 : decode cX8_newName 27 = .ok (.aload_n 0, 1) := by decide +kernel
theorem dX8_newName_28 : decode cX8_newName 28 = .ok (.getfield 167, 3) := by decide +kernel
theorem dX8_newName_31 : decode cX8_newName 31 = .ok (.putfield 230, 3) := by decide +kernel
theorem dX8_newName_34 : decode cX8_newName 34 = .ok (.aload_n 0, 1) := by decide +kernel
theorem dX8_newName_35 : decode cX8_newName 35 = .ok (.invokevirtual 220, 3) := by decide +kernel
theorem dX8_newName_38 : decode cX8_newName 38 = .ok (.ireturn, 1) := by decide +kernel
theorem dX8_readUnit_0 : decode cX8_readUnit 0 = .ok (.aload_n 0, 1) := by decide +kernel
theorem dX8_readUnit_1 : decode cX8_readUnit 1 = .ok (.getfield 201, 3) := by decide +kernel
theorem dX8_readUnit_4 : decode cX8_readUnit 4 = .ok (.iconst 5, 1) := by decide +kernel
theorem dX8_readUnit_5 : decode cX8_readUnit 5 = .ok (.if_icmp .ne 9, 3) := by decide +kernel
theorem dX8_readUnit_8 : decode cX8_readUnit 8 = .ok (.aload_n 0, 1) := by decide +kernel
theorem dX8_readUnit_9 : decode cX8_readUnit 9 = .ok (.iconst 2, 1) := by decide +kernel
theorem dX8_readUnit_10 : decode cX8_readUnit 10 = .ok (.invokevirtual 214, 3) := by decide +kernel
theorem dX8_readUnit_13 : decode cX8_readUnit 13 = .ok (.ireturn, 1) := by decide +kernel
theorem dX8_readUnit_14 : decode cX8_readUnit 14 = .ok (.aload_n 0, 1) := by decide +kernel
theorem dX8_readUnit_15 : decode cX8_readUnit 15 = .ok (.invokevirtual 220, 3) := by decide +kernel
theorem dX8_readUnit_18 : decode cX8_readUnit 18 = .ok (.ifCond .eq 20, 3) := by decide +kernel
theorem dX8_readUnit_21 : decode cX8_readUnit 21 = .ok (.aload_n 0, 1) := by decide +kernel
theorem dX8_readUnit_22 : decode cX8_readUnit 22 = .ok (.invokevirtual 233, 3) := by decide +kernel
theorem dX8_readUnit_25 : decode cX8_readUnit 25 = .ok (.ifCond .eq 13, 3) := by decide +kernel
theorem dX8_readUnit_28 : decode cX8_readUnit 28 = .ok (.aload_n 0, 1) := by decide +kernel
theorem dX8_readUnit_29 : decode cX8_readUnit 29 = .ok (.iconst 0, 1) := by decide +kernel
theorem dX8_readUnit_30 : decode cX8_readUnit 30 = .ok (.bipush 20, 2) := by decide +kernel
theorem dX8_readUnit_32 : decode cX8_readUnit 32 = .ok (.invokevirtual 236, 3) := by decide +kernel
theorem dX8_readUnit_35 : decode cX8_readUnit 35 = .ok (.ifCond .ne 5, 3) := by decide +kernel
theorem dX8_readUnit_38 : decode cX8_readUnit 38 = .ok (.iconst 0, 1) := by decide +kernel
theorem dX8_readUnit_39 : decode cX8_readUnit 39 = .ok (.ireturn, 1) := by decide +kernel
theorem dX8_readUnit_40 : decode cX8_readUnit 40 = .ok (.aload_n 0, 1) := by decide +kernel
theorem dX8_readUnit_41 : decode cX8_readUnit 41 = .ok (.getfield 39, 3) := by decide +kernel
theorem dX8_readUnit_44 : decode cX8_readUnit 44 = .ok (.aload_n 0, 1) := by decide +kernel
theorem dX8_readUnit_45 : decode cX8_readUnit 45 = .ok (.getfield 201, 3) := by decide +kernel
theorem dX8_readUnit_48 : decode cX8_readUnit 48 = .ok (.aload_n 0, 1) := by decide +kernel
theorem dX8_readUnit_49 : decode cX8_readUnit 49 = .ok (.getfield 230, 3) := by decide +kernel
theorem dX8_readUnit_52 : decode cX8_readUnit 52 = .ok (.lastore, 1) := by decide +kernel
theorem dX8_readUnit_53 : decode cX8_readUnit 53 = .ok (.aload_n 0, 1) := by decide +kernel
theorem dX8_readUnit_54 : decode cX8_readUnit 54 = .ok (.getfield 13, 3) := by decide +kernel
theorem dX8_readUnit_57 : decode cX8_readUnit 57 = .ok (.bipush 62, 2) := by decide +kernel
theorem dX8_readUnit_59 : decode cX8_readUnit 59 = .ok (.aload_n 0, 1) := by decide +kernel
theorem dX8_readUnit_60 : decode cX8_readUnit 60 = .ok (.getfield 201, 3) := by decide +kernel
theorem dX8_readUnit_63 : decode cX8_readUnit 63 = .ok (.iadd, 1) := by decide +kernel
theorem dX8_readUnit_64 : decode cX8_readUnit 64 = .ok (.aload_n 0, 1) := by decide +kernel
theorem dX8_readUnit_65 : decode cX8_readUnit 65 = .ok (.getfield 217, 3) := by decide +kernel
theorem dX8_readUnit_68 : decode cX8_readUnit 68 = .ok (.iastore, 1) := by decide +kernel
theorem dX8_readUnit_69 : decode cX8_readUnit 69 = .ok (.aload_n 0, 1) := by decide +kernel
theorem dX8_readUnit_70 : decode cX8_readUnit 70 = .ok (.dup, 1) := by decide +kernel
theorem dX8_readUnit_71 : decode cX8_readUnit 71 = .ok (.getfield 201, 3) := by decide +kernel
theorem dX8_readUnit_74 : decode cX8_readUnit 74 = .ok (.iconst 1, 1) := by decide +kernel
theorem dX8_readUnit_75 : decode cX8_readUnit 75 = .ok (.iadd, 1) := by decide +kernel
theorem dX8_readUnit_76 : decode cX8_readUnit 76 = .ok (.putfield 201, 3) := by decide +kernel
theorem dX8_readUnit_79 : decode cX8_readUnit 79 = .ok (.iconst 1, 1) := by decide +kernel
theorem dX8_readUnit_80 : decode cX8_readUnit 80 = .ok (.ireturn, 1) := by decide +kernel
theorem dX8_readHunter_0 : decode cX8_readHunter 0 = .ok (.aload_n 0, 1) := by decide +kernel
theorem dX8_readHunter_1 : decode cX8_readHunter 1 = .ok (.getfield 208, 3) := by decide +kernel
theorem dX8_readHunter_4 : decode cX8_readHunter 4 = .ok (.bipush 10, 2) := by decide +kernel
theorem dX8_readHunter_6 : decode cX8_readHunter 6 = .ok (.if_icmp .ne 9, 3) := by decide +kernel
theorem dX8_readHunter_9 : decode cX8_readHunter 9 = .ok (.aload_n 0, 1) := by decide +kernel
theorem dX8_readHunter_10 : decode cX8_readHunter 10 = .ok (.iconst 2, 1) := by decide +kernel
theorem dX8_readHunter_11 : decode cX8_readHunter 11 = .ok (.invokevirtual 214, 3) := by decide +kernel
theorem dX8_readHunter_14 : decode cX8_readHunter 14 = .ok (.ireturn, 1) := by decide +kernel
theorem dX8_readHunter_15 : decode cX8_readHunter 15 = .ok (.aload_n 0, 1) := by decide +kernel
theorem dX8_readHunter_16 : decode cX8_readHunter 16 = .ok (.invokevirtual 220, 3) := by decide +kernel
theorem dX8_readHunter_19 : decode cX8_readHunter 19 = .ok (.ifCond .eq 20, 3) := by decide +kernel
theorem dX8_readHunter_22 : decode cX8_readHunter 22 = .ok (.aload_n 0, 1) := by decide +kernel
theorem dX8_readHunter_23 : decode cX8_readHunter 23 = .ok (.invokevirtual 233, 3) := by decide +kernel
theorem dX8_readHunter_26 : decode cX8_readHunter 26 = .ok (.ifCond .eq 13, 3) := by decide +kernel
theorem dX8_readHunter_29 : decode cX8_readHunter 29 = .ok (.aload_n 0, 1) := by decide +kernel
theorem dX8_readHunter_30 : decode cX8_readHunter 30 = .ok (.iconst 0, 1) := by decide +kernel
theorem dX8_readHunter_31 : decode cX8_readHunter 31 = .ok (.bipush 20, 2) := by decide +kernel
theorem dX8_readHunter_33 : decode cX8_readHunter 33 = .ok (.invokevirtual 236, 3) := by decide +kernel
theorem dX8_readHunter_36 : decode cX8_readHunter 36 = .ok (.ifCond .ne 5, 3) := by decide +kernel
theorem dX8_readHunter_39 : decode cX8_readHunter 39 = .ok (.iconst 0, 1) := by decide +kernel
theorem dX8_readHunter_40 : decode cX8_readHunter 40 = .ok (.ireturn, 1) := by decide +kernel
theorem dX8_readHunter_41 : decode cX8_readHunter 41 = .ok (.aload_n 0, 1) := by decide +kernel
theorem dX8_readHunter_42 : decode cX8_readHunter 42 = .ok (.getfield 43, 3) := by decide +kernel
theorem dX8_readHunter_45 : decode cX8_readHunter 45 = .ok (.aload_n 0, 1) := by decide +kernel
theorem dX8_readHunter_46 : decode cX8_readHunter 46 = .ok (.getfield 208, 3) := by decide +kernel
theorem dX8_readHunter_49 : decode cX8_readHunter 49 = .ok (.aload_n 0, 1) := by decide +kernel
theorem dX8_readHunter_50 : decode cX8_readHunter 50 = .ok (.getfield 230, 3) := by decide +kernel
theorem dX8_readHunter_53 : decode cX8_readHunter 53 = .ok (.lastore, 1) := by decide +kernel
theorem dX8_readHunter_54 : decode cX8_readHunter 54 = .ok (.aload_n 0, 1) := by decide +kernel
theorem dX8_readHunter_55 : decode cX8_readHunter 55 = .ok (.getfield 13, 3) := by decide +kernel
theorem dX8_readHunter_58 : decode cX8_readHunter 58 = .ok (.iconst 0, 1) := by decide +kernel
theorem dX8_readHunter_59 : decode cX8_readHunter 59 = .ok (.aload_n 0, 1) := by decide +kernel
theorem dX8_readHunter_60 : decode cX8_readHunter 60 = .ok (.getfield 208, 3) := by decide +kernel
theorem dX8_readHunter_63 : decode cX8_readHunter 63 = .ok (.iadd, 1) := by decide +kernel
theorem dX8_readHunter_64 : decode cX8_readHunter 64 = .ok (.aload_n 0, 1) := by decide +kernel
theorem dX8_readHunter_65 : decode cX8_readHunter 65 = .ok (.getfield 217, 3) := by decide +kernel
theorem dX8_readHunter_68 : decode cX8_readHunter 68 = .ok (.iastore, 1) := by decide +kernel
theorem dX8_readHunter_69 : decode cX8_readHunter 69 = .ok (.aload_n 0, 1) := by decide +kernel
theorem dX8_readHunter_70 : decode cX8_readHunter 70 = .ok (.getfield 26, 3) := by decide +kernel
theorem dX8_readHunter_73 : decode cX8_readHunter 73 = .ok (.aload_n 0, 1) := by decide +kernel
theorem dX8_readHunter_74 : decode cX8_readHunter 74 = .ok (.getfield 208, 3) := by decide +kernel
theorem dX8_readHunter_77 : decode cX8_readHunter 77 = .ok (.aload_n 0, 1) := by decide +kernel
theorem dX8_readHunter_78 : decode cX8_readHunter 78 = .ok (.getfield 160, 3) := by decide +kernel
theorem dX8_readHunter_81 : decode cX8_readHunter 81 = .ok (.iconst 2, 1) := by decide +kernel
theorem dX8_readHunter_82 : decode cX8_readHunter 82 = .ok (.if_icmp .ne 15, 3) := by decide +kernel
theorem dX8_readHunter_85 : decode cX8_readHunter 85 = .ok (.aload_n 0, 1) := by decide +kernel
theorem dX8_readHunter_86 : decode cX8_readHunter 86 = .ok (.getfield 157, 3) := by decide +kernel
theorem dX8_readHunter_89 : decode cX8_readHunter 89 = .ok (.iconst 2, 1) := by decide +kernel
theorem dX8_readHunter_90 : decode cX8_readHunter 90 = .ok (.if_icmp .ne 7, 3) := by decide +kernel
theorem dX8_readHunter_93 : decode cX8_readHunter 93 = .ok (.iconst 1, 1) := by decide +kernel
theorem dX8_readHunter_94 : decode cX8_readHunter 94 = .ok (.goto 4, 3) := by decide +kernel
theorem dX8_readHunter_97 : decode cX8_readHunter 97 = .ok (.iconst 0, 1) := by decide +kernel
theorem dX8_readHunter_98 : decode cX8_readHunter 98 = .ok (.bastore, 1) := by decide +kernel
theorem dX8_readHunter_99 : decode cX8_readHunter 99 = .ok (.aload_n 0, 1) := by decide +kernel
theorem dX8_readHunter_100 : decode cX8_readHunter 100 = .ok (.getfield 26, 3) := by decide +kernel
theorem dX8_readHunter_103 : decode cX8_readHunter 103 = .ok (.aload_n 0, 1) := by decide +kernel
theorem dX8_readHunter_104 : decode cX8_readHunter 104 = .ok (.getfield 208, 3) := by decide +kernel
theorem dX8_readHunter_107 : decode cX8_readHunter 107 = .ok (.baload, 1) := by decide +kernel
theorem dX8_readHunter_108 : decode cX8_readHunter 108 = .ok (.ifCond .eq 8, 3) := by decide +kernel
theorem dX8_readHunter_111 : decode cX8_readHunter 111 = .ok (.aload_n 0, 1) := by decide +kernel
theorem dX8_readHunter_112 : decode cX8_readHunter 112 = .ok (.invokevirtual 220, 3) := by decide +kernel
theorem dX8_readHunter_115 : decode cX8_readHunter 115 = .ok (.pop, 1) := by decide +kernel
theorem dX8_readHunter_116 : decode cX8_readHunter 116 = .ok (.aload_n 0, 1) := by decide +kernel
theorem dX8_readHunter_117 : decode cX8_readHunter 117 = .ok (.dup, 1) := by decide +kernel
theorem dX8_readHunter_118 : decode cX8_readHunter 118 = .ok (.getfield 208, 3) := by decide +kernel
theorem dX8_readHunter_121 : decode cX8_readHunter 121 = .ok (.iconst 1, 1) := by decide +kernel
theorem dX8_readHunter_122 : decode cX8_readHunter 122 = .ok (.iadd, 1) := by decide +kernel
theorem dX8_readHunter_123 : decode cX8_readHunter 123 = .ok (.putfield 208, 3) := by decide +kernel
theorem dX8_readHunter_126 : decode cX8_readHunter 126 = .ok (.iconst 1, 1) := by decide +kernel
theorem dX8_readHunter_127 : decode cX8_readHunter 127 = .ok (.ireturn, 1) := by decide +kernel
theorem dX8_readParty_0 : decode cX8_readParty 0 = .ok (.aload_n 0, 1) := by decide +kernel
theorem dX8_readParty_1 : decode cX8_readParty 1 = .ok (.getfield 211, 3) := by decide +kernel
theorem dX8_readParty_4 : decode cX8_readParty 4 = .ok (.iconst 4, 1) := by decide +kernel
theorem dX8_readParty_5 : decode cX8_readParty 5 = .ok (.if_icmp .ne 9, 3) := by decide +kernel
theorem dX8_readParty_8 : decode cX8_readParty 8 = .ok (.aload_n 0, 1) := by decide +kernel
theorem dX8_readParty_9 : decode cX8_readParty 9 = .ok (.iconst 2, 1) := by decide +kernel
theorem dX8_readParty_10 : decode cX8_readParty 10 = .ok (.invokevirtual 214, 3) := by decide +kernel
theorem dX8_readParty_13 : decode cX8_readParty 13 = .ok (.ireturn, 1) := by decide +kernel
theorem dX8_readParty_14 : decode cX8_readParty 14 = .ok (.aload_n 0, 1) := by decide +kernel
theorem dX8_readParty_15 : decode cX8_readParty 15 = .ok (.invokevirtual 220, 3) := by decide +kernel
theorem dX8_readParty_18 : decode cX8_readParty 18 = .ok (.ifCond .eq 10, 3) := by decide +kernel
theorem dX8_readParty_21 : decode cX8_readParty 21 = .ok (.aload_n 0, 1) := by decide +kernel
theorem dX8_readParty_22 : decode cX8_readParty 22 = .ok (.invokevirtual 233, 3) := by decide +kernel
theorem dX8_readParty_25 : decode cX8_readParty 25 = .ok (.ifCond .ne 5, 3) := by decide +kernel
theorem dX8_readParty_28 : decode cX8_readParty 28 = .ok (.iconst 0, 1) := by decide +kernel
theorem dX8_readParty_29 : decode cX8_readParty 29 = .ok (.ireturn, 1) := by decide +kernel
theorem dX8_readParty_30 : decode cX8_readParty 30 = .ok (.aload_n 0, 1) := by decide +kernel
theorem dX8_readParty_31 : decode cX8_readParty 31 = .ok (.getfield 230, 3) := by decide +kernel
theorem dX8_readParty_34 : decode cX8_readParty 34 = .ok (.lstore_n 1, 1) := by decide +kernel
theorem dX8_readParty_35 : decode cX8_readParty 35 = .ok (.iconst 0, 1) := by decide +kernel
theorem dX8_readParty_36 : decode cX8_readParty 36 = .ok (.istore_n 3, 1) := by decide +kernel
theorem dX8_readParty_37 : decode cX8_readParty 37 = .ok (.iconst 0, 1) := by decide +kernel
theorem dX8_readParty_38 : decode cX8_readParty 38 = .ok (.istore 4, 2) := by decide +kernel
theorem dX8_readParty_40 : decode cX8_readParty 40 = .ok (.iload 4, 2) := by decide +kernel
theorem dX8_readParty_42 : decode cX8_readParty 42 = .ok (.iconst 2, 1) := by decide +kernel
theorem dX8_readParty_43 : decode cX8_readParty 43 = .ok (.if_icmp .lt 10, 3) := by decide +kernel
theorem dX8_readParty_46 : decode cX8_readParty 46 = .ok (.aload_n 0, 1) := by decide +kernel
theorem dX8_readParty_47 : decode cX8_readParty 47 = .ok (.invokevirtual 224, 3) := by decide +kernel
theorem dX8_readParty_50 : decode cX8_readParty 50 = .ok (.ifCond .eq 108, 3) := by decide +kernel
theorem dX8_readParty_53 : decode cX8_readParty 53 = .ok (.aload_n 0, 1) := by decide +kernel
theorem dX8_readParty_54 : decode cX8_readParty 54 = .ok (.invokevirtual 224, 3) := by decide +kernel
theorem dX8_readParty_57 : decode cX8_readParty 57 = .ok (.ifCond .eq 9, 3) := by decide +kernel
theorem dX8_readParty_60 : decode cX8_readParty 60 = .ok (.iload 4, 2) := by decide +kernel
theorem dX8_readParty_62 : decode cX8_readParty 62 = .ok (.iconst 4, 1) := by decide +kernel
theorem dX8_readParty_63 : decode cX8_readParty 63 = .ok (.if_icmp .ne 9, 3) := by decide +kernel
theorem dX8_readParty_66 : decode cX8_readParty 66 = .ok (.aload_n 0, 1) := by decide +kernel
theorem dX8_readParty_67 : decode cX8_readParty 67 = .ok (.iconst 2, 1) := by decide +kernel
theorem dX8_readParty_68 : decode cX8_readParty 68 = .ok (.invokevirtual 214, 3) := by decide +kernel
theorem dX8_readParty_71 : decode cX8_readParty 71 = .ok (.ireturn, 1) := by decide +kernel
theorem dX8_readParty_72 : decode cX8_readParty 72 = .ok (.aload_n 0, 1) := by decide +kernel
theorem dX8_readParty_73 : decode cX8_readParty 73 = .ok (.getfield 43, 3) := by decide +kernel
theorem dX8_readParty_76 : decode cX8_readParty 76 = .ok (.aload_n 0, 1) := by decide +kernel
theorem dX8_readParty_77 : decode cX8_readParty 77 = .ok (.getfield 208, 3) := by decide +kernel
theorem dX8_readParty_80 : decode cX8_readParty 80 = .ok (.aload_n 0, 1) := by decide +kernel
theorem dX8_readParty_81 : decode cX8_readParty 81 = .ok (.getfield 167, 3) := by decide +kernel
theorem dX8_readParty_84 : decode cX8_readParty 84 = .ok (.invokestatic 204, 3) := by decide +kernel
theorem dX8_readParty_87 : decode cX8_readParty 87 = .ok (.istore 5, 2) := by decide +kernel
theorem dX8_readParty_89 : decode cX8_readParty 89 = .ok (.iload 5, 2) := by decide +kernel
theorem dX8_readParty_91 : decode cX8_readParty 91 = .ok (.iconst (-1), 1) := by decide +kernel
theorem dX8_readParty_92 : decode cX8_readParty 92 = .ok (.if_icmp .eq 42, 3) := by decide +kernel
theorem dX8_readParty_95 : decode cX8_readParty 95 = .ok (.aload_n 0, 1) := by decide +kernel
theorem dX8_readParty_96 : decode cX8_readParty 96 = .ok (.getfield 13, 3) := by decide +kernel
theorem dX8_readParty_99 : decode cX8_readParty 99 = .ok (.bipush 10, 2) := by decide +kernel
theorem dX8_readParty_101 : decode cX8_readParty 101 = .ok (.iload 5, 2) := by decide +kernel
theorem dX8_readParty_103 : decode cX8_readParty 103 = .ok (.iadd, 1) := by decide +kernel
theorem dX8_readParty_104 : decode cX8_readParty 104 = .ok (.iaload, 1) := by decide +kernel
theorem dX8_readParty_105 : decode cX8_readParty 105 = .ok (.iconst (-1), 1) := by decide +kernel
theorem dX8_readParty_106 : decode cX8_readParty 106 = .ok (.if_icmp .ne 28, 3) := by decide +kernel
theorem dX8_readParty_109 : decode cX8_readParty 109 = .ok (.aload_n 0, 1) := by decide +kernel
theorem dX8_readParty_110 : decode cX8_readParty 110 = .ok (.getfield 13, 3) := by decide +kernel
theorem dX8_readParty_113 : decode cX8_readParty 113 = .ok (.bipush 20, 2) := by decide +kernel
theorem dX8_readParty_115 : decode cX8_readParty 115 = .ok (.iconst 3, 1) := by decide +kernel
theorem dX8_readParty_116 : decode cX8_readParty 116 = .ok (.iload 5, 2) := by decide +kernel
theorem dX8_readParty_118 : decode cX8_readParty 118 = .ok (.imul, 1) := by decide +kernel
theorem dX8_readParty_119 : decode cX8_readParty 119 = .ok (.iadd, 1) := by decide +kernel
theorem dX8_readParty_120 : decode cX8_readParty 120 = .ok (.iaload, 1) := by decide +kernel
theorem dX8_readParty_121 : decode cX8_readParty 121 = .ok (.iconst (-1), 1) := by decide +kernel
theorem dX8_readParty_122 : decode cX8_readParty 122 = .ok (.if_icmp .ne 12, 3) := by decide +kernel
theorem dX8_readParty_125 : decode cX8_readParty 125 = .ok (.iload_n 3, 1) := by decide +kernel
theorem dX8_readParty_126 : decode cX8_readParty 126 = .ok (.iload 5, 2) := by decide +kernel
theorem dX8_readParty_128 : decode cX8_readParty 128 = .ok (.invokestatic 240, 3) := by decide +kernel
theorem dX8_readParty_131 : decode cX8_readParty 131 = .ok (.ifCond .eq 9, 3) := by decide +kernel
theorem dX8_readParty_134 : decode cX8_readParty 134 = .ok (.aload_n 0, 1) := by decide +kernel
theorem dX8_readParty_135 : decode cX8_readParty 135 = .ok (.iconst 4, 1) := by decide +kernel
theorem dX8_readParty_136 : decode cX8_readParty 136 = .ok (.invokevirtual 214, 3) := by decide +kernel
theorem dX8_readParty_139 : decode cX8_readParty 139 = .ok (.ireturn, 1) := by decide +kernel
theorem dX8_readParty_140 : decode cX8_readParty 140 = .ok (.iload_n 3, 1) := by decide +kernel
theorem dX8_readParty_141 : decode cX8_readParty 141 = .ok (.iconst 1, 1) := by decide +kernel
theorem dX8_readParty_142 : decode cX8_readParty 142 = .ok (.iload 5, 2) := by decide +kernel
theorem dX8_readParty_144 : decode cX8_readParty 144 = .ok (.ishl, 1) := by decide +kernel
theorem dX8_readParty_145 : decode cX8_readParty 145 = .ok (.ior, 1) := by decide +kernel
theorem dX8_readParty_146 : decode cX8_readParty 146 = .ok (.istore_n 3, 1) := by decide +kernel
theorem dX8_readParty_147 : decode cX8_readParty 147 = .ok (.iinc 4 1, 3) := by decide +kernel
theorem dX8_readParty_150 : decode cX8_readParty 150 = .ok (.aload_n 0, 1) := by decide +kernel
theorem dX8_readParty_151 : decode cX8_readParty 151 = .ok (.invokevirtual 220, 3) := by decide +kernel
theorem dX8_readParty_154 : decode cX8_readParty 154 = .ok (.pop, 1) := by decide +kernel
theorem dX8_readParty_155 : decode cX8_readParty 155 = .ok (.goto (-115), 3) := by decide +kernel
theorem dX8_readParty_158 : decode cX8_readParty 158 = .ok (.iconst 0, 1) := by decide +kernel
theorem dX8_readParty_159 : decode cX8_readParty 159 = .ok (.istore 5, 2) := by decide +kernel
theorem dX8_readParty_161 : decode cX8_readParty 161 = .ok (.iload 5, 2) := by decide +kernel
theorem dX8_readParty_163 : decode cX8_readParty 163 = .ok (.aload_n 0, 1) := by decide +kernel
theorem dX8_readParty_164 : decode cX8_readParty 164 = .ok (.getfield 208, 3) := by decide +kernel
theorem dX8_readParty_167 : decode cX8_readParty 167 = .ok (.if_icmp .ge 32, 3) := by decide +kernel
theorem dX8_readParty_170 : decode cX8_readParty 170 = .ok (.iload_n 3, 1) := by decide +kernel
theorem dX8_readParty_171 : decode cX8_readParty 171 = .ok (.iload 5, 2) := by decide +kernel
theorem dX8_readParty_173 : decode cX8_readParty 173 = .ok (.invokestatic 240, 3) := by decide +kernel
theorem dX8_readParty_176 : decode cX8_readParty 176 = .ok (.ifCond .eq 17, 3) := by decide +kernel
theorem dX8_readParty_179 : decode cX8_readParty 179 = .ok (.aload_n 0, 1) := by decide +kernel
theorem dX8_readParty_180 : decode cX8_readParty 180 = .ok (.getfield 13, 3) := by decide +kernel
theorem dX8_readParty_183 : decode cX8_readParty 183 = .ok (.bipush 10, 2) := by decide +kernel
theorem dX8_readParty_185 : decode cX8_readParty 185 = .ok (.iload 5, 2) := by decide +kernel
theorem dX8_readParty_187 : decode cX8_readParty 187 = .ok (.iadd, 1) := by decide +kernel
theorem dX8_readParty_188 : decode cX8_readParty 188 = .ok (.aload_n 0, 1) := by decide +kernel
theorem dX8_readParty_189 : decode cX8_readParty 189 = .ok (.getfield 211, 3) := by decide +kernel
theorem dX8_readParty_192 : decode cX8_readParty 192 = .ok (.iastore, 1) := by decide +kernel
theorem dX8_readParty_193 : decode cX8_readParty 193 = .ok (.iinc 5 1, 3) := by decide +kernel
theorem dX8_readParty_196 : decode cX8_readParty 196 = .ok (.goto (-35), 3) := by decide +kernel
theorem dX8_readParty_199 : decode cX8_readParty 199 = .ok (.aload_n 0, 1) := by decide +kernel
theorem dX8_readParty_200 : decode cX8_readParty 200 = .ok (.getfield 46, 3) := by decide +kernel
theorem dX8_readParty_203 : decode cX8_readParty 203 = .ok (.aload_n 0, 1) := by decide +kernel
theorem dX8_readParty_204 : decode cX8_readParty 204 = .ok (.getfield 211, 3) := by decide +kernel
theorem dX8_readParty_207 : decode cX8_readParty 207 = .ok (.lload_n 1, 1) := by decide +kernel
theorem dX8_readParty_208 : decode cX8_readParty 208 = .ok (.lastore, 1) := by decide +kernel
theorem dX8_readParty_209 : decode cX8_readParty 209 = .ok (.aload_n 0, 1) := by decide +kernel
theorem dX8_readParty_210 : decode cX8_readParty 210 = .ok (.dup, 1) := by decide +kernel
theorem dX8_readParty_211 : decode cX8_readParty 211 = .ok (.getfield 211, 3) := by decide +kernel
theorem dX8_readParty_214 : decode cX8_readParty 214 = .ok (.iconst 1, 1) := by decide +kernel
theorem dX8_readParty_215 : decode cX8_readParty 215 = .ok (.iadd, 1) := by decide +kernel
theorem dX8_readParty_216 : decode cX8_readParty 216 = .ok (.putfield 211, 3) := by decide +kernel
theorem dX8_readParty_219 : decode cX8_readParty 219 = .ok (.iconst 1, 1) := by decide +kernel
theorem dX8_readParty_220 : decode cX8_readParty 220 = .ok (.ireturn, 1) := by decide +kernel
theorem dX8_readAsks_0 : decode cX8_readAsks 0 = .ok (.aload_n 0, 1) := by decide +kernel
theorem dX8_readAsks_1 : decode cX8_readAsks 1 = .ok (.invokevirtual 220, 3) := by decide +kernel
theorem dX8_readAsks_4 : decode cX8_readAsks 4 = .ok (.pop, 1) := by decide +kernel
theorem dX8_readAsks_5 : decode cX8_readAsks 5 = .ok (.aload_n 0, 1) := by decide +kernel
theorem dX8_readAsks_6 : decode cX8_readAsks 6 = .ok (.invokevirtual 224, 3) := by decide +kernel
theorem dX8_readAsks_9 : decode cX8_readAsks 9 = .ok (.ifCond .ne 9, 3) := by decide +kernel
theorem dX8_readAsks_12 : decode cX8_readAsks 12 = .ok (.aload_n 0, 1) := by decide +kernel
theorem dX8_readAsks_13 : decode cX8_readAsks 13 = .ok (.iconst 2, 1) := by decide +kernel
theorem dX8_readAsks_14 : decode cX8_readAsks 14 = .ok (.invokevirtual 214, 3) := by decide +kernel
theorem dX8_readAsks_17 : decode cX8_readAsks 17 = .ok (.ireturn, 1) := by decide +kernel
theorem dX8_readAsks_18 : decode cX8_readAsks 18 = .ok (.aload_n 0, 1) := by decide +kernel
theorem dX8_readAsks_19 : decode cX8_readAsks 19 = .ok (.getfield 43, 3) := by decide +kernel
theorem dX8_readAsks_22 : decode cX8_readAsks 22 = .ok (.aload_n 0, 1) := by decide +kernel
theorem dX8_readAsks_23 : decode cX8_readAsks 23 = .ok (.getfield 208, 3) := by decide +kernel
theorem dX8_readAsks_26 : decode cX8_readAsks 26 = .ok (.aload_n 0, 1) := by decide +kernel
theorem dX8_readAsks_27 : decode cX8_readAsks 27 = .ok (.getfield 167, 3) := by decide +kernel
theorem dX8_readAsks_30 : decode cX8_readAsks 30 = .ok (.invokestatic 204, 3) := by decide +kernel
theorem dX8_readAsks_33 : decode cX8_readAsks 33 = .ok (.istore_n 1, 1) := by decide +kernel
theorem dX8_readAsks_34 : decode cX8_readAsks 34 = .ok (.aload_n 0, 1) := by decide +kernel
theorem dX8_readAsks_35 : decode cX8_readAsks 35 = .ok (.getfield 46, 3) := by decide +kernel
theorem dX8_readAsks_38 : decode cX8_readAsks 38 = .ok (.aload_n 0, 1) := by decide +kernel
theorem dX8_readAsks_39 : decode cX8_readAsks 39 = .ok (.getfield 211, 3) := by decide +kernel
theorem dX8_readAsks_42 : decode cX8_readAsks 42 = .ok (.aload_n 0, 1) := by decide +kernel
theorem dX8_readAsks_43 : decode cX8_readAsks 43 = .ok (.getfield 167, 3) := by decide +kernel
theorem dX8_readAsks_46 : decode cX8_readAsks 46 = .ok (.invokestatic 204, 3) := by decide +kernel
theorem dX8_readAsks_49 : decode cX8_readAsks 49 = .ok (.istore_n 2, 1) := by decide +kernel
theorem dX8_readAsks_50 : decode cX8_readAsks 50 = .ok (.iload_n 2, 1) := by decide +kernel
theorem dX8_readAsks_51 : decode cX8_readAsks 51 = .ok (.iconst (-1), 1) := by decide +kernel
theorem dX8_readAsks_52 : decode cX8_readAsks 52 = .ok (.if_icmp .ne 27, 3) := by decide +kernel
theorem dX8_readAsks_55 : decode cX8_readAsks 55 = .ok (.iload_n 1, 1) := by decide +kernel
theorem dX8_readAsks_56 : decode cX8_readAsks 56 = .ok (.iconst (-1), 1) := by decide +kernel
theorem dX8_readAsks_57 : decode cX8_readAsks 57 = .ok (.if_icmp .eq 16, 3) := by decide +kernel
theorem dX8_readAsks_60 : decode cX8_readAsks 60 = .ok (.aload_n 0, 1) := by decide +kernel
theorem dX8_readAsks_61 : decode cX8_readAsks 61 = .ok (.getfield 13, 3) := by decide +kernel
theorem dX8_readAsks_64 : decode cX8_readAsks 64 = .ok (.bipush 10, 2) := by decide +kernel
theorem dX8_readAsks_66 : decode cX8_readAsks 66 = .ok (.iload_n 1, 1) := by decide +kernel
theorem dX8_readAsks_67 : decode cX8_readAsks 67 = .ok (.iadd, 1) := by decide +kernel
theorem dX8_readAsks_68 : decode cX8_readAsks 68 = .ok (.iaload, 1) := by decide +kernel
theorem dX8_readAsks_69 : decode cX8_readAsks 69 = .ok (.iconst (-1), 1) := by decide +kernel
theorem dX8_readAsks_70 : decode cX8_readAsks 70 = .ok (.if_icmp .eq 9, 3) := by decide +kernel
theorem dX8_readAsks_73 : decode cX8_readAsks 73 = .ok (.aload_n 0, 1) := by decide +kernel
theorem dX8_readAsks_74 : decode cX8_readAsks 74 = .ok (.iconst 4, 1) := by decide +kernel
theorem dX8_readAsks_75 : decode cX8_readAsks 75 = .ok (.invokevirtual 214, 3) := by decide +kernel
theorem dX8_readAsks_78 : decode cX8_readAsks 78 = .ok (.ireturn, 1) := by decide +kernel
theorem dX8_readAsks_79 : decode cX8_readAsks 79 = .ok (.iload_n 2, 1) := by decide +kernel
theorem dX8_readAsks_80 : decode cX8_readAsks 80 = .ok (.iconst (-1), 1) := by decide +kernel
theorem dX8_readAsks_81 : decode cX8_readAsks 81 = .ok (.if_icmp .eq 12, 3) := by decide +kernel
theorem dX8_readAsks_84 : decode cX8_readAsks 84 = .ok (.bipush 50, 2) := by decide +kernel
theorem dX8_readAsks_86 : decode cX8_readAsks 86 = .ok (.iconst 3, 1) := by decide +kernel
theorem dX8_readAsks_87 : decode cX8_readAsks 87 = .ok (.iload_n 2, 1) := by decide +kernel
theorem dX8_readAsks_88 : decode cX8_readAsks 88 = .ok (.imul, 1) := by decide +kernel
theorem dX8_readAsks_89 : decode cX8_readAsks 89 = .ok (.iadd, 1) := by decide +kernel
theorem dX8_readAsks_90 : decode cX8_readAsks 90 = .ok (.goto 9, 3) := by decide +kernel
theorem dX8_readAsks_93 : decode cX8_readAsks 93 = .ok (.bipush 20, 2) := by decide +kernel
theorem dX8_readAsks_95 : decode cX8_readAsks 95 = .ok (.iconst 3, 1) := by decide +kernel
theorem dX8_readAsks_96 : decode cX8_readAsks 96 = .ok (.iload_n 1, 1) := by decide +kernel
theorem dX8_readAsks_97 : decode cX8_readAsks 97 = .ok (.imul, 1) := by decide +kernel
theorem dX8_readAsks_98 : decode cX8_readAsks 98 = .ok (.iadd, 1) := by decide +kernel
theorem dX8_readAsks_99 : decode cX8_readAsks 99 = .ok (.istore_n 3, 1) := by decide +kernel
theorem dX8_readAsks_100 : decode cX8_readAsks 100 = .ok (.aload_n 0, 1) := by decide +kernel
theorem dX8_readAsks_101 : decode cX8_readAsks 101 = .ok (.getfield 13, 3) := by decide +kernel
theorem dX8_readAsks_104 : decode cX8_readAsks 104 = .ok (.iload_n 3, 1) := by decide +kernel
theorem dX8_readAsks_105 : decode cX8_readAsks 105 = .ok (.iaload, 1) := by decide +kernel
theorem dX8_readAsks_106 : decode cX8_readAsks 106 = .ok (.iconst (-1), 1) := by decide +kernel
theorem dX8_readAsks_107 : decode cX8_readAsks 107 = .ok (.if_icmp .eq 9, 3) := by decide +kernel
theorem dX8_readAsks_110 : decode cX8_readAsks 110 = .ok (.aload_n 0, 1) := by decide +kernel
theorem dX8_readAsks_111 : decode cX8_readAsks 111 = .ok (.iconst 4, 1) := by decide +kernel
theorem dX8_readAsks_112 : decode cX8_readAsks 112 = .ok (.invokevirtual 214, 3) := by decide +kernel
theorem dX8_readAsks_115 : decode cX8_readAsks 115 = .ok (.ireturn, 1) := by decide +kernel
theorem dX8_readAsks_116 : decode cX8_readAsks 116 = .ok (.aload_n 0, 1) := by decide +kernel
theorem dX8_readAsks_117 : decode cX8_readAsks 117 = .ok (.invokevirtual 220, 3) := by decide +kernel
theorem dX8_readAsks_120 : decode cX8_readAsks 120 = .ok (.pop, 1) := by decide +kernel
theorem dX8_readAsks_121 : decode cX8_readAsks 121 = .ok (.iconst 0, 1) := by decide +kernel
theorem dX8_readAsks_122 : decode cX8_readAsks 122 = .ok (.istore 4, 2) := by decide +kernel
theorem dX8_readAsks_124 : decode cX8_readAsks 124 = .ok (.iload 4, 2) := by decide +kernel
theorem dX8_readAsks_126 : decode cX8_readAsks 126 = .ok (.ifCond .eq 10, 3) := by decide +kernel
theorem dX8_readAsks_129 : decode cX8_readAsks 129 = .ok (.aload_n 0, 1) := by decide +kernel
theorem dX8_readAsks_130 : decode cX8_readAsks 130 = .ok (.invokevirtual 224, 3) := by decide +kernel
theorem dX8_readAsks_133 : decode cX8_readAsks 133 = .ok (.ifCond .eq 109, 3) := by decide +kernel
theorem dX8_readAsks_136 : decode cX8_readAsks 136 = .ok (.aload_n 0, 1) := by decide +kernel
theorem dX8_readAsks_137 : decode cX8_readAsks 137 = .ok (.invokevirtual 224, 3) := by decide +kernel
theorem dX8_readAsks_140 : decode cX8_readAsks 140 = .ok (.ifCond .eq 9, 3) := by decide +kernel
theorem dX8_readAsks_143 : decode cX8_readAsks 143 = .ok (.iload 4, 2) := by decide +kernel
theorem dX8_readAsks_145 : decode cX8_readAsks 145 = .ok (.iconst 3, 1) := by decide +kernel
theorem dX8_readAsks_146 : decode cX8_readAsks 146 = .ok (.if_icmp .ne 9, 3) := by decide +kernel
theorem dX8_readAsks_149 : decode cX8_readAsks 149 = .ok (.aload_n 0, 1) := by decide +kernel
theorem dX8_readAsks_150 : decode cX8_readAsks 150 = .ok (.iconst 2, 1) := by decide +kernel
theorem dX8_readAsks_151 : decode cX8_readAsks 151 = .ok (.invokevirtual 214, 3) := by decide +kernel
theorem dX8_readAsks_154 : decode cX8_readAsks 154 = .ok (.ireturn, 1) := by decide +kernel
theorem dX8_readAsks_155 : decode cX8_readAsks 155 = .ok (.aload_n 0, 1) := by decide +kernel
theorem dX8_readAsks_156 : decode cX8_readAsks 156 = .ok (.getfield 39, 3) := by decide +kernel
theorem dX8_readAsks_159 : decode cX8_readAsks 159 = .ok (.aload_n 0, 1) := by decide +kernel
theorem dX8_readAsks_160 : decode cX8_readAsks 160 = .ok (.getfield 201, 3) := by decide +kernel
theorem dX8_readAsks_163 : decode cX8_readAsks 163 = .ok (.aload_n 0, 1) := by decide +kernel
theorem dX8_readAsks_164 : decode cX8_readAsks 164 = .ok (.getfield 167, 3) := by decide +kernel
theorem dX8_readAsks_167 : decode cX8_readAsks 167 = .ok (.invokestatic 204, 3) := by decide +kernel
theorem dX8_readAsks_170 : decode cX8_readAsks 170 = .ok (.istore 5, 2) := by decide +kernel
theorem dX8_readAsks_172 : decode cX8_readAsks 172 = .ok (.iload 5, 2) := by decide +kernel
theorem dX8_readAsks_174 : decode cX8_readAsks 174 = .ok (.iconst (-1), 1) := by decide +kernel
theorem dX8_readAsks_175 : decode cX8_readAsks 175 = .ok (.if_icmp .ne 9, 3) := by decide +kernel
theorem dX8_readAsks_178 : decode cX8_readAsks 178 = .ok (.aload_n 0, 1) := by decide +kernel
theorem dX8_readAsks_179 : decode cX8_readAsks 179 = .ok (.iconst 4, 1) := by decide +kernel
theorem dX8_readAsks_180 : decode cX8_readAsks 180 = .ok (.invokevirtual 214, 3) := by decide +kernel
theorem dX8_readAsks_183 : decode cX8_readAsks 183 = .ok (.ireturn, 1) := by decide +kernel
theorem dX8_readAsks_184 : decode cX8_readAsks 184 = .ok (.iconst 0, 1) := by decide +kernel
theorem dX8_readAsks_185 : decode cX8_readAsks 185 = .ok (.istore 6, 2) := by decide +kernel
theorem dX8_readAsks_187 : decode cX8_readAsks 187 = .ok (.iload 6, 2) := by decide +kernel
theorem dX8_readAsks_189 : decode cX8_readAsks 189 = .ok (.iload 4, 2) := by decide +kernel
theorem dX8_readAsks_191 : decode cX8_readAsks 191 = .ok (.if_icmp .ge 29, 3) := by decide +kernel
theorem dX8_readAsks_194 : decode cX8_readAsks 194 = .ok (.aload_n 0, 1) := by decide +kernel
theorem dX8_readAsks_195 : decode cX8_readAsks 195 = .ok (.getfield 13, 3) := by decide +kernel
theorem dX8_readAsks_198 : decode cX8_readAsks 198 = .ok (.iload_n 3, 1) := by decide +kernel
theorem dX8_readAsks_199 : decode cX8_readAsks 199 = .ok (.iload 6, 2) := by decide +kernel
theorem dX8_readAsks_201 : decode cX8_readAsks 201 = .ok (.iadd, 1) := by decide +kernel
theorem dX8_readAsks_202 : decode cX8_readAsks 202 = .ok (.iaload, 1) := by decide +kernel
theorem dX8_readAsks_203 : decode cX8_readAsks 203 = .ok (.iload 5, 2) := by decide +kernel
theorem dX8_readAsks_205 : decode cX8_readAsks 205 = .ok (.if_icmp .ne 9, 3) := by decide +kernel
theorem dX8_readAsks_208 : decode cX8_readAsks 208 = .ok (.aload_n 0, 1) := by decide +kernel
theorem dX8_readAsks_209 : decode cX8_readAsks 209 = .ok (.iconst 4, 1) := by decide +kernel
theorem dX8_readAsks_210 : decode cX8_readAsks 210 = .ok (.invokevirtual 214, 3) := by decide +kernel
theorem dX8_readAsks_213 : decode cX8_readAsks 213 = .ok (.ireturn, 1) := by decide +kernel
theorem dX8_readAsks_214 : decode cX8_readAsks 214 = .ok (.iinc 6 1, 3) := by decide +kernel
theorem dX8_readAsks_217 : decode cX8_readAsks 217 = .ok (.goto (-30), 3) := by decide +kernel
theorem dX8_readAsks_220 : decode cX8_readAsks 220 = .ok (.aload_n 0, 1) := by decide +kernel
theorem dX8_readAsks_221 : decode cX8_readAsks 221 = .ok (.getfield 13, 3) := by decide +kernel
theorem dX8_readAsks_224 : decode cX8_readAsks 224 = .ok (.iload_n 3, 1) := by decide +kernel
theorem dX8_readAsks_225 : decode cX8_readAsks 225 = .ok (.iload 4, 2) := by decide +kernel
theorem dX8_readAsks_227 : decode cX8_readAsks 227 = .ok (.iadd, 1) := by decide +kernel
theorem dX8_readAsks_228 : decode cX8_readAsks 228 = .ok (.iload 5, 2) := by decide +kernel
theorem dX8_readAsks_230 : decode cX8_readAsks 230 = .ok (.iastore, 1) := by decide +kernel
theorem dX8_readAsks_231 : decode cX8_readAsks 231 = .ok (.iinc 4 1, 3) := by decide +kernel
theorem dX8_readAsks_234 : decode cX8_readAsks 234 = .ok (.aload_n 0, 1) := by decide +kernel
theorem dX8_readAsks_235 : decode cX8_readAsks 235 = .ok (.invokevirtual 220, 3) := by decide +kernel
theorem dX8_readAsks_238 : decode cX8_readAsks 238 = .ok (.pop, 1) := by decide +kernel
theorem dX8_readAsks_239 : decode cX8_readAsks 239 = .ok (.goto (-115), 3) := by decide +kernel
theorem dX8_readAsks_242 : decode cX8_readAsks 242 = .ok (.iconst 1, 1) := by decide +kernel
theorem dX8_readAsks_243 : decode cX8_readAsks 243 = .ok (.ireturn, 1) := by decide +kernel
theorem dX8_readOnce_0 : decode cX8_readOnce 0 = .ok (.aload_n 0, 1) := by decide +kernel
theorem dX8_readOnce_1 : decode cX8_readOnce 1 = .ok (.getfield 243, 3) := by decide +kernel
theorem dX8_readOnce_4 : decode cX8_readOnce 4 = .ok (.iload_n 1, 1) := by decide +kernel
theorem dX8_readOnce_5 : decode cX8_readOnce 5 = .ok (.invokestatic 240, 3) := by decide +kernel
theorem dX8_readOnce_8 : decode cX8_readOnce 8 = .ok (.ifCond .eq 9, 3) := by decide +kernel
theorem dX8_readOnce_11 : decode cX8_readOnce 11 = .ok (.aload_n 0, 1) := by decide +kernel
theorem dX8_readOnce_12 : decode cX8_readOnce 12 = .ok (.iconst 2, 1) := by decide +kernel
theorem dX8_readOnce_13 : decode cX8_readOnce 13 = .ok (.invokevirtual 214, 3) := by decide +kernel
theorem dX8_readOnce_16 : decode cX8_readOnce 16 = .ok (.ireturn, 1) := by decide +kernel
theorem dX8_readOnce_17 : decode cX8_readOnce 17 = .ok (.aload_n 0, 1) := by decide +kernel
theorem dX8_readOnce_18 : decode cX8_readOnce 18 = .ok (.dup, 1) := by decide +kernel
theorem dX8_readOnce_19 : decode cX8_readOnce 19 = .ok (.getfield 243, 3) := by decide +kernel
theorem dX8_readOnce_22 : decode cX8_readOnce 22 = .ok (.iconst 1, 1) := by decide +kernel
theorem dX8_readOnce_23 : decode cX8_readOnce 23 = .ok (.iload_n 1, 1) := by decide +kernel
theorem dX8_readOnce_24 : decode cX8_readOnce 24 = .ok (.ishl, 1) := by decide +kernel
theorem dX8_readOnce_25 : decode cX8_readOnce 25 = .ok (.ior, 1) := by decide +kernel
theorem dX8_readOnce_26 : decode cX8_readOnce 26 = .ok (.putfield 243, 3) := by decide +kernel
theorem dX8_readOnce_29 : decode cX8_readOnce 29 = .ok (.aload_n 0, 1) := by decide +kernel
theorem dX8_readOnce_30 : decode cX8_readOnce 30 = .ok (.invokevirtual 220, 3) := by decide +kernel
theorem dX8_readOnce_33 : decode cX8_readOnce 33 = .ok (.pop, 1) := by decide +kernel
theorem dX8_readOnce_34 : decode cX8_readOnce 34 = .ok (.iload_n 1, 1) := by decide +kernel
theorem dX8_readOnce_35 : decode cX8_readOnce 35 = .ok (.iconst 5, 1) := by decide +kernel
theorem dX8_readOnce_36 : decode cX8_readOnce 36 = .ok (.if_icmp .ne 46, 3) := by decide +kernel
theorem dX8_readOnce_39 : decode cX8_readOnce 39 = .ok (.aload_n 0, 1) := by decide +kernel
theorem dX8_readOnce_40 : decode cX8_readOnce 40 = .ok (.getfield 160, 3) := by decide +kernel
theorem dX8_readOnce_43 : decode cX8_readOnce 43 = .ok (.iconst 2, 1) := by decide +kernel
theorem dX8_readOnce_44 : decode cX8_readOnce 44 = .ok (.if_icmp .ne 12, 3) := by decide +kernel
theorem dX8_readOnce_47 : decode cX8_readOnce 47 = .ok (.aload_n 0, 1) := by decide +kernel
theorem dX8_readOnce_48 : decode cX8_readOnce 48 = .ok (.ldc 246, 2) := by decide +kernel
theorem dX8_readOnce_50 : decode cX8_readOnce 50 = .ok (.invokevirtual 175, 3) := by decide +kernel
theorem dX8_readOnce_53 : decode cX8_readOnce 53 = .ok (.goto 4, 3) := by decide +kernel
theorem dX8_readOnce_56 : decode cX8_readOnce 56 = .ok (.iconst (-1), 1) := by decide +kernel
theorem dX8_readOnce_57 : decode cX8_readOnce 57 = .ok (.istore_n 2, 1) := by decide +kernel
theorem dX8_readOnce_58 : decode cX8_readOnce 58 = .ok (.iload_n 2, 1) := by decide +kernel
theorem dX8_readOnce_59 : decode cX8_readOnce 59 = .ok (.iconst (-1), 1) := by decide +kernel
theorem dX8_readOnce_60 : decode cX8_readOnce 60 = .ok (.if_icmp .ne 9, 3) := by decide +kernel
theorem dX8_readOnce_63 : decode cX8_readOnce 63 = .ok (.aload_n 0, 1) := by decide +kernel
theorem dX8_readOnce_64 : decode cX8_readOnce 64 = .ok (.iconst 2, 1) := by decide +kernel
theorem dX8_readOnce_65 : decode cX8_readOnce 65 = .ok (.invokevirtual 214, 3) := by decide +kernel
theorem dX8_readOnce_68 : decode cX8_readOnce 68 = .ok (.ireturn, 1) := by decide +kernel
theorem dX8_readOnce_69 : decode cX8_readOnce 69 = .ok (.aload_n 0, 1) := by decide +kernel
theorem dX8_readOnce_70 : decode cX8_readOnce 70 = .ok (.getfield 13, 3) := by decide +kernel
theorem dX8_readOnce_73 : decode cX8_readOnce 73 = .ok (.bipush 67, 2) := by decide +kernel
theorem dX8_readOnce_75 : decode cX8_readOnce 75 = .ok (.iload_n 2, 1) := by decide +kernel
theorem dX8_readOnce_76 : decode cX8_readOnce 76 = .ok (.iastore, 1) := by decide +kernel
theorem dX8_readOnce_77 : decode cX8_readOnce 77 = .ok (.aload_n 0, 1) := by decide +kernel
theorem dX8_readOnce_78 : decode cX8_readOnce 78 = .ok (.invokevirtual 220, 3) := by decide +kernel
theorem dX8_readOnce_81 : decode cX8_readOnce 81 = .ok (.ireturn, 1) := by decide +kernel
theorem dX8_readOnce_82 : decode cX8_readOnce 82 = .ok (.aload_n 0, 1) := by decide +kernel
theorem dX8_readOnce_83 : decode cX8_readOnce 83 = .ok (.iconst 0, 1) := by decide +kernel
theorem dX8_readOnce_84 : decode cX8_readOnce 84 = .ok (.bipush 100, 2) := by decide +kernel
theorem dX8_readOnce_86 : decode cX8_readOnce 86 = .ok (.invokevirtual 236, 3) := by decide +kernel
theorem dX8_readOnce_89 : decode cX8_readOnce 89 = .ok (.ifCond .ne 5, 3) := by decide +kernel
theorem dX8_readOnce_92 : decode cX8_readOnce 92 = .ok (.iconst 0, 1) := by decide +kernel
theorem dX8_readOnce_93 : decode cX8_readOnce 93 = .ok (.ireturn, 1) := by decide +kernel
theorem dX8_readOnce_94 : decode cX8_readOnce 94 = .ok (.aload_n 0, 1) := by decide +kernel
theorem dX8_readOnce_95 : decode cX8_readOnce 95 = .ok (.getfield 13, 3) := by decide +kernel
theorem dX8_readOnce_98 : decode cX8_readOnce 98 = .ok (.iload_n 1, 1) := by decide +kernel
theorem dX8_readOnce_99 : decode cX8_readOnce 99 = .ok (.bipush 6, 2) := by decide +kernel
theorem dX8_readOnce_101 : decode cX8_readOnce 101 = .ok (.if_icmp .ne 8, 3) := by decide +kernel
theorem dX8_readOnce_104 : decode cX8_readOnce 104 = .ok (.bipush 68, 2) := by decide +kernel
theorem dX8_readOnce_106 : decode cX8_readOnce 106 = .ok (.goto 5, 3) := by decide +kernel
theorem dX8_readOnce_109 : decode cX8_readOnce 109 = .ok (.bipush 69, 2) := by decide +kernel
theorem dX8_readOnce_111 : decode cX8_readOnce 111 = .ok (.aload_n 0, 1) := by decide +kernel
theorem dX8_readOnce_112 : decode cX8_readOnce 112 = .ok (.getfield 217, 3) := by decide +kernel
theorem dX8_readOnce_115 : decode cX8_readOnce 115 = .ok (.iastore, 1) := by decide +kernel
theorem dX8_readOnce_116 : decode cX8_readOnce 116 = .ok (.iconst 1, 1) := by decide +kernel
theorem dX8_readOnce_117 : decode cX8_readOnce 117 = .ok (.ireturn, 1) := by decide +kernel
theorem dX8_readLine_0 : decode cX8_readLine 0 = .ok (.aload_n 0, 1) := by decide +kernel
theorem dX8_readLine_1 : decode cX8_readLine 1 = .ok (.getfield 160, 3) := by decide +kernel
theorem dX8_readLine_4 : decode cX8_readLine 4 = .ok (.iconst 2, 1) := by decide +kernel
theorem dX8_readLine_5 : decode cX8_readLine 5 = .ok (.if_icmp .ne 10, 3) := by decide +kernel
theorem dX8_readLine_8 : decode cX8_readLine 8 = .ok (.aload_n 0, 1) := by decide +kernel
theorem dX8_readLine_9 : decode cX8_readLine 9 = .ok (.getfield 157, 3) := by decide +kernel
theorem dX8_readLine_12 : decode cX8_readLine 12 = .ok (.goto 4, 3) := by decide +kernel
theorem dX8_readLine_15 : decode cX8_readLine 15 = .ok (.iconst (-1), 1) := by decide +kernel
theorem dX8_readLine_16 : decode cX8_readLine 16 = .ok (.tableswitch 92 0 7 #[48, 56, 92, 64, 72, 80, 80, 80], 48) := by decide +kernel
theorem dX8_readLine_64 : decode cX8_readLine 64 = .ok (.aload_n 0, 1) := by decide +kernel
theorem dX8_readLine_65 : decode cX8_readLine 65 = .ok (.invokevirtual 248, 3) := by decide +kernel
theorem dX8_readLine_68 : decode cX8_readLine 68 = .ok (.istore_n 1, 1) := by decide +kernel
theorem dX8_readLine_69 : decode cX8_readLine 69 = .ok (.goto 45, 3) := by decide +kernel
theorem dX8_readLine_72 : decode cX8_readLine 72 = .ok (.aload_n 0, 1) := by decide +kernel
theorem dX8_readLine_73 : decode cX8_readLine 73 = .ok (.invokevirtual 251, 3) := by decide +kernel
theorem dX8_readLine_76 : decode cX8_readLine 76 = .ok (.istore_n 1, 1) := by decide +kernel
theorem dX8_readLine_77 : decode cX8_readLine 77 = .ok (.goto 37, 3) := by decide +kernel
theorem dX8_readLine_80 : decode cX8_readLine 80 = .ok (.aload_n 0, 1) := by decide +kernel
theorem dX8_readLine_81 : decode cX8_readLine 81 = .ok (.invokevirtual 254, 3) := by decide +kernel
theorem dX8_readLine_84 : decode cX8_readLine 84 = .ok (.istore_n 1, 1) := by decide +kernel
theorem dX8_readLine_85 : decode cX8_readLine 85 = .ok (.goto 29, 3) := by decide +kernel
theorem dX8_readLine_88 : decode cX8_readLine 88 = .ok (.aload_n 0, 1) := by decide +kernel
theorem dX8_readLine_89 : decode cX8_readLine 89 = .ok (.invokevirtual 257, 3) := by decide +kernel
theorem dX8_readLine_92 : decode cX8_readLine 92 = .ok (.istore_n 1, 1) := by decide +kernel
theorem dX8_readLine_93 : decode cX8_readLine 93 = .ok (.goto 21, 3) := by decide +kernel
theorem dX8_readLine_96 : decode cX8_readLine 96 = .ok (.aload_n 0, 1) := by decide +kernel
theorem dX8_readLine_97 : decode cX8_readLine 97 = .ok (.aload_n 0, 1) := by decide +kernel
theorem dX8_readLine_98 : decode cX8_readLine 98 = .ok (.getfield 157, 3) := by decide +kernel
theorem dX8_readLine_101 : decode cX8_readLine 101 = .ok (.invokevirtual 260, 3) := by decide +kernel
theorem dX8_readLine_104 : decode cX8_readLine 104 = .ok (.istore_n 1, 1) := by decide +kernel
theorem dX8_readLine_105 : decode cX8_readLine 105 = .ok (.goto 9, 3) := by decide +kernel
theorem dX8_readLine_108 : decode cX8_readLine 108 = .ok (.aload_n 0, 1) := by decide +kernel
theorem dX8_readLine_109 : decode cX8_readLine 109 = .ok (.iconst 2, 1) := by decide +kernel
theorem dX8_readLine_110 : decode cX8_readLine 110 = .ok (.invokevirtual 214, 3) := by decide +kernel
theorem dX8_readLine_113 : decode cX8_readLine 113 = .ok (.ireturn, 1) := by decide +kernel
theorem dX8_readLine_114 : decode cX8_readLine 114 = .ok (.iload_n 1, 1) := by decide +kernel
theorem dX8_readLine_115 : decode cX8_readLine 115 = .ok (.ifCond .ne 5, 3) := by decide +kernel
theorem dX8_readLine_118 : decode cX8_readLine 118 = .ok (.iconst 0, 1) := by decide +kernel
theorem dX8_readLine_119 : decode cX8_readLine 119 = .ok (.ireturn, 1) := by decide +kernel
theorem dX8_readLine_120 : decode cX8_readLine 120 = .ok (.aload_n 0, 1) := by decide +kernel
theorem dX8_readLine_121 : decode cX8_readLine 121 = .ok (.getfield 160, 3) := by decide +kernel
theorem dX8_readLine_124 : decode cX8_readLine 124 = .ok (.iconst 4, 1) := by decide +kernel
theorem dX8_readLine_125 : decode cX8_readLine 125 = .ok (.if_icmp .ne 10, 3) := by decide +kernel
theorem dX8_readLine_128 : decode cX8_readLine 128 = .ok (.aload_n 0, 1) := by decide +kernel
theorem dX8_readLine_129 : decode cX8_readLine 129 = .ok (.invokevirtual 220, 3) := by decide +kernel
theorem dX8_readLine_132 : decode cX8_readLine 132 = .ok (.goto 8, 3) := by decide +kernel
theorem dX8_readLine_135 : decode cX8_readLine 135 = .ok (.aload_n 0, 1) := by decide +kernel
theorem dX8_readLine_136 : decode cX8_readLine 136 = .ok (.iconst 2, 1) := by decide +kernel
theorem dX8_readLine_137 : decode cX8_readLine 137 = .ok (.invokevirtual 214, 3) := by decide +kernel
theorem dX8_readLine_140 : decode cX8_readLine 140 = .ok (.ireturn, 1) := by decide +kernel
theorem dX8_load_0 : decode cX8_load 0 = .ok (.iload_n 1, 1) := by decide +kernel
theorem dX8_load_1 : decode cX8_load 1 = .ok (.i2l, 1) := by decide +kernel
theorem dX8_load_2 : decode cX8_load 2 = .ok (.lconst 0, 1) := by decide +kernel
theorem dX8_load_3 : decode cX8_load 3 = .ok (.aload_n 0, 1) := by decide +kernel
theorem dX8_load_4 : decode cX8_load 4 = .ok (.getfield 137, 3) := by decide +kernel
theorem dX8_load_7 : decode cX8_load 7 = .ok (.i2l, 1) := by decide +kernel
theorem dX8_load_8 : decode cX8_load 8 = .ok (.invokestatic 128, 3) := by decide +kernel
theorem dX8_load_11 : decode cX8_load 11 = .ok (.ifCond .ne 9, 3) := by decide +kernel
theorem dX8_load_14 : decode cX8_load 14 = .ok (.aload_n 0, 1) := by decide +kernel
theorem dX8_load_15 : decode cX8_load 15 = .ok (.iconst 1, 1) := by decide +kernel
theorem dX8_load_16 : decode cX8_load 16 = .ok (.invokevirtual 263, 3) := by decide +kernel
theorem dX8_load_19 : decode cX8_load 19 = .ok (.ireturn, 1) := by decide +kernel
theorem dX8_load_20 : decode cX8_load 20 = .ok (.aload_n 0, 1) := by decide +kernel
theorem dX8_load_21 : decode cX8_load 21 = .ok (.iload_n 1, 1) := by decide +kernel
theorem dX8_load_22 : decode cX8_load 22 = .ok (.putfield 144, 3) := by decide +kernel
theorem dX8_load_25 : decode cX8_load 25 = .ok (.aload_n 0, 1) := by decide +kernel
theorem dX8_load_26 : decode cX8_load 26 = .ok (.iconst 0, 1) := by decide +kernel
theorem dX8_load_27 : decode cX8_load 27 = .ok (.putfield 137, 3) := by decide +kernel
theorem dX8_load_30 : decode cX8_load 30 = .ok (.aload_n 0, 1) := by decide +kernel
theorem dX8_load_31 : decode cX8_load 31 = .ok (.iconst 0, 1) := by decide +kernel
theorem dX8_load_32 : decode cX8_load 32 = .ok (.putfield 147, 3) := by decide +kernel
theorem dX8_load_35 : decode cX8_load 35 = .ok (.aload_n 0, 1) := by decide +kernel
theorem dX8_load_36 : decode cX8_load 36 = .ok (.iconst 0, 1) := by decide +kernel
theorem dX8_load_37 : decode cX8_load 37 = .ok (.putfield 195, 3) := by decide +kernel
theorem dX8_load_40 : decode cX8_load 40 = .ok (.aload_n 0, 1) := by decide +kernel
theorem dX8_load_41 : decode cX8_load 41 = .ok (.iconst (-1), 1) := by decide +kernel
theorem dX8_load_42 : decode cX8_load 42 = .ok (.putfield 198, 3) := by decide +kernel
theorem dX8_load_45 : decode cX8_load 45 = .ok (.aload_n 0, 1) := by decide +kernel
theorem dX8_load_46 : decode cX8_load 46 = .ok (.iconst 0, 1) := by decide +kernel
theorem dX8_load_47 : decode cX8_load 47 = .ok (.putfield 243, 3) := by decide +kernel
theorem dX8_load_50 : decode cX8_load 50 = .ok (.aload_n 0, 1) := by decide +kernel
theorem dX8_load_51 : decode cX8_load 51 = .ok (.iconst 0, 1) := by decide +kernel
theorem dX8_load_52 : decode cX8_load 52 = .ok (.putfield 201, 3) := by decide +kernel
theorem dX8_load_55 : decode cX8_load 55 = .ok (.aload_n 0, 1) := by decide +kernel
theorem dX8_load_56 : decode cX8_load 56 = .ok (.iconst 0, 1) := by decide +kernel
theorem dX8_load_57 : decode cX8_load 57 = .ok (.putfield 208, 3) := by decide +kernel
theorem dX8_load_60 : decode cX8_load 60 = .ok (.aload_n 0, 1) := by decide +kernel
theorem dX8_load_61 : decode cX8_load 61 = .ok (.iconst 0, 1) := by decide +kernel
theorem dX8_load_62 : decode cX8_load 62 = .ok (.putfield 211, 3) := by decide +kernel
theorem dX8_load_65 : decode cX8_load 65 = .ok (.aload_n 0, 1) := by decide +kernel
theorem dX8_load_66 : decode cX8_load 66 = .ok (.getfield 13, 3) := by decide +kernel
theorem dX8_load_69 : decode cX8_load 69 = .ok (.invokestatic 115, 3) := by decide +kernel
theorem dX8_load_72 : decode cX8_load 72 = .ok (.aload_n 0, 1) := by decide +kernel
theorem dX8_load_73 : decode cX8_load 73 = .ok (.invokevirtual 220, 3) := by decide +kernel
theorem dX8_load_76 : decode cX8_load 76 = .ok (.pop, 1) := by decide +kernel
theorem dX8_load_77 : decode cX8_load 77 = .ok (.iconst 1, 1) := by decide +kernel
theorem dX8_load_78 : decode cX8_load 78 = .ok (.istore_n 2, 1) := by decide +kernel
theorem dX8_load_79 : decode cX8_load 79 = .ok (.iload_n 2, 1) := by decide +kernel
theorem dX8_load_80 : decode cX8_load 80 = .ok (.ifCond .eq 18, 3) := by decide +kernel
theorem dX8_load_83 : decode cX8_load 83 = .ok (.aload_n 0, 1) := by decide +kernel
theorem dX8_load_84 : decode cX8_load 84 = .ok (.getfield 160, 3) := by decide +kernel
theorem dX8_load_87 : decode cX8_load 87 = .ok (.ifCond .eq 11, 3) := by decide +kernel
theorem dX8_load_90 : decode cX8_load 90 = .ok (.aload_n 0, 1) := by decide +kernel
theorem dX8_load_91 : decode cX8_load 91 = .ok (.invokevirtual 266, 3) := by decide +kernel
theorem dX8_load_94 : decode cX8_load 94 = .ok (.istore_n 2, 1) := by decide +kernel
theorem dX8_load_95 : decode cX8_load 95 = .ok (.goto (-16), 3) := by decide +kernel
theorem dX8_load_98 : decode cX8_load 98 = .ok (.aload_n 0, 1) := by decide +kernel
theorem dX8_load_99 : decode cX8_load 99 = .ok (.aload_n 0, 1) := by decide +kernel
theorem dX8_load_100 : decode cX8_load 100 = .ok (.getfield 195, 3) := by decide +kernel
theorem dX8_load_103 : decode cX8_load 103 = .ok (.putfield 32, 3) := by decide +kernel
theorem dX8_load_106 : decode cX8_load 106 = .ok (.aload_n 0, 1) := by decide +kernel
theorem dX8_load_107 : decode cX8_load 107 = .ok (.aload_n 0, 1) := by decide +kernel
theorem dX8_load_108 : decode cX8_load 108 = .ok (.getfield 198, 3) := by decide +kernel
theorem dX8_load_111 : decode cX8_load 111 = .ok (.putfield 36, 3) := by decide +kernel
theorem dX8_load_114 : decode cX8_load 114 = .ok (.iload_n 2, 1) := by decide +kernel
theorem dX8_load_115 : decode cX8_load 115 = .ok (.ifCond .ne 10, 3) := by decide +kernel
theorem dX8_load_118 : decode cX8_load 118 = .ok (.aload_n 0, 1) := by decide +kernel
theorem dX8_load_119 : decode cX8_load 119 = .ok (.bipush 9, 2) := by decide +kernel
theorem dX8_load_121 : decode cX8_load 121 = .ok (.invokevirtual 263, 3) := by decide +kernel
theorem dX8_load_124 : decode cX8_load 124 = .ok (.ireturn, 1) := by decide +kernel
theorem dX8_load_125 : decode cX8_load 125 = .ok (.aload_n 0, 1) := by decide +kernel
theorem dX8_load_126 : decode cX8_load 126 = .ok (.getfield 13, 3) := by decide +kernel
theorem dX8_load_129 : decode cX8_load 129 = .ok (.bipush 70, 2) := by decide +kernel
theorem dX8_load_131 : decode cX8_load 131 = .ok (.aload_n 0, 1) := by decide +kernel
theorem dX8_load_132 : decode cX8_load 132 = .ok (.getfield 211, 3) := by decide +kernel
theorem dX8_load_135 : decode cX8_load 135 = .ok (.iastore, 1) := by decide +kernel
theorem dX8_load_136 : decode cX8_load 136 = .ok (.iconst 0, 1) := by decide +kernel
theorem dX8_load_137 : decode cX8_load 137 = .ok (.istore_n 3, 1) := by decide +kernel
theorem dX8_load_138 : decode cX8_load 138 = .ok (.iload_n 3, 1) := by decide +kernel
theorem dX8_load_139 : decode cX8_load 139 = .ok (.bipush 82, 2) := by decide +kernel
theorem dX8_load_141 : decode cX8_load 141 = .ok (.if_icmp .ge 21, 3) := by decide +kernel
theorem dX8_load_144 : decode cX8_load 144 = .ok (.aload_n 0, 1) := by decide +kernel
theorem dX8_load_145 : decode cX8_load 145 = .ok (.getfield 7, 3) := by decide +kernel
theorem dX8_load_148 : decode cX8_load 148 = .ok (.iload_n 3, 1) := by decide +kernel
theorem dX8_load_149 : decode cX8_load 149 = .ok (.aload_n 0, 1) := by decide +kernel
theorem dX8_load_150 : decode cX8_load 150 = .ok (.getfield 13, 3) := by decide +kernel
theorem dX8_load_153 : decode cX8_load 153 = .ok (.iload_n 3, 1) := by decide +kernel
theorem dX8_load_154 : decode cX8_load 154 = .ok (.iaload, 1) := by decide +kernel
theorem dX8_load_155 : decode cX8_load 155 = .ok (.iastore, 1) := by decide +kernel
theorem dX8_load_156 : decode cX8_load 156 = .ok (.iinc 3 1, 3) := by decide +kernel
theorem dX8_load_159 : decode cX8_load 159 = .ok (.goto (-21), 3) := by decide +kernel
theorem dX8_load_162 : decode cX8_load 162 = .ok (.iconst 0, 1) := by decide +kernel
theorem dX8_load_163 : decode cX8_load 163 = .ok (.istore_n 3, 1) := by decide +kernel
theorem dX8_load_164 : decode cX8_load 164 = .ok (.iload_n 3, 1) := by decide +kernel
theorem dX8_load_165 : decode cX8_load 165 = .ok (.bipush 10, 2) := by decide +kernel
theorem dX8_load_167 : decode cX8_load 167 = .ok (.if_icmp .ge 37, 3) := by decide +kernel
theorem dX8_load_170 : decode cX8_load 170 = .ok (.aload_n 0, 1) := by decide +kernel
theorem dX8_load_171 : decode cX8_load 171 = .ok (.getfield 22, 3) := by decide +kernel
theorem dX8_load_174 : decode cX8_load 174 = .ok (.iload_n 3, 1) := by decide +kernel
theorem dX8_load_175 : decode cX8_load 175 = .ok (.iload_n 3, 1) := by decide +kernel
theorem dX8_load_176 : decode cX8_load 176 = .ok (.aload_n 0, 1) := by decide +kernel
theorem dX8_load_177 : decode cX8_load 177 = .ok (.getfield 208, 3) := by decide +kernel
theorem dX8_load_180 : decode cX8_load 180 = .ok (.if_icmp .ge 16, 3) := by decide +kernel
theorem dX8_load_183 : decode cX8_load 183 = .ok (.aload_n 0, 1) := by decide +kernel
theorem dX8_load_184 : decode cX8_load 184 = .ok (.getfield 26, 3) := by decide +kernel
theorem dX8_load_187 : decode cX8_load 187 = .ok (.iload_n 3, 1) := by decide +kernel
theorem dX8_load_188 : decode cX8_load 188 = .ok (.baload, 1) := by decide +kernel
theorem dX8_load_189 : decode cX8_load 189 = .ok (.ifCond .eq 7, 3) := by decide +kernel
theorem dX8_load_192 : decode cX8_load 192 = .ok (.iconst 1, 1) := by decide +kernel
theorem dX8_load_193 : decode cX8_load 193 = .ok (.goto 4, 3) := by decide +kernel
theorem dX8_load_196 : decode cX8_load 196 = .ok (.iconst 0, 1) := by decide +kernel
theorem dX8_load_197 : decode cX8_load 197 = .ok (.bastore, 1) := by decide +kernel
theorem dX8_load_198 : decode cX8_load 198 = .ok (.iinc 3 1, 3) := by decide +kernel
theorem dX8_load_201 : decode cX8_load 201 = .ok (.goto (-37), 3) := by decide +kernel
theorem dX8_load_204 : decode cX8_load 204 = .ok (.aload_n 0, 1) := by decide +kernel
theorem dX8_load_205 : decode cX8_load 205 = .ok (.aload_n 0, 1) := by decide +kernel
theorem dX8_load_206 : decode cX8_load 206 = .ok (.getfield 201, 3) := by decide +kernel
theorem dX8_load_209 : decode cX8_load 209 = .ok (.putfield 125, 3) := by decide +kernel
theorem dX8_load_212 : decode cX8_load 212 = .ok (.aload_n 0, 1) := by decide +kernel
theorem dX8_load_213 : decode cX8_load 213 = .ok (.aload_n 0, 1) := by decide +kernel
theorem dX8_load_214 : decode cX8_load 214 = .ok (.getfield 208, 3) := by decide +kernel
theorem dX8_load_217 : decode cX8_load 217 = .ok (.putfield 132, 3) := by decide +kernel
theorem dX8_load_220 : decode cX8_load 220 = .ok (.aload_n 0, 1) := by decide +kernel
theorem dX8_load_221 : decode cX8_load 221 = .ok (.iconst 0, 1) := by decide +kernel
theorem dX8_load_222 : decode cX8_load 222 = .ok (.putfield 269, 3) := by decide +kernel
theorem dX8_load_225 : decode cX8_load 225 = .ok (.aload_n 0, 1) := by decide +kernel
theorem dX8_load_226 : decode cX8_load 226 = .ok (.aload_n 0, 1) := by decide +kernel
theorem dX8_load_227 : decode cX8_load 227 = .ok (.getfield 132, 3) := by decide +kernel
theorem dX8_load_230 : decode cX8_load 230 = .ok (.invokevirtual 272, 3) := by decide +kernel
theorem dX8_load_233 : decode cX8_load 233 = .ok (.ireturn, 1) := by decide +kernel
theorem dX8_fault_0 : decode cX8_fault 0 = .ok (.aload_n 0, 1) := by decide +kernel
theorem dX8_fault_1 : decode cX8_fault 1 = .ok (.iconst 0, 1) := by decide +kernel
theorem dX8_fault_2 : decode cX8_fault 2 = .ok (.putfield 119, 3) := by decide +kernel
theorem dX8_fault_5 : decode cX8_fault 5 = .ok (.iload_n 1, 1) := by decide +kernel
theorem dX8_fault_6 : decode cX8_fault 6 = .ok (.ifCond .ne 10, 3) := by decide +kernel
theorem dX8_fault_9 : decode cX8_fault 9 = .ok (.aload_n 0, 1) := by decide +kernel
theorem dX8_fault_10 : decode cX8_fault 10 = .ok (.getfield 32, 3) := by decide +kernel
theorem dX8_fault_13 : decode cX8_fault 13 = .ok (.goto 16, 3) := by decide +kernel
theorem dX8_fault_16 : decode cX8_fault 16 = .ok (.iload_n 1, 1) := by decide +kernel
theorem dX8_fault_17 : decode cX8_fault 17 = .ok (.iconst 1, 1) := by decide +kernel
theorem dX8_fault_18 : decode cX8_fault 18 = .ok (.if_icmp .ne 10, 3) := by decide +kernel
theorem dX8_fault_21 : decode cX8_fault 21 = .ok (.aload_n 0, 1) := by decide +kernel
theorem dX8_fault_22 : decode cX8_fault 22 = .ok (.getfield 36, 3) := by decide +kernel
theorem dX8_fault_25 : decode cX8_fault 25 = .ok (.goto 4, 3) := by decide +kernel
theorem dX8_fault_28 : decode cX8_fault 28 = .ok (.iconst (-1), 1) := by decide +kernel
theorem dX8_fault_29 : decode cX8_fault 29 = .ok (.ireturn, 1) := by decide +kernel
theorem dX8_laysApplicants_0 : decode cX8_laysApplicants 0 = .ok (.aload_n 0, 1) := by decide +kernel
theorem dX8_laysApplicants_1 : decode cX8_laysApplicants 1 = .ok (.iconst 0, 1) := by decide +kernel
theorem dX8_laysApplicants_2 : decode cX8_laysApplicants 2 = .ok (.putfield 275, 3) := by decide +kernel
theorem dX8_laysApplicants_5 : decode cX8_laysApplicants 5 = .ok (.iconst 0, 1) := by decide +kernel
theorem dX8_laysApplicants_6 : decode cX8_laysApplicants 6 = .ok (.istore_n 1, 1) := by decide +kernel
theorem dX8_laysApplicants_7 : decode cX8_laysApplicants 7 = .ok (.iload_n 1, 1) := by decide +kernel
theorem dX8_laysApplicants_8 : decode cX8_laysApplicants 8 = .ok (.aload_n 0, 1) := by decide +kernel
theorem dX8_laysApplicants_9 : decode cX8_laysApplicants 9 = .ok (.getfield 132, 3) := by decide +kernel
theorem dX8_laysApplicants_12 : decode cX8_laysApplicants 12 = .ok (.if_icmp .ge 72, 3) := by decide +kernel
theorem dX8_laysApplicants_15 : decode cX8_laysApplicants 15 = .ok (.aload_n 0, 1) := by decide +kernel
theorem dX8_laysApplicants_16 : decode cX8_laysApplicants 16 = .ok (.getfield 7, 3) := by decide +kernel
theorem dX8_laysApplicants_19 : decode cX8_laysApplicants 19 = .ok (.bipush 10, 2) := by decide +kernel
theorem dX8_laysApplicants_21 : decode cX8_laysApplicants 21 = .ok (.iload_n 1, 1) := by decide +kernel
theorem dX8_laysApplicants_22 : decode cX8_laysApplicants 22 = .ok (.iadd, 1) := by decide +kernel
theorem dX8_laysApplicants_23 : decode cX8_laysApplicants 23 = .ok (.iaload, 1) := by decide +kernel
theorem dX8_laysApplicants_24 : decode cX8_laysApplicants 24 = .ok (.iconst (-1), 1) := by decide +kernel
theorem dX8_laysApplicants_25 : decode cX8_laysApplicants 25 = .ok (.if_icmp .eq 6, 3) := by decide +kernel
theorem dX8_laysApplicants_28 : decode cX8_laysApplicants 28 = .ok (.goto 50, 3) := by decide +kernel
theorem dX8_laysApplicants_31 : decode cX8_laysApplicants 31 = .ok (.aload_n 0, 1) := by decide +kernel
theorem dX8_laysApplicants_32 : decode cX8_laysApplicants 32 = .ok (.getfield 49, 3) := by decide +kernel
theorem dX8_laysApplicants_35 : decode cX8_laysApplicants 35 = .ok (.aload_n 0, 1) := by decide +kernel
theorem dX8_laysApplicants_36 : decode cX8_laysApplicants 36 = .ok (.getfield 275, 3) := by decide +kernel
theorem dX8_laysApplicants_39 : decode cX8_laysApplicants 39 = .ok (.iconst 1, 1) := by decide +kernel
theorem dX8_laysApplicants_40 : decode cX8_laysApplicants 40 = .ok (.iload_n 1, 1) := by decide +kernel
theorem dX8_laysApplicants_41 : decode cX8_laysApplicants 41 = .ok (.ishl, 1) := by decide +kernel
theorem dX8_laysApplicants_42 : decode cX8_laysApplicants 42 = .ok (.iastore, 1) := by decide +kernel
theorem dX8_laysApplicants_43 : decode cX8_laysApplicants 43 = .ok (.aload_n 0, 1) := by decide +kernel
theorem dX8_laysApplicants_44 : decode cX8_laysApplicants 44 = .ok (.getfield 52, 3) := by decide +kernel
theorem dX8_laysApplicants_47 : decode cX8_laysApplicants 47 = .ok (.aload_n 0, 1) := by decide +kernel
theorem dX8_laysApplicants_48 : decode cX8_laysApplicants 48 = .ok (.getfield 275, 3) := by decide +kernel
theorem dX8_laysApplicants_51 : decode cX8_laysApplicants 51 = .ok (.iconst (-1), 1) := by decide +kernel
theorem dX8_laysApplicants_52 : decode cX8_laysApplicants 52 = .ok (.iastore, 1) := by decide +kernel
theorem dX8_laysApplicants_53 : decode cX8_laysApplicants 53 = .ok (.aload_n 0, 1) := by decide +kernel
theorem dX8_laysApplicants_54 : decode cX8_laysApplicants 54 = .ok (.getfield 55, 3) := by decide +kernel
theorem dX8_laysApplicants_57 : decode cX8_laysApplicants 57 = .ok (.aload_n 0, 1) := by decide +kernel
theorem dX8_laysApplicants_58 : decode cX8_laysApplicants 58 = .ok (.getfield 275, 3) := by decide +kernel
theorem dX8_laysApplicants_61 : decode cX8_laysApplicants 61 = .ok (.bipush 20, 2) := by decide +kernel
theorem dX8_laysApplicants_63 : decode cX8_laysApplicants 63 = .ok (.iconst 3, 1) := by decide +kernel
theorem dX8_laysApplicants_64 : decode cX8_laysApplicants 64 = .ok (.iload_n 1, 1) := by decide +kernel
theorem dX8_laysApplicants_65 : decode cX8_laysApplicants 65 = .ok (.imul, 1) := by decide +kernel
theorem dX8_laysApplicants_66 : decode cX8_laysApplicants 66 = .ok (.iadd, 1) := by decide +kernel
theorem dX8_laysApplicants_67 : decode cX8_laysApplicants 67 = .ok (.iastore, 1) := by decide +kernel
theorem dX8_laysApplicants_68 : decode cX8_laysApplicants 68 = .ok (.aload_n 0, 1) := by decide +kernel
theorem dX8_laysApplicants_69 : decode cX8_laysApplicants 69 = .ok (.dup, 1) := by decide +kernel
theorem dX8_laysApplicants_70 : decode cX8_laysApplicants 70 = .ok (.getfield 275, 3) := by decide +kernel
theorem dX8_laysApplicants_73 : decode cX8_laysApplicants 73 = .ok (.iconst 1, 1) := by decide +kernel
theorem dX8_laysApplicants_74 : decode cX8_laysApplicants 74 = .ok (.iadd, 1) := by decide +kernel
theorem dX8_laysApplicants_75 : decode cX8_laysApplicants 75 = .ok (.putfield 275, 3) := by decide +kernel
theorem dX8_laysApplicants_78 : decode cX8_laysApplicants 78 = .ok (.iinc 1 1, 3) := by decide +kernel
theorem dX8_laysApplicants_81 : decode cX8_laysApplicants 81 = .ok (.goto (-74), 3) := by decide +kernel
theorem dX8_laysApplicants_84 : decode cX8_laysApplicants 84 = .ok (.iconst 0, 1) := by decide +kernel
theorem dX8_laysApplicants_85 : decode cX8_laysApplicants 85 = .ok (.istore_n 1, 1) := by decide +kernel
theorem dX8_laysApplicants_86 : decode cX8_laysApplicants 86 = .ok (.iload_n 1, 1) := by decide +kernel
theorem dX8_laysApplicants_87 : decode cX8_laysApplicants 87 = .ok (.aload_n 0, 1) := by decide +kernel
theorem dX8_laysApplicants_88 : decode cX8_laysApplicants 88 = .ok (.getfield 7, 3) := by decide +kernel
theorem dX8_laysApplicants_91 : decode cX8_laysApplicants 91 = .ok (.bipush 70, 2) := by decide +kernel
theorem dX8_laysApplicants_93 : decode cX8_laysApplicants 93 = .ok (.iaload, 1) := by decide +kernel
theorem dX8_laysApplicants_94 : decode cX8_laysApplicants 94 = .ok (.if_icmp .ge 102, 3) := by decide +kernel
theorem dX8_laysApplicants_97 : decode cX8_laysApplicants 97 = .ok (.aload_n 0, 1) := by decide +kernel
theorem dX8_laysApplicants_98 : decode cX8_laysApplicants 98 = .ok (.getfield 49, 3) := by decide +kernel
theorem dX8_laysApplicants_101 : decode cX8_laysApplicants 101 = .ok (.aload_n 0, 1) := by decide +kernel
theorem dX8_laysApplicants_102 : decode cX8_laysApplicants 102 = .ok (.getfield 275, 3) := by decide +kernel
theorem dX8_laysApplicants_105 : decode cX8_laysApplicants 105 = .ok (.iconst 0, 1) := by decide +kernel
theorem dX8_laysApplicants_106 : decode cX8_laysApplicants 106 = .ok (.iastore, 1) := by decide +kernel
theorem dX8_laysApplicants_107 : decode cX8_laysApplicants 107 = .ok (.iconst 0, 1) := by decide +kernel
theorem dX8_laysApplicants_108 : decode cX8_laysApplicants 108 = .ok (.istore_n 2, 1) := by decide +kernel
theorem dX8_laysApplicants_109 : decode cX8_laysApplicants 109 = .ok (.iload_n 2, 1) := by decide +kernel
theorem dX8_laysApplicants_110 : decode cX8_laysApplicants 110 = .ok (.aload_n 0, 1) := by decide +kernel
theorem dX8_laysApplicants_111 : decode cX8_laysApplicants 111 = .ok (.getfield 132, 3) := by decide +kernel
theorem dX8_laysApplicants_114 : decode cX8_laysApplicants 114 = .ok (.if_icmp .ge 41, 3) := by decide +kernel
theorem dX8_laysApplicants_117 : decode cX8_laysApplicants 117 = .ok (.aload_n 0, 1) := by decide +kernel
theorem dX8_laysApplicants_118 : decode cX8_laysApplicants 118 = .ok (.getfield 49, 3) := by decide +kernel
theorem dX8_laysApplicants_121 : decode cX8_laysApplicants 121 = .ok (.aload_n 0, 1) := by decide +kernel
theorem dX8_laysApplicants_122 : decode cX8_laysApplicants 122 = .ok (.getfield 275, 3) := by decide +kernel
theorem dX8_laysApplicants_125 : decode cX8_laysApplicants 125 = .ok (.dup2, 1) := by decide +kernel
theorem dX8_laysApplicants_126 : decode cX8_laysApplicants 126 = .ok (.iaload, 1) := by decide +kernel
theorem dX8_laysApplicants_127 : decode cX8_laysApplicants 127 = .ok (.aload_n 0, 1) := by decide +kernel
theorem dX8_laysApplicants_128 : decode cX8_laysApplicants 128 = .ok (.getfield 7, 3) := by decide +kernel
theorem dX8_laysApplicants_131 : decode cX8_laysApplicants 131 = .ok (.bipush 10, 2) := by decide +kernel
theorem dX8_laysApplicants_133 : decode cX8_laysApplicants 133 = .ok (.iload_n 2, 1) := by decide +kernel
theorem dX8_laysApplicants_134 : decode cX8_laysApplicants 134 = .ok (.iadd, 1) := by decide +kernel
theorem dX8_laysApplicants_135 : decode cX8_laysApplicants 135 = .ok (.iaload, 1) := by decide +kernel
theorem dX8_laysApplicants_136 : decode cX8_laysApplicants 136 = .ok (.iload_n 1, 1) := by decide +kernel
theorem dX8_laysApplicants_137 : decode cX8_laysApplicants 137 = .ok (.if_icmp .ne 9, 3) := by decide +kernel
theorem dX8_laysApplicants_140 : decode cX8_laysApplicants 140 = .ok (.iconst 1, 1) := by decide +kernel
theorem dX8_laysApplicants_141 : decode cX8_laysApplicants 141 = .ok (.iload_n 2, 1) := by decide +kernel
theorem dX8_laysApplicants_142 : decode cX8_laysApplicants 142 = .ok (.ishl, 1) := by decide +kernel
theorem dX8_laysApplicants_143 : decode cX8_laysApplicants 143 = .ok (.goto 4, 3) := by decide +kernel
theorem dX8_laysApplicants_146 : decode cX8_laysApplicants 146 = .ok (.iconst 0, 1) := by decide +kernel
theorem dX8_laysApplicants_147 : decode cX8_laysApplicants 147 = .ok (.ior, 1) := by decide +kernel
theorem dX8_laysApplicants_148 : decode cX8_laysApplicants 148 = .ok (.iastore, 1) := by decide +kernel
theorem dX8_laysApplicants_149 : decode cX8_laysApplicants 149 = .ok (.iinc 2 1, 3) := by decide +kernel
theorem dX8_laysApplicants_152 : decode cX8_laysApplicants 152 = .ok (.goto (-43), 3) := by decide +kernel
theorem dX8_laysApplicants_155 : decode cX8_laysApplicants 155 = .ok (.aload_n 0, 1) := by decide +kernel
theorem dX8_laysApplicants_156 : decode cX8_laysApplicants 156 = .ok (.getfield 52, 3) := by decide +kernel
theorem dX8_laysApplicants_159 : decode cX8_laysApplicants 159 = .ok (.aload_n 0, 1) := by decide +kernel
theorem dX8_laysApplicants_160 : decode cX8_laysApplicants 160 = .ok (.getfield 275, 3) := by decide +kernel
theorem dX8_laysApplicants_163 : decode cX8_laysApplicants 163 = .ok (.iload_n 1, 1) := by decide +kernel
theorem dX8_laysApplicants_164 : decode cX8_laysApplicants 164 = .ok (.iastore, 1) := by decide +kernel
theorem dX8_laysApplicants_165 : decode cX8_laysApplicants 165 = .ok (.aload_n 0, 1) := by decide +kernel
theorem dX8_laysApplicants_166 : decode cX8_laysApplicants 166 = .ok (.getfield 55, 3) := by decide +kernel
theorem dX8_laysApplicants_169 : decode cX8_laysApplicants 169 = .ok (.aload_n 0, 1) := by decide +kernel
theorem dX8_laysApplicants_170 : decode cX8_laysApplicants 170 = .ok (.getfield 275, 3) := by decide +kernel
theorem dX8_laysApplicants_173 : decode cX8_laysApplicants 173 = .ok (.bipush 50, 2) := by decide +kernel
theorem dX8_laysApplicants_175 : decode cX8_laysApplicants 175 = .ok (.iconst 3, 1) := by decide +kernel
theorem dX8_laysApplicants_176 : decode cX8_laysApplicants 176 = .ok (.iload_n 1, 1) := by decide +kernel
theorem dX8_laysApplicants_177 : decode cX8_laysApplicants 177 = .ok (.imul, 1) := by decide +kernel
theorem dX8_laysApplicants_178 : decode cX8_laysApplicants 178 = .ok (.iadd, 1) := by decide +kernel
theorem dX8_laysApplicants_179 : decode cX8_laysApplicants 179 = .ok (.iastore, 1) := by decide +kernel
theorem dX8_laysApplicants_180 : decode cX8_laysApplicants 180 = .ok (.aload_n 0, 1) := by decide +kernel
theorem dX8_laysApplicants_181 : decode cX8_laysApplicants 181 = .ok (.dup, 1) := by decide +kernel
theorem dX8_laysApplicants_182 : decode cX8_laysApplicants 182 = .ok (.getfield 275, 3) := by decide +kernel
theorem dX8_laysApplicants_185 : decode cX8_laysApplicants 185 = .ok (.iconst 1, 1) := by decide +kernel
theorem dX8_laysApplicants_186 : decode cX8_laysApplicants 186 = .ok (.iadd, 1) := by decide +kernel
theorem dX8_laysApplicants_187 : decode cX8_laysApplicants 187 = .ok (.putfield 275, 3) := by decide +kernel
theorem dX8_laysApplicants_190 : decode cX8_laysApplicants 190 = .ok (.iinc 1 1, 3) := by decide +kernel
theorem dX8_laysApplicants_193 : decode cX8_laysApplicants 193 = .ok (.goto (-107), 3) := by decide +kernel
theorem dX8_laysApplicants_196 : decode cX8_laysApplicants 196 = .ok (.iconst 0, 1) := by decide +kernel
theorem dX8_laysApplicants_197 : decode cX8_laysApplicants 197 = .ok (.istore_n 1, 1) := by decide +kernel
theorem dX8_laysApplicants_198 : decode cX8_laysApplicants 198 = .ok (.iload_n 1, 1) := by decide +kernel
theorem dX8_laysApplicants_199 : decode cX8_laysApplicants 199 = .ok (.aload_n 0, 1) := by decide +kernel
theorem dX8_laysApplicants_200 : decode cX8_laysApplicants 200 = .ok (.getfield 275, 3) := by decide +kernel
theorem dX8_laysApplicants_203 : decode cX8_laysApplicants 203 = .ok (.if_icmp .ge 14, 3) := by decide +kernel
theorem dX8_laysApplicants_206 : decode cX8_laysApplicants 206 = .ok (.aload_n 0, 1) := by decide +kernel
theorem dX8_laysApplicants_207 : decode cX8_laysApplicants 207 = .ok (.iload_n 1, 1) := by decide +kernel
theorem dX8_laysApplicants_208 : decode cX8_laysApplicants 208 = .ok (.invokevirtual 278, 3) := by decide +kernel
theorem dX8_laysApplicants_211 : decode cX8_laysApplicants 211 = .ok (.iinc 1 1, 3) := by decide +kernel
theorem dX8_laysApplicants_214 : decode cX8_laysApplicants 214 = .ok (.goto (-16), 3) := by decide +kernel
theorem dX8_laysApplicants_217 : decode cX8_laysApplicants 217 = .ok (.return_, 1) := by decide +kernel
theorem dX8_laysOne_0 : decode cX8_laysOne 0 = .ok (.aload_n 0, 1) := by decide +kernel
theorem dX8_laysOne_1 : decode cX8_laysOne 1 = .ok (.getfield 58, 3) := by decide +kernel
theorem dX8_laysOne_4 : decode cX8_laysOne 4 = .ok (.iload_n 1, 1) := by decide +kernel
theorem dX8_laysOne_5 : decode cX8_laysOne 5 = .ok (.iconst 0, 1) := by decide +kernel
theorem dX8_laysOne_6 : decode cX8_laysOne 6 = .ok (.iastore, 1) := by decide +kernel
theorem dX8_laysOne_7 : decode cX8_laysOne 7 = .ok (.aload_n 0, 1) := by decide +kernel
theorem dX8_laysOne_8 : decode cX8_laysOne 8 = .ok (.getfield 61, 3) := by decide +kernel
theorem dX8_laysOne_11 : decode cX8_laysOne 11 = .ok (.iload_n 1, 1) := by decide +kernel
theorem dX8_laysOne_12 : decode cX8_laysOne 12 = .ok (.iconst 0, 1) := by decide +kernel
theorem dX8_laysOne_13 : decode cX8_laysOne 13 = .ok (.iastore, 1) := by decide +kernel
theorem dX8_laysOne_14 : decode cX8_laysOne 14 = .ok (.iconst 0, 1) := by decide +kernel
theorem dX8_laysOne_15 : decode cX8_laysOne 15 = .ok (.istore_n 2, 1) := by decide +kernel
theorem dX8_laysOne_16 : decode cX8_laysOne 16 = .ok (.iconst 0, 1) := by decide +kernel
theorem dX8_laysOne_17 : decode cX8_laysOne 17 = .ok (.istore_n 3, 1) := by decide +kernel
theorem dX8_laysOne_18 : decode cX8_laysOne 18 = .ok (.iload_n 3, 1) := by decide +kernel
theorem dX8_laysOne_19 : decode cX8_laysOne 19 = .ok (.aload_n 0, 1) := by decide +kernel
theorem dX8_laysOne_20 : decode cX8_laysOne 20 = .ok (.getfield 132, 3) := by decide +kernel
theorem dX8_laysOne_23 : decode cX8_laysOne 23 = .ok (.if_icmp .ge 69, 3) := by decide +kernel
theorem dX8_laysOne_26 : decode cX8_laysOne 26 = .ok (.aload_n 0, 1) := by decide +kernel
theorem dX8_laysOne_27 : decode cX8_laysOne 27 = .ok (.getfield 49, 3) := by decide +kernel
theorem dX8_laysOne_30 : decode cX8_laysOne 30 = .ok (.iload_n 1, 1) := by decide +kernel
theorem dX8_laysOne_31 : decode cX8_laysOne 31 = .ok (.iaload, 1) := by decide +kernel
theorem dX8_laysOne_32 : decode cX8_laysOne 32 = .ok (.iload_n 3, 1) := by decide +kernel
theorem dX8_laysOne_33 : decode cX8_laysOne 33 = .ok (.invokestatic 240, 3) := by decide +kernel
theorem dX8_laysOne_36 : decode cX8_laysOne 36 = .ok (.ifCond .ne 6, 3) := by decide +kernel
theorem dX8_laysOne_39 : decode cX8_laysOne 39 = .ok (.goto 47, 3) := by decide +kernel
theorem dX8_laysOne_42 : decode cX8_laysOne 42 = .ok (.aload_n 0, 1) := by decide +kernel
theorem dX8_laysOne_43 : decode cX8_laysOne 43 = .ok (.getfield 58, 3) := by decide +kernel
theorem dX8_laysOne_46 : decode cX8_laysOne 46 = .ok (.iload_n 1, 1) := by decide +kernel
theorem dX8_laysOne_47 : decode cX8_laysOne 47 = .ok (.dup2, 1) := by decide +kernel
theorem dX8_laysOne_48 : decode cX8_laysOne 48 = .ok (.iaload, 1) := by decide +kernel
theorem dX8_laysOne_49 : decode cX8_laysOne 49 = .ok (.iconst 1, 1) := by decide +kernel
theorem dX8_laysOne_50 : decode cX8_laysOne 50 = .ok (.iadd, 1) := by decide +kernel
theorem dX8_laysOne_51 : decode cX8_laysOne 51 = .ok (.iastore, 1) := by decide +kernel
theorem dX8_laysOne_52 : decode cX8_laysOne 52 = .ok (.aload_n 0, 1) := by decide +kernel
theorem dX8_laysOne_53 : decode cX8_laysOne 53 = .ok (.getfield 61, 3) := by decide +kernel
theorem dX8_laysOne_56 : decode cX8_laysOne 56 = .ok (.iload_n 1, 1) := by decide +kernel
theorem dX8_laysOne_57 : decode cX8_laysOne 57 = .ok (.dup2, 1) := by decide +kernel
theorem dX8_laysOne_58 : decode cX8_laysOne 58 = .ok (.iaload, 1) := by decide +kernel
theorem dX8_laysOne_59 : decode cX8_laysOne 59 = .ok (.aload_n 0, 1) := by decide +kernel
theorem dX8_laysOne_60 : decode cX8_laysOne 60 = .ok (.getfield 22, 3) := by decide +kernel
theorem dX8_laysOne_63 : decode cX8_laysOne 63 = .ok (.iload_n 3, 1) := by decide +kernel
theorem dX8_laysOne_64 : decode cX8_laysOne 64 = .ok (.baload, 1) := by decide +kernel
theorem dX8_laysOne_65 : decode cX8_laysOne 65 = .ok (.ifCond .eq 7, 3) := by decide +kernel
theorem dX8_laysOne_68 : decode cX8_laysOne 68 = .ok (.iconst 1, 1) := by decide +kernel
theorem dX8_laysOne_69 : decode cX8_laysOne 69 = .ok (.goto 4, 3) := by decide +kernel
theorem dX8_laysOne_72 : decode cX8_laysOne 72 = .ok (.iconst 0, 1) := by decide +kernel
theorem dX8_laysOne_73 : decode cX8_laysOne 73 = .ok (.iadd, 1) := by decide +kernel
theorem dX8_laysOne_74 : decode cX8_laysOne 74 = .ok (.iastore, 1) := by decide +kernel
theorem dX8_laysOne_75 : decode cX8_laysOne 75 = .ok (.iload_n 2, 1) := by decide +kernel
theorem dX8_laysOne_76 : decode cX8_laysOne 76 = .ok (.aload_n 0, 1) := by decide +kernel
theorem dX8_laysOne_77 : decode cX8_laysOne 77 = .ok (.getfield 7, 3) := by decide +kernel
theorem dX8_laysOne_80 : decode cX8_laysOne 80 = .ok (.iconst 0, 1) := by decide +kernel
theorem dX8_laysOne_81 : decode cX8_laysOne 81 = .ok (.iload_n 3, 1) := by decide +kernel
theorem dX8_laysOne_82 : decode cX8_laysOne 82 = .ok (.iadd, 1) := by decide +kernel
theorem dX8_laysOne_83 : decode cX8_laysOne 83 = .ok (.iaload, 1) := by decide +kernel
theorem dX8_laysOne_84 : decode cX8_laysOne 84 = .ok (.iadd, 1) := by decide +kernel
theorem dX8_laysOne_85 : decode cX8_laysOne 85 = .ok (.istore_n 2, 1) := by decide +kernel
theorem dX8_laysOne_86 : decode cX8_laysOne 86 = .ok (.iinc 3 1, 3) := by decide +kernel
theorem dX8_laysOne_89 : decode cX8_laysOne 89 = .ok (.goto (-71), 3) := by decide +kernel
theorem dX8_laysOne_92 : decode cX8_laysOne 92 = .ok (.aload_n 0, 1) := by decide +kernel
theorem dX8_laysOne_93 : decode cX8_laysOne 93 = .ok (.getfield 64, 3) := by decide +kernel
theorem dX8_laysOne_96 : decode cX8_laysOne 96 = .ok (.iload_n 1, 1) := by decide +kernel
theorem dX8_laysOne_97 : decode cX8_laysOne 97 = .ok (.iload_n 2, 1) := by decide +kernel
theorem dX8_laysOne_98 : decode cX8_laysOne 98 = .ok (.aload_n 0, 1) := by decide +kernel
theorem dX8_laysOne_99 : decode cX8_laysOne 99 = .ok (.getfield 58, 3) := by decide +kernel
theorem dX8_laysOne_102 : decode cX8_laysOne 102 = .ok (.iload_n 1, 1) := by decide +kernel
theorem dX8_laysOne_103 : decode cX8_laysOne 103 = .ok (.iaload, 1) := by decide +kernel
theorem dX8_laysOne_104 : decode cX8_laysOne 104 = .ok (.idiv, 1) := by decide +kernel
theorem dX8_laysOne_105 : decode cX8_laysOne 105 = .ok (.iastore, 1) := by decide +kernel
theorem dX8_laysOne_106 : decode cX8_laysOne 106 = .ok (.aload_n 0, 1) := by decide +kernel
theorem dX8_laysOne_107 : decode cX8_laysOne 107 = .ok (.getfield 67, 3) := by decide +kernel
theorem dX8_laysOne_110 : decode cX8_laysOne 110 = .ok (.iload_n 1, 1) := by decide +kernel
theorem dX8_laysOne_111 : decode cX8_laysOne 111 = .ok (.aload_n 0, 1) := by decide +kernel
theorem dX8_laysOne_112 : decode cX8_laysOne 112 = .ok (.getfield 7, 3) := by decide +kernel
theorem dX8_laysOne_115 : decode cX8_laysOne 115 = .ok (.bipush 67, 2) := by decide +kernel
theorem dX8_laysOne_117 : decode cX8_laysOne 117 = .ok (.iaload, 1) := by decide +kernel
theorem dX8_laysOne_118 : decode cX8_laysOne 118 = .ok (.ifCond .ne 7, 3) := by decide +kernel
theorem dX8_laysOne_121 : decode cX8_laysOne 121 = .ok (.iconst 1, 1) := by decide +kernel
theorem dX8_laysOne_122 : decode cX8_laysOne 122 = .ok (.goto 40, 3) := by decide +kernel
theorem dX8_laysOne_125 : decode cX8_laysOne 125 = .ok (.aload_n 0, 1) := by decide +kernel
theorem dX8_laysOne_126 : decode cX8_laysOne 126 = .ok (.getfield 7, 3) := by decide +kernel
theorem dX8_laysOne_129 : decode cX8_laysOne 129 = .ok (.bipush 67, 2) := by decide +kernel
theorem dX8_laysOne_131 : decode cX8_laysOne 131 = .ok (.iaload, 1) := by decide +kernel
theorem dX8_laysOne_132 : decode cX8_laysOne 132 = .ok (.iconst 1, 1) := by decide +kernel
theorem dX8_laysOne_133 : decode cX8_laysOne 133 = .ok (.if_icmp .ne 14, 3) := by decide +kernel
theorem dX8_laysOne_136 : decode cX8_laysOne 136 = .ok (.iconst 1, 1) := by decide +kernel
theorem dX8_laysOne_137 : decode cX8_laysOne 137 = .ok (.aload_n 0, 1) := by decide +kernel
theorem dX8_laysOne_138 : decode cX8_laysOne 138 = .ok (.getfield 64, 3) := by decide +kernel
theorem dX8_laysOne_141 : decode cX8_laysOne 141 = .ok (.iload_n 1, 1) := by decide +kernel
theorem dX8_laysOne_142 : decode cX8_laysOne 142 = .ok (.iaload, 1) := by decide +kernel
theorem dX8_laysOne_143 : decode cX8_laysOne 143 = .ok (.iadd, 1) := by decide +kernel
theorem dX8_laysOne_144 : decode cX8_laysOne 144 = .ok (.goto 18, 3) := by decide +kernel
theorem dX8_laysOne_147 : decode cX8_laysOne 147 = .ok (.iconst 1, 1) := by decide +kernel
theorem dX8_laysOne_148 : decode cX8_laysOne 148 = .ok (.aload_n 0, 1) := by decide +kernel
theorem dX8_laysOne_149 : decode cX8_laysOne 149 = .ok (.getfield 64, 3) := by decide +kernel
theorem dX8_laysOne_152 : decode cX8_laysOne 152 = .ok (.iload_n 1, 1) := by decide +kernel
theorem dX8_laysOne_153 : decode cX8_laysOne 153 = .ok (.iaload, 1) := by decide +kernel
theorem dX8_laysOne_154 : decode cX8_laysOne 154 = .ok (.aload_n 0, 1) := by decide +kernel
theorem dX8_laysOne_155 : decode cX8_laysOne 155 = .ok (.getfield 64, 3) := by decide +kernel
theorem dX8_laysOne_158 : decode cX8_laysOne 158 = .ok (.iload_n 1, 1) := by decide +kernel
theorem dX8_laysOne_159 : decode cX8_laysOne 159 = .ok (.iaload, 1) := by decide +kernel
theorem dX8_laysOne_160 : decode cX8_laysOne 160 = .ok (.imul, 1) := by decide +kernel
theorem dX8_laysOne_161 : decode cX8_laysOne 161 = .ok (.iadd, 1) := by decide +kernel
theorem dX8_laysOne_162 : decode cX8_laysOne 162 = .ok (.iastore, 1) := by decide +kernel
theorem dX8_laysOne_163 : decode cX8_laysOne 163 = .ok (.return_, 1) := by decide +kernel
theorem dX8_isApplicant_0 : decode cX8_isApplicant 0 = .ok (.aload_n 0, 1) := by decide +kernel
theorem dX8_isApplicant_1 : decode cX8_isApplicant 1 = .ok (.invokevirtual 281, 3) := by decide +kernel
theorem dX8_isApplicant_4 : decode cX8_isApplicant 4 = .ok (.iload_n 1, 1) := by decide +kernel
theorem dX8_isApplicant_5 : decode cX8_isApplicant 5 = .ok (.i2l, 1) := by decide +kernel
theorem dX8_isApplicant_6 : decode cX8_isApplicant 6 = .ok (.lconst 0, 1) := by decide +kernel
theorem dX8_isApplicant_7 : decode cX8_isApplicant 7 = .ok (.aload_n 0, 1) := by decide +kernel
theorem dX8_isApplicant_8 : decode cX8_isApplicant 8 = .ok (.getfield 275, 3) := by decide +kernel
theorem dX8_isApplicant_11 : decode cX8_isApplicant 11 = .ok (.iconst 1, 1) := by decide +kernel
theorem dX8_isApplicant_12 : decode cX8_isApplicant 12 = .ok (.isub, 1) := by decide +kernel
theorem dX8_isApplicant_13 : decode cX8_isApplicant 13 = .ok (.i2l, 1) := by decide +kernel
theorem dX8_isApplicant_14 : decode cX8_isApplicant 14 = .ok (.invokestatic 128, 3) := by decide +kernel
theorem dX8_isApplicant_17 : decode cX8_isApplicant 17 = .ok (.ireturn, 1) := by decide +kernel
theorem dX8_choiceOf_0 : decode cX8_choiceOf 0 = .ok (.iload_n 2, 1) := by decide +kernel
theorem dX8_choiceOf_1 : decode cX8_choiceOf 1 = .ok (.iconst 3, 1) := by decide +kernel
theorem dX8_choiceOf_2 : decode cX8_choiceOf 2 = .ok (.if_icmp .ge 19, 3) := by decide +kernel
theorem dX8_choiceOf_5 : decode cX8_choiceOf 5 = .ok (.aload_n 0, 1) := by decide +kernel
theorem dX8_choiceOf_6 : decode cX8_choiceOf 6 = .ok (.getfield 7, 3) := by decide +kernel
theorem dX8_choiceOf_9 : decode cX8_choiceOf 9 = .ok (.aload_n 0, 1) := by decide +kernel
theorem dX8_choiceOf_10 : decode cX8_choiceOf 10 = .ok (.getfield 55, 3) := by decide +kernel
theorem dX8_choiceOf_13 : decode cX8_choiceOf 13 = .ok (.iload_n 1, 1) := by decide +kernel
theorem dX8_choiceOf_14 : decode cX8_choiceOf 14 = .ok (.iaload, 1) := by decide +kernel
theorem dX8_choiceOf_15 : decode cX8_choiceOf 15 = .ok (.iload_n 2, 1) := by decide +kernel
theorem dX8_choiceOf_16 : decode cX8_choiceOf 16 = .ok (.iadd, 1) := by decide +kernel
theorem dX8_choiceOf_17 : decode cX8_choiceOf 17 = .ok (.iaload, 1) := by decide +kernel
theorem dX8_choiceOf_18 : decode cX8_choiceOf 18 = .ok (.goto 4, 3) := by decide +kernel
theorem dX8_choiceOf_21 : decode cX8_choiceOf 21 = .ok (.iconst (-1), 1) := by decide +kernel
theorem dX8_choiceOf_22 : decode cX8_choiceOf 22 = .ok (.ireturn, 1) := by decide +kernel
theorem dX8_choiceMany_0 : decode cX8_choiceMany 0 = .ok (.iconst 0, 1) := by decide +kernel
theorem dX8_choiceMany_1 : decode cX8_choiceMany 1 = .ok (.istore_n 2, 1) := by decide +kernel
theorem dX8_choiceMany_2 : decode cX8_choiceMany 2 = .ok (.aload_n 0, 1) := by decide +kernel
theorem dX8_choiceMany_3 : decode cX8_choiceMany 3 = .ok (.iload_n 1, 1) := by decide +kernel
theorem dX8_choiceMany_4 : decode cX8_choiceMany 4 = .ok (.iload_n 2, 1) := by decide +kernel
theorem dX8_choiceMany_5 : decode cX8_choiceMany 5 = .ok (.invokevirtual 284, 3) := by decide +kernel
theorem dX8_choiceMany_8 : decode cX8_choiceMany 8 = .ok (.iconst (-1), 1) := by decide +kernel
theorem dX8_choiceMany_9 : decode cX8_choiceMany 9 = .ok (.if_icmp .eq 9, 3) := by decide +kernel
theorem dX8_choiceMany_12 : decode cX8_choiceMany 12 = .ok (.iinc 2 1, 3) := by decide +kernel
theorem dX8_choiceMany_15 : decode cX8_choiceMany 15 = .ok (.goto (-13), 3) := by decide +kernel
theorem dX8_choiceMany_18 : decode cX8_choiceMany 18 = .ok (.iload_n 2, 1) := by decide +kernel
theorem dX8_choiceMany_19 : decode cX8_choiceMany 19 = .ok (.ireturn, 1) := by decide +kernel
theorem dX8_placeOf_0 : decode cX8_placeOf 0 = .ok (.iconst 0, 1) := by decide +kernel
theorem dX8_placeOf_1 : decode cX8_placeOf 1 = .ok (.istore_n 3, 1) := by decide +kernel
theorem dX8_placeOf_2 : decode cX8_placeOf 2 = .ok (.iload_n 3, 1) := by decide +kernel
theorem dX8_placeOf_3 : decode cX8_placeOf 3 = .ok (.aload_n 0, 1) := by decide +kernel
theorem dX8_placeOf_4 : decode cX8_placeOf 4 = .ok (.iload_n 1, 1) := by decide +kernel
theorem dX8_placeOf_5 : decode cX8_placeOf 5 = .ok (.invokevirtual 288, 3) := by decide +kernel
theorem dX8_placeOf_8 : decode cX8_placeOf 8 = .ok (.if_icmp .ge 21, 3) := by decide +kernel
theorem dX8_placeOf_11 : decode cX8_placeOf 11 = .ok (.aload_n 0, 1) := by decide +kernel
theorem dX8_placeOf_12 : decode cX8_placeOf 12 = .ok (.iload_n 1, 1) := by decide +kernel
theorem dX8_placeOf_13 : decode cX8_placeOf 13 = .ok (.iload_n 3, 1) := by decide +kernel
theorem dX8_placeOf_14 : decode cX8_placeOf 14 = .ok (.invokevirtual 284, 3) := by decide +kernel
theorem dX8_placeOf_17 : decode cX8_placeOf 17 = .ok (.iload_n 2, 1) := by decide +kernel
theorem dX8_placeOf_18 : decode cX8_placeOf 18 = .ok (.if_icmp .ne 5, 3) := by decide +kernel
theorem dX8_placeOf_21 : decode cX8_placeOf 21 = .ok (.iload_n 3, 1) := by decide +kernel
theorem dX8_placeOf_22 : decode cX8_placeOf 22 = .ok (.ireturn, 1) := by decide +kernel
theorem dX8_placeOf_23 : decode cX8_placeOf 23 = .ok (.iinc 3 1, 3) := by decide +kernel
theorem dX8_placeOf_26 : decode cX8_placeOf 26 = .ok (.goto (-24), 3) := by decide +kernel
theorem dX8_placeOf_29 : decode cX8_placeOf 29 = .ok (.iconst (-1), 1) := by decide +kernel
theorem dX8_placeOf_30 : decode cX8_placeOf 30 = .ok (.ireturn, 1) := by decide +kernel
theorem dX8_applicantOf_0 : decode cX8_applicantOf 0 = .ok (.aload_n 0, 1) := by decide +kernel
theorem dX8_applicantOf_1 : decode cX8_applicantOf 1 = .ok (.invokevirtual 281, 3) := by decide +kernel
theorem dX8_applicantOf_4 : decode cX8_applicantOf 4 = .ok (.iconst 0, 1) := by decide +kernel
theorem dX8_applicantOf_5 : decode cX8_applicantOf 5 = .ok (.istore_n 2, 1) := by decide +kernel
theorem dX8_applicantOf_6 : decode cX8_applicantOf 6 = .ok (.aload_n 0, 1) := by decide +kernel
theorem dX8_applicantOf_7 : decode cX8_applicantOf 7 = .ok (.getfield 49, 3) := by decide +kernel
theorem dX8_applicantOf_10 : decode cX8_applicantOf 10 = .ok (.iload_n 2, 1) := by decide +kernel
theorem dX8_applicantOf_11 : decode cX8_applicantOf 11 = .ok (.iaload, 1) := by decide +kernel
theorem dX8_applicantOf_12 : decode cX8_applicantOf 12 = .ok (.iload_n 1, 1) := by decide +kernel
theorem dX8_applicantOf_13 : decode cX8_applicantOf 13 = .ok (.invokestatic 240, 3) := by decide +kernel
theorem dX8_applicantOf_16 : decode cX8_applicantOf 16 = .ok (.ifCond .ne 9, 3) := by decide +kernel
theorem dX8_applicantOf_19 : decode cX8_applicantOf 19 = .ok (.iinc 2 1, 3) := by decide +kernel
theorem dX8_applicantOf_22 : decode cX8_applicantOf 22 = .ok (.goto (-16), 3) := by decide +kernel
theorem dX8_applicantOf_25 : decode cX8_applicantOf 25 = .ok (.iload_n 2, 1) := by decide +kernel
theorem dX8_applicantOf_26 : decode cX8_applicantOf 26 = .ok (.ireturn, 1) := by decide +kernel
theorem dX8_many_0 : decode cX8_many 0 = .ok (.aload_n 0, 1) := by decide +kernel
theorem dX8_many_1 : decode cX8_many 1 = .ok (.invokevirtual 281, 3) := by decide +kernel
theorem dX8_many_4 : decode cX8_many 4 = .ok (.iconst 0, 1) := by decide +kernel
theorem dX8_many_5 : decode cX8_many 5 = .ok (.istore_n 2, 1) := by decide +kernel
theorem dX8_many_6 : decode cX8_many 6 = .ok (.iload_n 1, 1) := by decide +kernel
theorem dX8_many_7 : decode cX8_many 7 = .ok (.tableswitch 226 0 10 #[57, 66, 75, 87, 96, 108, 120, 132, 144, 153, 187], 57) := by decide +kernel
theorem dX8_many_64 : decode cX8_many 64 = .ok (.aload_n 0, 1) := by decide +kernel
theorem dX8_many_65 : decode cX8_many 65 = .ok (.aload_n 0, 1) := by decide +kernel
theorem dX8_many_66 : decode cX8_many 66 = .ok (.getfield 125, 3) := by decide +kernel
theorem dX8_many_69 : decode cX8_many 69 = .ok (.invokevirtual 272, 3) := by decide +kernel
theorem dX8_many_72 : decode cX8_many 72 = .ok (.ireturn, 1) := by decide +kernel
theorem dX8_many_73 : decode cX8_many 73 = .ok (.aload_n 0, 1) := by decide +kernel
theorem dX8_many_74 : decode cX8_many 74 = .ok (.aload_n 0, 1) := by decide +kernel
theorem dX8_many_75 : decode cX8_many 75 = .ok (.getfield 132, 3) := by decide +kernel
theorem dX8_many_78 : decode cX8_many 78 = .ok (.invokevirtual 272, 3) := by decide +kernel
theorem dX8_many_81 : decode cX8_many 81 = .ok (.ireturn, 1) := by decide +kernel
theorem dX8_many_82 : decode cX8_many 82 = .ok (.aload_n 0, 1) := by decide +kernel
theorem dX8_many_83 : decode cX8_many 83 = .ok (.aload_n 0, 1) := by decide +kernel
theorem dX8_many_84 : decode cX8_many 84 = .ok (.getfield 7, 3) := by decide +kernel
theorem dX8_many_87 : decode cX8_many 87 = .ok (.bipush 70, 2) := by decide +kernel
theorem dX8_many_89 : decode cX8_many 89 = .ok (.iaload, 1) := by decide +kernel
theorem dX8_many_90 : decode cX8_many 90 = .ok (.invokevirtual 272, 3) := by decide +kernel
theorem dX8_many_93 : decode cX8_many 93 = .ok (.ireturn, 1) := by decide +kernel
theorem dX8_many_94 : decode cX8_many 94 = .ok (.aload_n 0, 1) := by decide +kernel
theorem dX8_many_95 : decode cX8_many 95 = .ok (.aload_n 0, 1) := by decide +kernel
theorem dX8_many_96 : decode cX8_many 96 = .ok (.getfield 275, 3) := by decide +kernel
theorem dX8_many_99 : decode cX8_many 99 = .ok (.invokevirtual 272, 3) := by decide +kernel
theorem dX8_many_102 : decode cX8_many 102 = .ok (.ireturn, 1) := by decide +kernel
theorem dX8_many_103 : decode cX8_many 103 = .ok (.aload_n 0, 1) := by decide +kernel
theorem dX8_many_104 : decode cX8_many 104 = .ok (.aload_n 0, 1) := by decide +kernel
theorem dX8_many_105 : decode cX8_many 105 = .ok (.getfield 7, 3) := by decide +kernel
theorem dX8_many_108 : decode cX8_many 108 = .ok (.bipush 67, 2) := by decide +kernel
theorem dX8_many_110 : decode cX8_many 110 = .ok (.iaload, 1) := by decide +kernel
theorem dX8_many_111 : decode cX8_many 111 = .ok (.invokevirtual 272, 3) := by decide +kernel
theorem dX8_many_114 : decode cX8_many 114 = .ok (.ireturn, 1) := by decide +kernel
theorem dX8_many_115 : decode cX8_many 115 = .ok (.aload_n 0, 1) := by decide +kernel
theorem dX8_many_116 : decode cX8_many 116 = .ok (.aload_n 0, 1) := by decide +kernel
theorem dX8_many_117 : decode cX8_many 117 = .ok (.getfield 7, 3) := by decide +kernel
theorem dX8_many_120 : decode cX8_many 120 = .ok (.bipush 68, 2) := by decide +kernel
theorem dX8_many_122 : decode cX8_many 122 = .ok (.iaload, 1) := by decide +kernel
theorem dX8_many_123 : decode cX8_many 123 = .ok (.invokevirtual 272, 3) := by decide +kernel
theorem dX8_many_126 : decode cX8_many 126 = .ok (.ireturn, 1) := by decide +kernel
theorem dX8_many_127 : decode cX8_many 127 = .ok (.aload_n 0, 1) := by decide +kernel
theorem dX8_many_128 : decode cX8_many 128 = .ok (.aload_n 0, 1) := by decide +kernel
theorem dX8_many_129 : decode cX8_many 129 = .ok (.getfield 7, 3) := by decide +kernel
theorem dX8_many_132 : decode cX8_many 132 = .ok (.bipush 69, 2) := by decide +kernel
theorem dX8_many_134 : decode cX8_many 134 = .ok (.iaload, 1) := by decide +kernel
theorem dX8_many_135 : decode cX8_many 135 = .ok (.invokevirtual 272, 3) := by decide +kernel
theorem dX8_many_138 : decode cX8_many 138 = .ok (.ireturn, 1) := by decide +kernel
theorem dX8_many_139 : decode cX8_many 139 = .ok (.aload_n 0, 1) := by decide +kernel
theorem dX8_many_140 : decode cX8_many 140 = .ok (.aload_n 0, 1) := by decide +kernel
theorem dX8_many_141 : decode cX8_many 141 = .ok (.getfield 7, 3) := by decide +kernel
theorem dX8_many_144 : decode cX8_many 144 = .ok (.bipush 71, 2) := by decide +kernel
theorem dX8_many_146 : decode cX8_many 146 = .ok (.iaload, 1) := by decide +kernel
theorem dX8_many_147 : decode cX8_many 147 = .ok (.invokevirtual 272, 3) := by decide +kernel
theorem dX8_many_150 : decode cX8_many 150 = .ok (.ireturn, 1) := by decide +kernel
theorem dX8_many_151 : decode cX8_many 151 = .ok (.aload_n 0, 1) := by decide +kernel
theorem dX8_many_152 : decode cX8_many 152 = .ok (.aload_n 0, 1) := by decide +kernel
theorem dX8_many_153 : decode cX8_many 153 = .ok (.getfield 269, 3) := by decide +kernel
theorem dX8_many_156 : decode cX8_many 156 = .ok (.invokevirtual 272, 3) := by decide +kernel
theorem dX8_many_159 : decode cX8_many 159 = .ok (.ireturn, 1) := by decide +kernel
theorem dX8_many_160 : decode cX8_many 160 = .ok (.iconst 0, 1) := by decide +kernel
theorem dX8_many_161 : decode cX8_many 161 = .ok (.istore_n 3, 1) := by decide +kernel
theorem dX8_many_162 : decode cX8_many 162 = .ok (.iload_n 3, 1) := by decide +kernel
theorem dX8_many_163 : decode cX8_many 163 = .ok (.aload_n 0, 1) := by decide +kernel
theorem dX8_many_164 : decode cX8_many 164 = .ok (.getfield 125, 3) := by decide +kernel
theorem dX8_many_167 : decode cX8_many 167 = .ok (.if_icmp .ge 21, 3) := by decide +kernel
theorem dX8_many_170 : decode cX8_many 170 = .ok (.iload_n 2, 1) := by decide +kernel
theorem dX8_many_171 : decode cX8_many 171 = .ok (.aload_n 0, 1) := by decide +kernel
theorem dX8_many_172 : decode cX8_many 172 = .ok (.getfield 7, 3) := by decide +kernel
theorem dX8_many_175 : decode cX8_many 175 = .ok (.bipush 62, 2) := by decide +kernel
theorem dX8_many_177 : decode cX8_many 177 = .ok (.iload_n 3, 1) := by decide +kernel
theorem dX8_many_178 : decode cX8_many 178 = .ok (.iadd, 1) := by decide +kernel
theorem dX8_many_179 : decode cX8_many 179 = .ok (.iaload, 1) := by decide +kernel
theorem dX8_many_180 : decode cX8_many 180 = .ok (.iadd, 1) := by decide +kernel
theorem dX8_many_181 : decode cX8_many 181 = .ok (.istore_n 2, 1) := by decide +kernel
theorem dX8_many_182 : decode cX8_many 182 = .ok (.iinc 3 1, 3) := by decide +kernel
theorem dX8_many_185 : decode cX8_many 185 = .ok (.goto (-23), 3) := by decide +kernel
theorem dX8_many_188 : decode cX8_many 188 = .ok (.aload_n 0, 1) := by decide +kernel
theorem dX8_many_189 : decode cX8_many 189 = .ok (.iload_n 2, 1) := by decide +kernel
theorem dX8_many_190 : decode cX8_many 190 = .ok (.invokevirtual 272, 3) := by decide +kernel
theorem dX8_many_193 : decode cX8_many 193 = .ok (.ireturn, 1) := by decide +kernel
theorem dX8_many_194 : decode cX8_many 194 = .ok (.iconst 0, 1) := by decide +kernel
theorem dX8_many_195 : decode cX8_many 195 = .ok (.istore_n 3, 1) := by decide +kernel
theorem dX8_many_196 : decode cX8_many 196 = .ok (.iload_n 3, 1) := by decide +kernel
theorem dX8_many_197 : decode cX8_many 197 = .ok (.aload_n 0, 1) := by decide +kernel
theorem dX8_many_198 : decode cX8_many 198 = .ok (.getfield 132, 3) := by decide +kernel
theorem dX8_many_201 : decode cX8_many 201 = .ok (.if_icmp .ge 26, 3) := by decide +kernel
theorem dX8_many_204 : decode cX8_many 204 = .ok (.iload_n 2, 1) := by decide +kernel
theorem dX8_many_205 : decode cX8_many 205 = .ok (.aload_n 0, 1) := by decide +kernel
theorem dX8_many_206 : decode cX8_many 206 = .ok (.getfield 22, 3) := by decide +kernel
theorem dX8_many_209 : decode cX8_many 209 = .ok (.iload_n 3, 1) := by decide +kernel
theorem dX8_many_210 : decode cX8_many 210 = .ok (.baload, 1) := by decide +kernel
theorem dX8_many_211 : decode cX8_many 211 = .ok (.ifCond .eq 7, 3) := by decide +kernel
theorem dX8_many_214 : decode cX8_many 214 = .ok (.iconst 1, 1) := by decide +kernel
theorem dX8_many_215 : decode cX8_many 215 = .ok (.goto 4, 3) := by decide +kernel
theorem dX8_many_218 : decode cX8_many 218 = .ok (.iconst 0, 1) := by decide +kernel
theorem dX8_many_219 : decode cX8_many 219 = .ok (.iadd, 1) := by decide +kernel
theorem dX8_many_220 : decode cX8_many 220 = .ok (.istore_n 2, 1) := by decide +kernel
theorem dX8_many_221 : decode cX8_many 221 = .ok (.iinc 3 1, 3) := by decide +kernel
theorem dX8_many_224 : decode cX8_many 224 = .ok (.goto (-28), 3) := by decide +kernel
theorem dX8_many_227 : decode cX8_many 227 = .ok (.aload_n 0, 1) := by decide +kernel
theorem dX8_many_228 : decode cX8_many 228 = .ok (.iload_n 2, 1) := by decide +kernel
theorem dX8_many_229 : decode cX8_many 229 = .ok (.invokevirtual 272, 3) := by decide +kernel
theorem dX8_many_232 : decode cX8_many 232 = .ok (.ireturn, 1) := by decide +kernel
theorem dX8_many_233 : decode cX8_many 233 = .ok (.aload_n 0, 1) := by decide +kernel
theorem dX8_many_234 : decode cX8_many 234 = .ok (.iconst 1, 1) := by decide +kernel
theorem dX8_many_235 : decode cX8_many 235 = .ok (.invokevirtual 263, 3) := by decide +kernel
theorem dX8_many_238 : decode cX8_many 238 = .ok (.ireturn, 1) := by decide +kernel
theorem dX8_hunter_0 : decode cX8_hunter 0 = .ok (.iload_n 2, 1) := by decide +kernel
theorem dX8_hunter_1 : decode cX8_hunter 1 = .ok (.i2l, 1) := by decide +kernel
theorem dX8_hunter_2 : decode cX8_hunter 2 = .ok (.lconst 0, 1) := by decide +kernel
theorem dX8_hunter_3 : decode cX8_hunter 3 = .ok (.ldc2_w 291, 3) := by decide +kernel
theorem dX8_hunter_6 : decode cX8_hunter 6 = .ok (.invokestatic 128, 3) := by decide +kernel
theorem dX8_hunter_9 : decode cX8_hunter 9 = .ok (.ifCond .ne 9, 3) := by decide +kernel
theorem dX8_hunter_12 : decode cX8_hunter 12 = .ok (.aload_n 0, 1) := by decide +kernel
theorem dX8_hunter_13 : decode cX8_hunter 13 = .ok (.iconst 1, 1) := by decide +kernel
theorem dX8_hunter_14 : decode cX8_hunter 14 = .ok (.invokevirtual 263, 3) := by decide +kernel
theorem dX8_hunter_17 : decode cX8_hunter 17 = .ok (.ireturn, 1) := by decide +kernel
theorem dX8_hunter_18 : decode cX8_hunter 18 = .ok (.aload_n 0, 1) := by decide +kernel
theorem dX8_hunter_19 : decode cX8_hunter 19 = .ok (.iload_n 1, 1) := by decide +kernel
theorem dX8_hunter_20 : decode cX8_hunter 20 = .ok (.invokevirtual 293, 3) := by decide +kernel
theorem dX8_hunter_23 : decode cX8_hunter 23 = .ok (.ifCond .ne 9, 3) := by decide +kernel
theorem dX8_hunter_26 : decode cX8_hunter 26 = .ok (.aload_n 0, 1) := by decide +kernel
theorem dX8_hunter_27 : decode cX8_hunter 27 = .ok (.iconst 2, 1) := by decide +kernel
theorem dX8_hunter_28 : decode cX8_hunter 28 = .ok (.invokevirtual 263, 3) := by decide +kernel
theorem dX8_hunter_31 : decode cX8_hunter 31 = .ok (.ireturn, 1) := by decide +kernel
theorem dX8_hunter_32 : decode cX8_hunter 32 = .ok (.iload_n 2, 1) := by decide +kernel
theorem dX8_hunter_33 : decode cX8_hunter 33 = .ok (.tableswitch 87 0 3 #[31, 44, 63, 77], 31) := by decide +kernel
theorem dX8_hunter_64 : decode cX8_hunter 64 = .ok (.aload_n 0, 1) := by decide +kernel
theorem dX8_hunter_65 : decode cX8_hunter 65 = .ok (.aload_n 0, 1) := by decide +kernel
theorem dX8_hunter_66 : decode cX8_hunter 66 = .ok (.getfield 7, 3) := by decide +kernel
theorem dX8_hunter_69 : decode cX8_hunter 69 = .ok (.iconst 0, 1) := by decide +kernel
theorem dX8_hunter_70 : decode cX8_hunter 70 = .ok (.iload_n 1, 1) := by decide +kernel
theorem dX8_hunter_71 : decode cX8_hunter 71 = .ok (.iadd, 1) := by decide +kernel
theorem dX8_hunter_72 : decode cX8_hunter 72 = .ok (.iaload, 1) := by decide +kernel
theorem dX8_hunter_73 : decode cX8_hunter 73 = .ok (.invokevirtual 272, 3) := by decide +kernel
theorem dX8_hunter_76 : decode cX8_hunter 76 = .ok (.ireturn, 1) := by decide +kernel
theorem dX8_hunter_77 : decode cX8_hunter 77 = .ok (.aload_n 0, 1) := by decide +kernel
theorem dX8_hunter_78 : decode cX8_hunter 78 = .ok (.aload_n 0, 1) := by decide +kernel
theorem dX8_hunter_79 : decode cX8_hunter 79 = .ok (.getfield 22, 3) := by decide +kernel
theorem dX8_hunter_82 : decode cX8_hunter 82 = .ok (.iload_n 1, 1) := by decide +kernel
theorem dX8_hunter_83 : decode cX8_hunter 83 = .ok (.baload, 1) := by decide +kernel
theorem dX8_hunter_84 : decode cX8_hunter 84 = .ok (.ifCond .eq 7, 3) := by decide +kernel
theorem dX8_hunter_87 : decode cX8_hunter 87 = .ok (.iconst 1, 1) := by decide +kernel
theorem dX8_hunter_88 : decode cX8_hunter 88 = .ok (.goto 4, 3) := by decide +kernel
theorem dX8_hunter_91 : decode cX8_hunter 91 = .ok (.iconst 0, 1) := by decide +kernel
theorem dX8_hunter_92 : decode cX8_hunter 92 = .ok (.invokevirtual 272, 3) := by decide +kernel
theorem dX8_hunter_95 : decode cX8_hunter 95 = .ok (.ireturn, 1) := by decide +kernel
theorem dX8_hunter_96 : decode cX8_hunter 96 = .ok (.aload_n 0, 1) := by decide +kernel
theorem dX8_hunter_97 : decode cX8_hunter 97 = .ok (.aload_n 0, 1) := by decide +kernel
theorem dX8_hunter_98 : decode cX8_hunter 98 = .ok (.getfield 7, 3) := by decide +kernel
theorem dX8_hunter_101 : decode cX8_hunter 101 = .ok (.bipush 10, 2) := by decide +kernel
theorem dX8_hunter_103 : decode cX8_hunter 103 = .ok (.iload_n 1, 1) := by decide +kernel
theorem dX8_hunter_104 : decode cX8_hunter 104 = .ok (.iadd, 1) := by decide +kernel
theorem dX8_hunter_105 : decode cX8_hunter 105 = .ok (.iaload, 1) := by decide +kernel
theorem dX8_hunter_106 : decode cX8_hunter 106 = .ok (.invokevirtual 272, 3) := by decide +kernel
theorem dX8_hunter_109 : decode cX8_hunter 109 = .ok (.ireturn, 1) := by decide +kernel
theorem dX8_hunter_110 : decode cX8_hunter 110 = .ok (.aload_n 0, 1) := by decide +kernel
theorem dX8_hunter_111 : decode cX8_hunter 111 = .ok (.aload_n 0, 1) := by decide +kernel
theorem dX8_hunter_112 : decode cX8_hunter 112 = .ok (.iload_n 1, 1) := by decide +kernel
theorem dX8_hunter_113 : decode cX8_hunter 113 = .ok (.invokevirtual 296, 3) := by decide +kernel
theorem dX8_hunter_116 : decode cX8_hunter 116 = .ok (.invokevirtual 272, 3) := by decide +kernel
theorem dX8_hunter_119 : decode cX8_hunter 119 = .ok (.ireturn, 1) := by decide +kernel
theorem dX8_hunter_120 : decode cX8_hunter 120 = .ok (.aload_n 0, 1) := by decide +kernel
theorem dX8_hunter_121 : decode cX8_hunter 121 = .ok (.aload_n 0, 1) := by decide +kernel
theorem dX8_hunter_122 : decode cX8_hunter 122 = .ok (.getfield 7, 3) := by decide +kernel
theorem dX8_hunter_125 : decode cX8_hunter 125 = .ok (.bipush 72, 2) := by decide +kernel
theorem dX8_hunter_127 : decode cX8_hunter 127 = .ok (.iload_n 1, 1) := by decide +kernel
theorem dX8_hunter_128 : decode cX8_hunter 128 = .ok (.iadd, 1) := by decide +kernel
theorem dX8_hunter_129 : decode cX8_hunter 129 = .ok (.iaload, 1) := by decide +kernel
theorem dX8_hunter_130 : decode cX8_hunter 130 = .ok (.invokevirtual 272, 3) := by decide +kernel
theorem dX8_hunter_133 : decode cX8_hunter 133 = .ok (.ireturn, 1) := by decide +kernel
theorem dX8_preferred_0 : decode cX8_preferred 0 = .ok (.aload_n 0, 1) := by decide +kernel
theorem dX8_preferred_1 : decode cX8_preferred 1 = .ok (.getfield 7, 3) := by decide +kernel
theorem dX8_preferred_4 : decode cX8_preferred 4 = .ok (.bipush 62, 2) := by decide +kernel
theorem dX8_preferred_6 : decode cX8_preferred 6 = .ok (.iload_n 1, 1) := by decide +kernel
theorem dX8_preferred_7 : decode cX8_preferred 7 = .ok (.iadd, 1) := by decide +kernel
theorem dX8_preferred_8 : decode cX8_preferred 8 = .ok (.iaload, 1) := by decide +kernel
theorem dX8_preferred_9 : decode cX8_preferred 9 = .ok (.aload_n 0, 1) := by decide +kernel
theorem dX8_preferred_10 : decode cX8_preferred 10 = .ok (.getfield 7, 3) := by decide +kernel
theorem dX8_preferred_13 : decode cX8_preferred 13 = .ok (.bipush 68, 2) := by decide +kernel
theorem dX8_preferred_15 : decode cX8_preferred 15 = .ok (.iaload, 1) := by decide +kernel
theorem dX8_preferred_16 : decode cX8_preferred 16 = .ok (.imul, 1) := by decide +kernel
theorem dX8_preferred_17 : decode cX8_preferred 17 = .ok (.bipush 100, 2) := by decide +kernel
theorem dX8_preferred_19 : decode cX8_preferred 19 = .ok (.idiv, 1) := by decide +kernel
theorem dX8_preferred_20 : decode cX8_preferred 20 = .ok (.ireturn, 1) := by decide +kernel
theorem dX8_forGuests_0 : decode cX8_forGuests 0 = .ok (.aload_n 0, 1) := by decide +kernel
theorem dX8_forGuests_1 : decode cX8_forGuests 1 = .ok (.getfield 7, 3) := by decide +kernel
theorem dX8_forGuests_4 : decode cX8_forGuests 4 = .ok (.bipush 62, 2) := by decide +kernel
theorem dX8_forGuests_6 : decode cX8_forGuests 6 = .ok (.iload_n 1, 1) := by decide +kernel
theorem dX8_forGuests_7 : decode cX8_forGuests 7 = .ok (.iadd, 1) := by decide +kernel
theorem dX8_forGuests_8 : decode cX8_forGuests 8 = .ok (.iaload, 1) := by decide +kernel
theorem dX8_forGuests_9 : decode cX8_forGuests 9 = .ok (.aload_n 0, 1) := by decide +kernel
theorem dX8_forGuests_10 : decode cX8_forGuests 10 = .ok (.getfield 7, 3) := by decide +kernel
theorem dX8_forGuests_13 : decode cX8_forGuests 13 = .ok (.bipush 69, 2) := by decide +kernel
theorem dX8_forGuests_15 : decode cX8_forGuests 15 = .ok (.iaload, 1) := by decide +kernel
theorem dX8_forGuests_16 : decode cX8_forGuests 16 = .ok (.imul, 1) := by decide +kernel
theorem dX8_forGuests_17 : decode cX8_forGuests 17 = .ok (.bipush 100, 2) := by decide +kernel
theorem dX8_forGuests_19 : decode cX8_forGuests 19 = .ok (.idiv, 1) := by decide +kernel
theorem dX8_forGuests_20 : decode cX8_forGuests 20 = .ok (.ireturn, 1) := by decide +kernel
theorem dX8_unit_0 : decode cX8_unit 0 = .ok (.iload_n 2, 1) := by decide +kernel
theorem dX8_unit_1 : decode cX8_unit 1 = .ok (.i2l, 1) := by decide +kernel
theorem dX8_unit_2 : decode cX8_unit 2 = .ok (.lconst 0, 1) := by decide +kernel
theorem dX8_unit_3 : decode cX8_unit 3 = .ok (.ldc2_w 299, 3) := by decide +kernel
theorem dX8_unit_6 : decode cX8_unit 6 = .ok (.invokestatic 128, 3) := by decide +kernel
theorem dX8_unit_9 : decode cX8_unit 9 = .ok (.ifCond .ne 9, 3) := by decide +kernel
theorem dX8_unit_12 : decode cX8_unit 12 = .ok (.aload_n 0, 1) := by decide +kernel
theorem dX8_unit_13 : decode cX8_unit 13 = .ok (.iconst 1, 1) := by decide +kernel
theorem dX8_unit_14 : decode cX8_unit 14 = .ok (.invokevirtual 263, 3) := by decide +kernel
theorem dX8_unit_17 : decode cX8_unit 17 = .ok (.ireturn, 1) := by decide +kernel
theorem dX8_unit_18 : decode cX8_unit 18 = .ok (.aload_n 0, 1) := by decide +kernel
theorem dX8_unit_19 : decode cX8_unit 19 = .ok (.iload_n 1, 1) := by decide +kernel
theorem dX8_unit_20 : decode cX8_unit 20 = .ok (.invokevirtual 301, 3) := by decide +kernel
theorem dX8_unit_23 : decode cX8_unit 23 = .ok (.ifCond .ne 9, 3) := by decide +kernel
theorem dX8_unit_26 : decode cX8_unit 26 = .ok (.aload_n 0, 1) := by decide +kernel
theorem dX8_unit_27 : decode cX8_unit 27 = .ok (.iconst 2, 1) := by decide +kernel
theorem dX8_unit_28 : decode cX8_unit 28 = .ok (.invokevirtual 263, 3) := by decide +kernel
theorem dX8_unit_31 : decode cX8_unit 31 = .ok (.ireturn, 1) := by decide +kernel
theorem dX8_unit_32 : decode cX8_unit 32 = .ok (.iload_n 2, 1) := by decide +kernel
theorem dX8_unit_33 : decode cX8_unit 33 = .ok (.iconst 3, 1) := by decide +kernel
theorem dX8_unit_34 : decode cX8_unit 34 = .ok (.if_icmp .ge 42, 3) := by decide +kernel
theorem dX8_unit_37 : decode cX8_unit 37 = .ok (.aload_n 0, 1) := by decide +kernel
theorem dX8_unit_38 : decode cX8_unit 38 = .ok (.iload_n 2, 1) := by decide +kernel
theorem dX8_unit_39 : decode cX8_unit 39 = .ok (.ifCond .ne 15, 3) := by decide +kernel
theorem dX8_unit_42 : decode cX8_unit 42 = .ok (.aload_n 0, 1) := by decide +kernel
theorem dX8_unit_43 : decode cX8_unit 43 = .ok (.getfield 7, 3) := by decide +kernel
theorem dX8_unit_46 : decode cX8_unit 46 = .ok (.bipush 62, 2) := by decide +kernel
theorem dX8_unit_48 : decode cX8_unit 48 = .ok (.iload_n 1, 1) := by decide +kernel
theorem dX8_unit_49 : decode cX8_unit 49 = .ok (.iadd, 1) := by decide +kernel
theorem dX8_unit_50 : decode cX8_unit 50 = .ok (.iaload, 1) := by decide +kernel
theorem dX8_unit_51 : decode cX8_unit 51 = .ok (.goto 21, 3) := by decide +kernel
theorem dX8_unit_54 : decode cX8_unit 54 = .ok (.iload_n 2, 1) := by decide +kernel
theorem dX8_unit_55 : decode cX8_unit 55 = .ok (.iconst 1, 1) := by decide +kernel
theorem dX8_unit_56 : decode cX8_unit 56 = .ok (.if_icmp .ne 11, 3) := by decide +kernel
theorem dX8_unit_59 : decode cX8_unit 59 = .ok (.aload_n 0, 1) := by decide +kernel
theorem dX8_unit_60 : decode cX8_unit 60 = .ok (.iload_n 1, 1) := by decide +kernel
theorem dX8_unit_61 : decode cX8_unit 61 = .ok (.invokevirtual 304, 3) := by decide +kernel
theorem dX8_unit_64 : decode cX8_unit 64 = .ok (.goto 8, 3) := by decide +kernel
theorem dX8_unit_67 : decode cX8_unit 67 = .ok (.aload_n 0, 1) := by decide +kernel
theorem dX8_unit_68 : decode cX8_unit 68 = .ok (.iload_n 1, 1) := by decide +kernel
theorem dX8_unit_69 : decode cX8_unit 69 = .ok (.invokevirtual 307, 3) := by decide +kernel
theorem dX8_unit_72 : decode cX8_unit 72 = .ok (.invokevirtual 272, 3) := by decide +kernel
theorem dX8_unit_75 : decode cX8_unit 75 = .ok (.ireturn, 1) := by decide +kernel
theorem dX8_unit_76 : decode cX8_unit 76 = .ok (.aload_n 0, 1) := by decide +kernel
theorem dX8_unit_77 : decode cX8_unit 77 = .ok (.invokevirtual 281, 3) := by decide +kernel
theorem dX8_unit_80 : decode cX8_unit 80 = .ok (.iconst 0, 1) := by decide +kernel
theorem dX8_unit_81 : decode cX8_unit 81 = .ok (.istore_n 3, 1) := by decide +kernel
theorem dX8_unit_82 : decode cX8_unit 82 = .ok (.iconst 0, 1) := by decide +kernel
theorem dX8_unit_83 : decode cX8_unit 83 = .ok (.istore 4, 2) := by decide +kernel
theorem dX8_unit_85 : decode cX8_unit 85 = .ok (.iload 4, 2) := by decide +kernel
theorem dX8_unit_87 : decode cX8_unit 87 = .ok (.aload_n 0, 1) := by decide +kernel
theorem dX8_unit_88 : decode cX8_unit 88 = .ok (.getfield 275, 3) := by decide +kernel
theorem dX8_unit_91 : decode cX8_unit 91 = .ok (.if_icmp .ge 79, 3) := by decide +kernel
theorem dX8_unit_94 : decode cX8_unit 94 = .ok (.iload_n 2, 1) := by decide +kernel
theorem dX8_unit_95 : decode cX8_unit 95 = .ok (.iconst 5, 1) := by decide +kernel
theorem dX8_unit_96 : decode cX8_unit 96 = .ok (.if_icmp .ne 22, 3) := by decide +kernel
theorem dX8_unit_99 : decode cX8_unit 99 = .ok (.aload_n 0, 1) := by decide +kernel
theorem dX8_unit_100 : decode cX8_unit 100 = .ok (.iload 4, 2) := by decide +kernel
theorem dX8_unit_102 : decode cX8_unit 102 = .ok (.iload_n 1, 1) := by decide +kernel
theorem dX8_unit_103 : decode cX8_unit 103 = .ok (.invokevirtual 310, 3) := by decide +kernel
theorem dX8_unit_106 : decode cX8_unit 106 = .ok (.iconst (-1), 1) := by decide +kernel
theorem dX8_unit_107 : decode cX8_unit 107 = .ok (.if_icmp .eq 7, 3) := by decide +kernel
theorem dX8_unit_110 : decode cX8_unit 110 = .ok (.iconst 1, 1) := by decide +kernel
theorem dX8_unit_111 : decode cX8_unit 111 = .ok (.goto 23, 3) := by decide +kernel
theorem dX8_unit_114 : decode cX8_unit 114 = .ok (.iconst 0, 1) := by decide +kernel
theorem dX8_unit_115 : decode cX8_unit 115 = .ok (.goto 19, 3) := by decide +kernel
theorem dX8_unit_118 : decode cX8_unit 118 = .ok (.aload_n 0, 1) := by decide +kernel
theorem dX8_unit_119 : decode cX8_unit 119 = .ok (.iload 4, 2) := by decide +kernel
theorem dX8_unit_121 : decode cX8_unit 121 = .ok (.iconst 0, 1) := by decide +kernel
theorem dX8_unit_122 : decode cX8_unit 122 = .ok (.invokevirtual 284, 3) := by decide +kernel
theorem dX8_unit_125 : decode cX8_unit 125 = .ok (.iload_n 1, 1) := by decide +kernel
theorem dX8_unit_126 : decode cX8_unit 126 = .ok (.if_icmp .ne 7, 3) := by decide +kernel
theorem dX8_unit_129 : decode cX8_unit 129 = .ok (.iconst 1, 1) := by decide +kernel
theorem dX8_unit_130 : decode cX8_unit 130 = .ok (.goto 4, 3) := by decide +kernel
theorem dX8_unit_133 : decode cX8_unit 133 = .ok (.iconst 0, 1) := by decide +kernel
theorem dX8_unit_134 : decode cX8_unit 134 = .ok (.istore 5, 2) := by decide +kernel
theorem dX8_unit_136 : decode cX8_unit 136 = .ok (.iload_n 3, 1) := by decide +kernel
theorem dX8_unit_137 : decode cX8_unit 137 = .ok (.iload 5, 2) := by decide +kernel
theorem dX8_unit_139 : decode cX8_unit 139 = .ok (.ifCond .eq 22, 3) := by decide +kernel
theorem dX8_unit_142 : decode cX8_unit 142 = .ok (.iload_n 2, 1) := by decide +kernel
theorem dX8_unit_143 : decode cX8_unit 143 = .ok (.iconst 4, 1) := by decide +kernel
theorem dX8_unit_144 : decode cX8_unit 144 = .ok (.if_icmp .ne 13, 3) := by decide +kernel
theorem dX8_unit_147 : decode cX8_unit 147 = .ok (.aload_n 0, 1) := by decide +kernel
theorem dX8_unit_148 : decode cX8_unit 148 = .ok (.getfield 58, 3) := by decide +kernel
theorem dX8_unit_151 : decode cX8_unit 151 = .ok (.iload 4, 2) := by decide +kernel
theorem dX8_unit_153 : decode cX8_unit 153 = .ok (.iaload, 1) := by decide +kernel
theorem dX8_unit_154 : decode cX8_unit 154 = .ok (.goto 8, 3) := by decide +kernel
theorem dX8_unit_157 : decode cX8_unit 157 = .ok (.iconst 1, 1) := by decide +kernel
theorem dX8_unit_158 : decode cX8_unit 158 = .ok (.goto 4, 3) := by decide +kernel
theorem dX8_unit_161 : decode cX8_unit 161 = .ok (.iconst 0, 1) := by decide +kernel
theorem dX8_unit_162 : decode cX8_unit 162 = .ok (.iadd, 1) := by decide +kernel
theorem dX8_unit_163 : decode cX8_unit 163 = .ok (.istore_n 3, 1) := by decide +kernel
theorem dX8_unit_164 : decode cX8_unit 164 = .ok (.iinc 4 1, 3) := by decide +kernel
theorem dX8_unit_167 : decode cX8_unit 167 = .ok (.goto (-82), 3) := by decide +kernel
theorem dX8_unit_170 : decode cX8_unit 170 = .ok (.aload_n 0, 1) := by decide +kernel
theorem dX8_unit_171 : decode cX8_unit 171 = .ok (.iload_n 3, 1) := by decide +kernel
theorem dX8_unit_172 : decode cX8_unit 172 = .ok (.invokevirtual 272, 3) := by decide +kernel
theorem dX8_unit_175 : decode cX8_unit 175 = .ok (.ireturn, 1) := by decide +kernel
theorem dX8_applicant_0 : decode cX8_applicant 0 = .ok (.iload_n 2, 1) := by decide +kernel
theorem dX8_applicant_1 : decode cX8_applicant 1 = .ok (.i2l, 1) := by decide +kernel
theorem dX8_applicant_2 : decode cX8_applicant 2 = .ok (.lconst 0, 1) := by decide +kernel
theorem dX8_applicant_3 : decode cX8_applicant 3 = .ok (.ldc2_w 313, 3) := by decide +kernel
theorem dX8_applicant_6 : decode cX8_applicant 6 = .ok (.invokestatic 128, 3) := by decide +kernel
theorem dX8_applicant_9 : decode cX8_applicant 9 = .ok (.ifCond .ne 9, 3) := by decide +kernel
theorem dX8_applicant_12 : decode cX8_applicant 12 = .ok (.aload_n 0, 1) := by decide +kernel
theorem dX8_applicant_13 : decode cX8_applicant 13 = .ok (.iconst 1, 1) := by decide +kernel
theorem dX8_applicant_14 : decode cX8_applicant 14 = .ok (.invokevirtual 263, 3) := by decide +kernel
theorem dX8_applicant_17 : decode cX8_applicant 17 = .ok (.ireturn, 1) := by decide +kernel
theorem dX8_applicant_18 : decode cX8_applicant 18 = .ok (.aload_n 0, 1) := by decide +kernel
theorem dX8_applicant_19 : decode cX8_applicant 19 = .ok (.iload_n 1, 1) := by decide +kernel
theorem dX8_applicant_20 : decode cX8_applicant 20 = .ok (.invokevirtual 315, 3) := by decide +kernel
theorem dX8_applicant_23 : decode cX8_applicant 23 = .ok (.ifCond .ne 9, 3) := by decide +kernel
theorem dX8_applicant_26 : decode cX8_applicant 26 = .ok (.aload_n 0, 1) := by decide +kernel
theorem dX8_applicant_27 : decode cX8_applicant 27 = .ok (.iconst 2, 1) := by decide +kernel
theorem dX8_applicant_28 : decode cX8_applicant 28 = .ok (.invokevirtual 263, 3) := by decide +kernel
theorem dX8_applicant_31 : decode cX8_applicant 31 = .ok (.ireturn, 1) := by decide +kernel
theorem dX8_applicant_32 : decode cX8_applicant 32 = .ok (.iload_n 2, 1) := by decide +kernel
theorem dX8_applicant_33 : decode cX8_applicant 33 = .ok (.tableswitch 104 0 5 #[39, 50, 61, 72, 83, 93], 39) := by decide +kernel
theorem dX8_applicant_72 : decode cX8_applicant 72 = .ok (.aload_n 0, 1) := by decide +kernel
theorem dX8_applicant_73 : decode cX8_applicant 73 = .ok (.aload_n 0, 1) := by decide +kernel
theorem dX8_applicant_74 : decode cX8_applicant 74 = .ok (.getfield 58, 3) := by decide +kernel
theorem dX8_applicant_77 : decode cX8_applicant 77 = .ok (.iload_n 1, 1) := by decide +kernel
theorem dX8_applicant_78 : decode cX8_applicant 78 = .ok (.iaload, 1) := by decide +kernel
theorem dX8_applicant_79 : decode cX8_applicant 79 = .ok (.invokevirtual 272, 3) := by decide +kernel
theorem dX8_applicant_82 : decode cX8_applicant 82 = .ok (.ireturn, 1) := by decide +kernel
theorem dX8_applicant_83 : decode cX8_applicant 83 = .ok (.aload_n 0, 1) := by decide +kernel
theorem dX8_applicant_84 : decode cX8_applicant 84 = .ok (.aload_n 0, 1) := by decide +kernel
theorem dX8_applicant_85 : decode cX8_applicant 85 = .ok (.getfield 61, 3) := by decide +kernel
theorem dX8_applicant_88 : decode cX8_applicant 88 = .ok (.iload_n 1, 1) := by decide +kernel
theorem dX8_applicant_89 : decode cX8_applicant 89 = .ok (.iaload, 1) := by decide +kernel
theorem dX8_applicant_90 : decode cX8_applicant 90 = .ok (.invokevirtual 272, 3) := by decide +kernel
theorem dX8_applicant_93 : decode cX8_applicant 93 = .ok (.ireturn, 1) := by decide +kernel
theorem dX8_applicant_94 : decode cX8_applicant 94 = .ok (.aload_n 0, 1) := by decide +kernel
