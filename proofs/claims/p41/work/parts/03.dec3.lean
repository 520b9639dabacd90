theorem dX8_applicant_95 : decode cX8_applicant 95 = .ok (.aload_n 0, 1) := by decide +kernel
theorem dX8_applicant_96 : decode cX8_applicant 96 = .ok (.getfield 64, 3) := by decide +kernel
theorem dX8_applicant_99 : decode cX8_applicant 99 = .ok (.iload_n 1, 1) := by decide +kernel
theorem dX8_applicant_100 : decode cX8_applicant 100 = .ok (.iaload, 1) := by decide +kernel
theorem dX8_applicant_101 : decode cX8_applicant 101 = .ok (.invokevirtual 272, 3) := by decide +kernel
theorem dX8_applicant_104 : decode cX8_applicant 104 = .ok (.ireturn, 1) := by decide +kernel
theorem dX8_applicant_105 : decode cX8_applicant 105 = .ok (.aload_n 0, 1) := by decide +kernel
theorem dX8_applicant_106 : decode cX8_applicant 106 = .ok (.aload_n 0, 1) := by decide +kernel
theorem dX8_applicant_107 : decode cX8_applicant 107 = .ok (.getfield 67, 3) := by decide +kernel
theorem dX8_applicant_110 : decode cX8_applicant 110 = .ok (.iload_n 1, 1) := by decide +kernel
theorem dX8_applicant_111 : decode cX8_applicant 111 = .ok (.iaload, 1) := by decide +kernel
theorem dX8_applicant_112 : decode cX8_applicant 112 = .ok (.invokevirtual 272, 3) := by decide +kernel
theorem dX8_applicant_115 : decode cX8_applicant 115 = .ok (.ireturn, 1) := by decide +kernel
theorem dX8_applicant_116 : decode cX8_applicant 116 = .ok (.aload_n 0, 1) := by decide +kernel
theorem dX8_applicant_117 : decode cX8_applicant 117 = .ok (.aload_n 0, 1) := by decide +kernel
theorem dX8_applicant_118 : decode cX8_applicant 118 = .ok (.iload_n 1, 1) := by decide +kernel
theorem dX8_applicant_119 : decode cX8_applicant 119 = .ok (.invokevirtual 288, 3) := by decide +kernel
theorem dX8_applicant_122 : decode cX8_applicant 122 = .ok (.invokevirtual 272, 3) := by decide +kernel
theorem dX8_applicant_125 : decode cX8_applicant 125 = .ok (.ireturn, 1) := by decide +kernel
theorem dX8_applicant_126 : decode cX8_applicant 126 = .ok (.aload_n 0, 1) := by decide +kernel
theorem dX8_applicant_127 : decode cX8_applicant 127 = .ok (.aload_n 0, 1) := by decide +kernel
theorem dX8_applicant_128 : decode cX8_applicant 128 = .ok (.getfield 49, 3) := by decide +kernel
theorem dX8_applicant_131 : decode cX8_applicant 131 = .ok (.iload_n 1, 1) := by decide +kernel
theorem dX8_applicant_132 : decode cX8_applicant 132 = .ok (.iaload, 1) := by decide +kernel
theorem dX8_applicant_133 : decode cX8_applicant 133 = .ok (.invokevirtual 272, 3) := by decide +kernel
theorem dX8_applicant_136 : decode cX8_applicant 136 = .ok (.ireturn, 1) := by decide +kernel
theorem dX8_applicant_137 : decode cX8_applicant 137 = .ok (.aload_n 0, 1) := by decide +kernel
theorem dX8_applicant_138 : decode cX8_applicant 138 = .ok (.aload_n 0, 1) := by decide +kernel
theorem dX8_applicant_139 : decode cX8_applicant 139 = .ok (.getfield 52, 3) := by decide +kernel
theorem dX8_applicant_142 : decode cX8_applicant 142 = .ok (.iload_n 1, 1) := by decide +kernel
theorem dX8_applicant_143 : decode cX8_applicant 143 = .ok (.iaload, 1) := by decide +kernel
theorem dX8_applicant_144 : decode cX8_applicant 144 = .ok (.invokevirtual 272, 3) := by decide +kernel
theorem dX8_applicant_147 : decode cX8_applicant 147 = .ok (.ireturn, 1) := by decide +kernel
theorem dX8_choice_0 : decode cX8_choice 0 = .ok (.iload_n 2, 1) := by decide +kernel
theorem dX8_choice_1 : decode cX8_choice 1 = .ok (.ifCond .ge 9, 3) := by decide +kernel
theorem dX8_choice_4 : decode cX8_choice 4 = .ok (.aload_n 0, 1) := by decide +kernel
theorem dX8_choice_5 : decode cX8_choice 5 = .ok (.iconst 1, 1) := by decide +kernel
theorem dX8_choice_6 : decode cX8_choice 6 = .ok (.invokevirtual 263, 3) := by decide +kernel
theorem dX8_choice_9 : decode cX8_choice 9 = .ok (.ireturn, 1) := by decide +kernel
theorem dX8_choice_10 : decode cX8_choice 10 = .ok (.aload_n 0, 1) := by decide +kernel
theorem dX8_choice_11 : decode cX8_choice 11 = .ok (.iload_n 1, 1) := by decide +kernel
theorem dX8_choice_12 : decode cX8_choice 12 = .ok (.invokevirtual 315, 3) := by decide +kernel
theorem dX8_choice_15 : decode cX8_choice 15 = .ok (.ifCond .ne 9, 3) := by decide +kernel
theorem dX8_choice_18 : decode cX8_choice 18 = .ok (.aload_n 0, 1) := by decide +kernel
theorem dX8_choice_19 : decode cX8_choice 19 = .ok (.iconst 2, 1) := by decide +kernel
theorem dX8_choice_20 : decode cX8_choice 20 = .ok (.invokevirtual 263, 3) := by decide +kernel
theorem dX8_choice_23 : decode cX8_choice 23 = .ok (.ireturn, 1) := by decide +kernel
theorem dX8_choice_24 : decode cX8_choice 24 = .ok (.iload_n 2, 1) := by decide +kernel
theorem dX8_choice_25 : decode cX8_choice 25 = .ok (.aload_n 0, 1) := by decide +kernel
theorem dX8_choice_26 : decode cX8_choice 26 = .ok (.iload_n 1, 1) := by decide +kernel
theorem dX8_choice_27 : decode cX8_choice 27 = .ok (.invokevirtual 288, 3) := by decide +kernel
theorem dX8_choice_30 : decode cX8_choice 30 = .ok (.if_icmp .ge 16, 3) := by decide +kernel
theorem dX8_choice_33 : decode cX8_choice 33 = .ok (.aload_n 0, 1) := by decide +kernel
theorem dX8_choice_34 : decode cX8_choice 34 = .ok (.aload_n 0, 1) := by decide +kernel
theorem dX8_choice_35 : decode cX8_choice 35 = .ok (.iload_n 1, 1) := by decide +kernel
theorem dX8_choice_36 : decode cX8_choice 36 = .ok (.iload_n 2, 1) := by decide +kernel
theorem dX8_choice_37 : decode cX8_choice 37 = .ok (.invokevirtual 284, 3) := by decide +kernel
theorem dX8_choice_40 : decode cX8_choice 40 = .ok (.invokevirtual 272, 3) := by decide +kernel
theorem dX8_choice_43 : decode cX8_choice 43 = .ok (.goto 8, 3) := by decide +kernel
theorem dX8_choice_46 : decode cX8_choice 46 = .ok (.aload_n 0, 1) := by decide +kernel
theorem dX8_choice_47 : decode cX8_choice 47 = .ok (.iconst 5, 1) := by decide +kernel
theorem dX8_choice_48 : decode cX8_choice 48 = .ok (.invokevirtual 263, 3) := by decide +kernel
theorem dX8_choice_51 : decode cX8_choice 51 = .ok (.ireturn, 1) := by decide +kernel
theorem dX8_term_0 : decode cX8_term 0 = .ok (.iload_n 1, 1) := by decide +kernel
theorem dX8_term_1 : decode cX8_term 1 = .ok (.iload_n 2, 1) := by decide +kernel
theorem dX8_term_2 : decode cX8_term 2 = .ok (.invokestatic 318, 3) := by decide +kernel
theorem dX8_term_5 : decode cX8_term 5 = .ok (.istore 4, 2) := by decide +kernel
theorem dX8_term_7 : decode cX8_term 7 = .ok (.aload_n 0, 1) := by decide +kernel
theorem dX8_term_8 : decode cX8_term 8 = .ok (.iload_n 3, 1) := by decide +kernel
theorem dX8_term_9 : decode cX8_term 9 = .ok (.ifCond .ne 10, 3) := by decide +kernel
theorem dX8_term_12 : decode cX8_term 12 = .ok (.iload_n 1, 1) := by decide +kernel
theorem dX8_term_13 : decode cX8_term 13 = .ok (.iload 4, 2) := by decide +kernel
theorem dX8_term_15 : decode cX8_term 15 = .ok (.idiv, 1) := by decide +kernel
theorem dX8_term_16 : decode cX8_term 16 = .ok (.goto 7, 3) := by decide +kernel
theorem dX8_term_19 : decode cX8_term 19 = .ok (.iload_n 2, 1) := by decide +kernel
theorem dX8_term_20 : decode cX8_term 20 = .ok (.iload 4, 2) := by decide +kernel
theorem dX8_term_22 : decode cX8_term 22 = .ok (.idiv, 1) := by decide +kernel
theorem dX8_term_23 : decode cX8_term 23 = .ok (.invokevirtual 272, 3) := by decide +kernel
theorem dX8_term_26 : decode cX8_term 26 = .ok (.ireturn, 1) := by decide +kernel
theorem dX8_demand_0 : decode cX8_demand 0 = .ok (.iload_n 2, 1) := by decide +kernel
theorem dX8_demand_1 : decode cX8_demand 1 = .ok (.i2l, 1) := by decide +kernel
theorem dX8_demand_2 : decode cX8_demand 2 = .ok (.lconst 0, 1) := by decide +kernel
theorem dX8_demand_3 : decode cX8_demand 3 = .ok (.lconst 1, 1) := by decide +kernel
theorem dX8_demand_4 : decode cX8_demand 4 = .ok (.invokestatic 128, 3) := by decide +kernel
theorem dX8_demand_7 : decode cX8_demand 7 = .ok (.ifCond .ne 9, 3) := by decide +kernel
theorem dX8_demand_10 : decode cX8_demand 10 = .ok (.aload_n 0, 1) := by decide +kernel
theorem dX8_demand_11 : decode cX8_demand 11 = .ok (.iconst 1, 1) := by decide +kernel
theorem dX8_demand_12 : decode cX8_demand 12 = .ok (.invokevirtual 263, 3) := by decide +kernel
theorem dX8_demand_15 : decode cX8_demand 15 = .ok (.ireturn, 1) := by decide +kernel
theorem dX8_demand_16 : decode cX8_demand 16 = .ok (.aload_n 0, 1) := by decide +kernel
theorem dX8_demand_17 : decode cX8_demand 17 = .ok (.iload_n 1, 1) := by decide +kernel
theorem dX8_demand_18 : decode cX8_demand 18 = .ok (.invokevirtual 301, 3) := by decide +kernel
theorem dX8_demand_21 : decode cX8_demand 21 = .ok (.ifCond .ne 9, 3) := by decide +kernel
theorem dX8_demand_24 : decode cX8_demand 24 = .ok (.aload_n 0, 1) := by decide +kernel
theorem dX8_demand_25 : decode cX8_demand 25 = .ok (.iconst 2, 1) := by decide +kernel
theorem dX8_demand_26 : decode cX8_demand 26 = .ok (.invokevirtual 263, 3) := by decide +kernel
theorem dX8_demand_29 : decode cX8_demand 29 = .ok (.ireturn, 1) := by decide +kernel
theorem dX8_demand_30 : decode cX8_demand 30 = .ok (.aload_n 0, 1) := by decide +kernel
theorem dX8_demand_31 : decode cX8_demand 31 = .ok (.getfield 7, 3) := by decide +kernel
theorem dX8_demand_34 : decode cX8_demand 34 = .ok (.bipush 62, 2) := by decide +kernel
theorem dX8_demand_36 : decode cX8_demand 36 = .ok (.iload_n 1, 1) := by decide +kernel
theorem dX8_demand_37 : decode cX8_demand 37 = .ok (.iadd, 1) := by decide +kernel
theorem dX8_demand_38 : decode cX8_demand 38 = .ok (.iaload, 1) := by decide +kernel
theorem dX8_demand_39 : decode cX8_demand 39 = .ok (.ifCond .ne 9, 3) := by decide +kernel
theorem dX8_demand_42 : decode cX8_demand 42 = .ok (.aload_n 0, 1) := by decide +kernel
theorem dX8_demand_43 : decode cX8_demand 43 = .ok (.iconst 5, 1) := by decide +kernel
theorem dX8_demand_44 : decode cX8_demand 44 = .ok (.invokevirtual 263, 3) := by decide +kernel
theorem dX8_demand_47 : decode cX8_demand 47 = .ok (.ireturn, 1) := by decide +kernel
theorem dX8_demand_48 : decode cX8_demand 48 = .ok (.aload_n 0, 1) := by decide +kernel
theorem dX8_demand_49 : decode cX8_demand 49 = .ok (.invokevirtual 281, 3) := by decide +kernel
theorem dX8_demand_52 : decode cX8_demand 52 = .ok (.iconst 0, 1) := by decide +kernel
theorem dX8_demand_53 : decode cX8_demand 53 = .ok (.istore_n 3, 1) := by decide +kernel
theorem dX8_demand_54 : decode cX8_demand 54 = .ok (.iconst 0, 1) := by decide +kernel
theorem dX8_demand_55 : decode cX8_demand 55 = .ok (.istore 4, 2) := by decide +kernel
theorem dX8_demand_57 : decode cX8_demand 57 = .ok (.iload 4, 2) := by decide +kernel
theorem dX8_demand_59 : decode cX8_demand 59 = .ok (.aload_n 0, 1) := by decide +kernel
theorem dX8_demand_60 : decode cX8_demand 60 = .ok (.getfield 275, 3) := by decide +kernel
theorem dX8_demand_63 : decode cX8_demand 63 = .ok (.if_icmp .ge 34, 3) := by decide +kernel
theorem dX8_demand_66 : decode cX8_demand 66 = .ok (.iload_n 3, 1) := by decide +kernel
theorem dX8_demand_67 : decode cX8_demand 67 = .ok (.aload_n 0, 1) := by decide +kernel
theorem dX8_demand_68 : decode cX8_demand 68 = .ok (.iload 4, 2) := by decide +kernel
theorem dX8_demand_70 : decode cX8_demand 70 = .ok (.iconst 0, 1) := by decide +kernel
theorem dX8_demand_71 : decode cX8_demand 71 = .ok (.invokevirtual 284, 3) := by decide +kernel
theorem dX8_demand_74 : decode cX8_demand 74 = .ok (.iload_n 1, 1) := by decide +kernel
theorem dX8_demand_75 : decode cX8_demand 75 = .ok (.if_icmp .ne 13, 3) := by decide +kernel
theorem dX8_demand_78 : decode cX8_demand 78 = .ok (.aload_n 0, 1) := by decide +kernel
theorem dX8_demand_79 : decode cX8_demand 79 = .ok (.getfield 58, 3) := by decide +kernel
theorem dX8_demand_82 : decode cX8_demand 82 = .ok (.iload 4, 2) := by decide +kernel
theorem dX8_demand_84 : decode cX8_demand 84 = .ok (.iaload, 1) := by decide +kernel
theorem dX8_demand_85 : decode cX8_demand 85 = .ok (.goto 4, 3) := by decide +kernel
theorem dX8_demand_88 : decode cX8_demand 88 = .ok (.iconst 0, 1) := by decide +kernel
theorem dX8_demand_89 : decode cX8_demand 89 = .ok (.iadd, 1) := by decide +kernel
theorem dX8_demand_90 : decode cX8_demand 90 = .ok (.istore_n 3, 1) := by decide +kernel
theorem dX8_demand_91 : decode cX8_demand 91 = .ok (.iinc 4 1, 3) := by decide +kernel
theorem dX8_demand_94 : decode cX8_demand 94 = .ok (.goto (-37), 3) := by decide +kernel
theorem dX8_demand_97 : decode cX8_demand 97 = .ok (.aload_n 0, 1) := by decide +kernel
theorem dX8_demand_98 : decode cX8_demand 98 = .ok (.iload_n 3, 1) := by decide +kernel
theorem dX8_demand_99 : decode cX8_demand 99 = .ok (.aload_n 0, 1) := by decide +kernel
theorem dX8_demand_100 : decode cX8_demand 100 = .ok (.getfield 7, 3) := by decide +kernel
theorem dX8_demand_103 : decode cX8_demand 103 = .ok (.bipush 62, 2) := by decide +kernel
theorem dX8_demand_105 : decode cX8_demand 105 = .ok (.iload_n 1, 1) := by decide +kernel
theorem dX8_demand_106 : decode cX8_demand 106 = .ok (.iadd, 1) := by decide +kernel
theorem dX8_demand_107 : decode cX8_demand 107 = .ok (.iaload, 1) := by decide +kernel
theorem dX8_demand_108 : decode cX8_demand 108 = .ok (.iload_n 2, 1) := by decide +kernel
theorem dX8_demand_109 : decode cX8_demand 109 = .ok (.invokevirtual 321, 3) := by decide +kernel
theorem dX8_demand_112 : decode cX8_demand 112 = .ok (.ireturn, 1) := by decide +kernel
theorem dX8_share_0 : decode cX8_share 0 = .ok (.iload_n 2, 1) := by decide +kernel
theorem dX8_share_1 : decode cX8_share 1 = .ok (.i2l, 1) := by decide +kernel
theorem dX8_share_2 : decode cX8_share 2 = .ok (.lconst 0, 1) := by decide +kernel
theorem dX8_share_3 : decode cX8_share 3 = .ok (.lconst 1, 1) := by decide +kernel
theorem dX8_share_4 : decode cX8_share 4 = .ok (.invokestatic 128, 3) := by decide +kernel
theorem dX8_share_7 : decode cX8_share 7 = .ok (.ifCond .ne 9, 3) := by decide +kernel
theorem dX8_share_10 : decode cX8_share 10 = .ok (.aload_n 0, 1) := by decide +kernel
theorem dX8_share_11 : decode cX8_share 11 = .ok (.iconst 1, 1) := by decide +kernel
theorem dX8_share_12 : decode cX8_share 12 = .ok (.invokevirtual 263, 3) := by decide +kernel
theorem dX8_share_15 : decode cX8_share 15 = .ok (.ireturn, 1) := by decide +kernel
theorem dX8_share_16 : decode cX8_share 16 = .ok (.aload_n 0, 1) := by decide +kernel
theorem dX8_share_17 : decode cX8_share 17 = .ok (.iload_n 1, 1) := by decide +kernel
theorem dX8_share_18 : decode cX8_share 18 = .ok (.invokevirtual 315, 3) := by decide +kernel
theorem dX8_share_21 : decode cX8_share 21 = .ok (.ifCond .ne 9, 3) := by decide +kernel
theorem dX8_share_24 : decode cX8_share 24 = .ok (.aload_n 0, 1) := by decide +kernel
theorem dX8_share_25 : decode cX8_share 25 = .ok (.iconst 2, 1) := by decide +kernel
theorem dX8_share_26 : decode cX8_share 26 = .ok (.invokevirtual 263, 3) := by decide +kernel
theorem dX8_share_29 : decode cX8_share 29 = .ok (.ireturn, 1) := by decide +kernel
theorem dX8_share_30 : decode cX8_share 30 = .ok (.iconst 0, 1) := by decide +kernel
theorem dX8_share_31 : decode cX8_share 31 = .ok (.istore_n 3, 1) := by decide +kernel
theorem dX8_share_32 : decode cX8_share 32 = .ok (.iconst 0, 1) := by decide +kernel
theorem dX8_share_33 : decode cX8_share 33 = .ok (.istore 4, 2) := by decide +kernel
theorem dX8_share_35 : decode cX8_share 35 = .ok (.iload 4, 2) := by decide +kernel
theorem dX8_share_37 : decode cX8_share 37 = .ok (.aload_n 0, 1) := by decide +kernel
theorem dX8_share_38 : decode cX8_share 38 = .ok (.getfield 275, 3) := by decide +kernel
theorem dX8_share_41 : decode cX8_share 41 = .ok (.if_icmp .ge 19, 3) := by decide +kernel
theorem dX8_share_44 : decode cX8_share 44 = .ok (.iload_n 3, 1) := by decide +kernel
theorem dX8_share_45 : decode cX8_share 45 = .ok (.aload_n 0, 1) := by decide +kernel
theorem dX8_share_46 : decode cX8_share 46 = .ok (.getfield 67, 3) := by decide +kernel
theorem dX8_share_49 : decode cX8_share 49 = .ok (.iload 4, 2) := by decide +kernel
theorem dX8_share_51 : decode cX8_share 51 = .ok (.iaload, 1) := by decide +kernel
theorem dX8_share_52 : decode cX8_share 52 = .ok (.iadd, 1) := by decide +kernel
theorem dX8_share_53 : decode cX8_share 53 = .ok (.istore_n 3, 1) := by decide +kernel
theorem dX8_share_54 : decode cX8_share 54 = .ok (.iinc 4 1, 3) := by decide +kernel
theorem dX8_share_57 : decode cX8_share 57 = .ok (.goto (-22), 3) := by decide +kernel
theorem dX8_share_60 : decode cX8_share 60 = .ok (.aload_n 0, 1) := by decide +kernel
theorem dX8_share_61 : decode cX8_share 61 = .ok (.aload_n 0, 1) := by decide +kernel
theorem dX8_share_62 : decode cX8_share 62 = .ok (.getfield 67, 3) := by decide +kernel
theorem dX8_share_65 : decode cX8_share 65 = .ok (.iload_n 1, 1) := by decide +kernel
theorem dX8_share_66 : decode cX8_share 66 = .ok (.iaload, 1) := by decide +kernel
theorem dX8_share_67 : decode cX8_share 67 = .ok (.iload_n 3, 1) := by decide +kernel
theorem dX8_share_68 : decode cX8_share 68 = .ok (.iload_n 2, 1) := by decide +kernel
theorem dX8_share_69 : decode cX8_share 69 = .ok (.invokevirtual 321, 3) := by decide +kernel
theorem dX8_share_72 : decode cX8_share 72 = .ok (.ireturn, 1) := by decide +kernel
theorem dX8_gets_0 : decode cX8_gets 0 = .ok (.aload_n 0, 1) := by decide +kernel
theorem dX8_gets_1 : decode cX8_gets 1 = .ok (.getfield 73, 3) := by decide +kernel
theorem dX8_gets_4 : decode cX8_gets 4 = .ok (.iload_n 1, 1) := by decide +kernel
theorem dX8_gets_5 : decode cX8_gets 5 = .ok (.iload_n 2, 1) := by decide +kernel
theorem dX8_gets_6 : decode cX8_gets 6 = .ok (.iastore, 1) := by decide +kernel
theorem dX8_gets_7 : decode cX8_gets 7 = .ok (.aload_n 0, 1) := by decide +kernel
theorem dX8_gets_8 : decode cX8_gets 8 = .ok (.getfield 76, 3) := by decide +kernel
theorem dX8_gets_11 : decode cX8_gets 11 = .ok (.iload_n 1, 1) := by decide +kernel
theorem dX8_gets_12 : decode cX8_gets 12 = .ok (.iload_n 3, 1) := by decide +kernel
theorem dX8_gets_13 : decode cX8_gets 13 = .ok (.iastore, 1) := by decide +kernel
theorem dX8_gets_14 : decode cX8_gets 14 = .ok (.aload_n 0, 1) := by decide +kernel
theorem dX8_gets_15 : decode cX8_gets 15 = .ok (.getfield 79, 3) := by decide +kernel
theorem dX8_gets_18 : decode cX8_gets 18 = .ok (.iload_n 2, 1) := by decide +kernel
theorem dX8_gets_19 : decode cX8_gets 19 = .ok (.dup2, 1) := by decide +kernel
theorem dX8_gets_20 : decode cX8_gets 20 = .ok (.iaload, 1) := by decide +kernel
theorem dX8_gets_21 : decode cX8_gets 21 = .ok (.aload_n 0, 1) := by decide +kernel
theorem dX8_gets_22 : decode cX8_gets 22 = .ok (.getfield 58, 3) := by decide +kernel
theorem dX8_gets_25 : decode cX8_gets 25 = .ok (.iload_n 1, 1) := by decide +kernel
theorem dX8_gets_26 : decode cX8_gets 26 = .ok (.iaload, 1) := by decide +kernel
theorem dX8_gets_27 : decode cX8_gets 27 = .ok (.isub, 1) := by decide +kernel
theorem dX8_gets_28 : decode cX8_gets 28 = .ok (.iastore, 1) := by decide +kernel
theorem dX8_gets_29 : decode cX8_gets 29 = .ok (.aload_n 0, 1) := by decide +kernel
theorem dX8_gets_30 : decode cX8_gets 30 = .ok (.getfield 82, 3) := by decide +kernel
theorem dX8_gets_33 : decode cX8_gets 33 = .ok (.iload_n 2, 1) := by decide +kernel
theorem dX8_gets_34 : decode cX8_gets 34 = .ok (.dup2, 1) := by decide +kernel
theorem dX8_gets_35 : decode cX8_gets 35 = .ok (.iaload, 1) := by decide +kernel
theorem dX8_gets_36 : decode cX8_gets 36 = .ok (.aload_n 0, 1) := by decide +kernel
theorem dX8_gets_37 : decode cX8_gets 37 = .ok (.getfield 61, 3) := by decide +kernel
theorem dX8_gets_40 : decode cX8_gets 40 = .ok (.iload_n 1, 1) := by decide +kernel
theorem dX8_gets_41 : decode cX8_gets 41 = .ok (.iaload, 1) := by decide +kernel
theorem dX8_gets_42 : decode cX8_gets 42 = .ok (.isub, 1) := by decide +kernel
theorem dX8_gets_43 : decode cX8_gets 43 = .ok (.iastore, 1) := by decide +kernel
theorem dX8_gets_44 : decode cX8_gets 44 = .ok (.return_, 1) := by decide +kernel
theorem dX8_fits_0 : decode cX8_fits 0 = .ok (.aload_n 0, 1) := by decide +kernel
theorem dX8_fits_1 : decode cX8_fits 1 = .ok (.getfield 58, 3) := by decide +kernel
theorem dX8_fits_4 : decode cX8_fits 4 = .ok (.iload_n 1, 1) := by decide +kernel
theorem dX8_fits_5 : decode cX8_fits 5 = .ok (.iaload, 1) := by decide +kernel
theorem dX8_fits_6 : decode cX8_fits 6 = .ok (.iload_n 3, 1) := by decide +kernel
theorem dX8_fits_7 : decode cX8_fits 7 = .ok (.if_icmp .gt 22, 3) := by decide +kernel
theorem dX8_fits_10 : decode cX8_fits 10 = .ok (.aload_n 0, 1) := by decide +kernel
theorem dX8_fits_11 : decode cX8_fits 11 = .ok (.getfield 61, 3) := by decide +kernel
theorem dX8_fits_14 : decode cX8_fits 14 = .ok (.iload_n 1, 1) := by decide +kernel
theorem dX8_fits_15 : decode cX8_fits 15 = .ok (.iaload, 1) := by decide +kernel
theorem dX8_fits_16 : decode cX8_fits 16 = .ok (.aload_n 0, 1) := by decide +kernel
theorem dX8_fits_17 : decode cX8_fits 17 = .ok (.getfield 82, 3) := by decide +kernel
theorem dX8_fits_20 : decode cX8_fits 20 = .ok (.iload_n 2, 1) := by decide +kernel
theorem dX8_fits_21 : decode cX8_fits 21 = .ok (.iaload, 1) := by decide +kernel
theorem dX8_fits_22 : decode cX8_fits 22 = .ok (.if_icmp .gt 7, 3) := by decide +kernel
theorem dX8_fits_25 : decode cX8_fits 25 = .ok (.iconst 1, 1) := by decide +kernel
theorem dX8_fits_26 : decode cX8_fits 26 = .ok (.goto 4, 3) := by decide +kernel
theorem dX8_fits_29 : decode cX8_fits 29 = .ok (.iconst 0, 1) := by decide +kernel
theorem dX8_fits_30 : decode cX8_fits 30 = .ok (.ireturn, 1) := by decide +kernel
theorem dX8_results_0 : decode cX8_results 0 = .ok (.iconst 0, 1) := by decide +kernel
theorem dX8_results_1 : decode cX8_results 1 = .ok (.istore_n 2, 1) := by decide +kernel
theorem dX8_results_2 : decode cX8_results 2 = .ok (.iload_n 2, 1) := by decide +kernel
theorem dX8_results_3 : decode cX8_results 3 = .ok (.aload_n 0, 1) := by decide +kernel
theorem dX8_results_4 : decode cX8_results 4 = .ok (.getfield 275, 3) := by decide +kernel
theorem dX8_results_7 : decode cX8_results 7 = .ok (.if_icmp .ge 23, 3) := by decide +kernel
theorem dX8_results_10 : decode cX8_results 10 = .ok (.aload_n 0, 1) := by decide +kernel
theorem dX8_results_11 : decode cX8_results 11 = .ok (.getfield 73, 3) := by decide +kernel
theorem dX8_results_14 : decode cX8_results 14 = .ok (.iload_n 2, 1) := by decide +kernel
theorem dX8_results_15 : decode cX8_results 15 = .ok (.iconst (-1), 1) := by decide +kernel
theorem dX8_results_16 : decode cX8_results 16 = .ok (.iastore, 1) := by decide +kernel
theorem dX8_results_17 : decode cX8_results 17 = .ok (.aload_n 0, 1) := by decide +kernel
theorem dX8_results_18 : decode cX8_results 18 = .ok (.getfield 76, 3) := by decide +kernel
theorem dX8_results_21 : decode cX8_results 21 = .ok (.iload_n 2, 1) := by decide +kernel
theorem dX8_results_22 : decode cX8_results 22 = .ok (.iconst 0, 1) := by decide +kernel
theorem dX8_results_23 : decode cX8_results 23 = .ok (.iastore, 1) := by decide +kernel
theorem dX8_results_24 : decode cX8_results 24 = .ok (.iinc 2 1, 3) := by decide +kernel
theorem dX8_results_27 : decode cX8_results 27 = .ok (.goto (-25), 3) := by decide +kernel
theorem dX8_results_30 : decode cX8_results 30 = .ok (.iconst 0, 1) := by decide +kernel
theorem dX8_results_31 : decode cX8_results 31 = .ok (.istore_n 2, 1) := by decide +kernel
theorem dX8_results_32 : decode cX8_results 32 = .ok (.iload_n 2, 1) := by decide +kernel
theorem dX8_results_33 : decode cX8_results 33 = .ok (.aload_n 0, 1) := by decide +kernel
theorem dX8_results_34 : decode cX8_results 34 = .ok (.getfield 125, 3) := by decide +kernel
theorem dX8_results_37 : decode cX8_results 37 = .ok (.if_icmp .ge 35, 3) := by decide +kernel
theorem dX8_results_40 : decode cX8_results 40 = .ok (.aload_n 0, 1) := by decide +kernel
theorem dX8_results_41 : decode cX8_results 41 = .ok (.getfield 79, 3) := by decide +kernel
theorem dX8_results_44 : decode cX8_results 44 = .ok (.iload_n 2, 1) := by decide +kernel
theorem dX8_results_45 : decode cX8_results 45 = .ok (.aload_n 0, 1) := by decide +kernel
theorem dX8_results_46 : decode cX8_results 46 = .ok (.getfield 7, 3) := by decide +kernel
theorem dX8_results_49 : decode cX8_results 49 = .ok (.bipush 62, 2) := by decide +kernel
theorem dX8_results_51 : decode cX8_results 51 = .ok (.iload_n 2, 1) := by decide +kernel
theorem dX8_results_52 : decode cX8_results 52 = .ok (.iadd, 1) := by decide +kernel
theorem dX8_results_53 : decode cX8_results 53 = .ok (.iaload, 1) := by decide +kernel
theorem dX8_results_54 : decode cX8_results 54 = .ok (.iastore, 1) := by decide +kernel
theorem dX8_results_55 : decode cX8_results 55 = .ok (.aload_n 0, 1) := by decide +kernel
theorem dX8_results_56 : decode cX8_results 56 = .ok (.getfield 82, 3) := by decide +kernel
theorem dX8_results_59 : decode cX8_results 59 = .ok (.iload_n 2, 1) := by decide +kernel
theorem dX8_results_60 : decode cX8_results 60 = .ok (.aload_n 0, 1) := by decide +kernel
theorem dX8_results_61 : decode cX8_results 61 = .ok (.iload_n 2, 1) := by decide +kernel
theorem dX8_results_62 : decode cX8_results 62 = .ok (.invokevirtual 307, 3) := by decide +kernel
theorem dX8_results_65 : decode cX8_results 65 = .ok (.iastore, 1) := by decide +kernel
theorem dX8_results_66 : decode cX8_results 66 = .ok (.iinc 2 1, 3) := by decide +kernel
theorem dX8_results_69 : decode cX8_results 69 = .ok (.goto (-37), 3) := by decide +kernel
theorem dX8_results_72 : decode cX8_results 72 = .ok (.iconst 0, 1) := by decide +kernel
theorem dX8_results_73 : decode cX8_results 73 = .ok (.istore_n 2, 1) := by decide +kernel
theorem dX8_results_74 : decode cX8_results 74 = .ok (.iload_n 2, 1) := by decide +kernel
theorem dX8_results_75 : decode cX8_results 75 = .ok (.aload_n 0, 1) := by decide +kernel
theorem dX8_results_76 : decode cX8_results 76 = .ok (.getfield 125, 3) := by decide +kernel
theorem dX8_results_79 : decode cX8_results 79 = .ok (.if_icmp .ge 15, 3) := by decide +kernel
theorem dX8_results_82 : decode cX8_results 82 = .ok (.aload_n 0, 1) := by decide +kernel
theorem dX8_results_83 : decode cX8_results 83 = .ok (.iload_n 2, 1) := by decide +kernel
theorem dX8_results_84 : decode cX8_results 84 = .ok (.iload_n 1, 1) := by decide +kernel
theorem dX8_results_85 : decode cX8_results 85 = .ok (.invokevirtual 325, 3) := by decide +kernel
theorem dX8_results_88 : decode cX8_results 88 = .ok (.iinc 2 1, 3) := by decide +kernel
theorem dX8_results_91 : decode cX8_results 91 = .ok (.goto (-17), 3) := by decide +kernel
theorem dX8_results_94 : decode cX8_results 94 = .ok (.iconst 0, 1) := by decide +kernel
theorem dX8_results_95 : decode cX8_results 95 = .ok (.istore_n 2, 1) := by decide +kernel
theorem dX8_results_96 : decode cX8_results 96 = .ok (.iload_n 2, 1) := by decide +kernel
theorem dX8_results_97 : decode cX8_results 97 = .ok (.aload_n 0, 1) := by decide +kernel
theorem dX8_results_98 : decode cX8_results 98 = .ok (.getfield 275, 3) := by decide +kernel
theorem dX8_results_101 : decode cX8_results 101 = .ok (.if_icmp .ge 90, 3) := by decide +kernel
theorem dX8_results_104 : decode cX8_results 104 = .ok (.aload_n 0, 1) := by decide +kernel
theorem dX8_results_105 : decode cX8_results 105 = .ok (.getfield 70, 3) := by decide +kernel
theorem dX8_results_108 : decode cX8_results 108 = .ok (.iload_n 2, 1) := by decide +kernel
theorem dX8_results_109 : decode cX8_results 109 = .ok (.iaload, 1) := by decide +kernel
theorem dX8_results_110 : decode cX8_results 110 = .ok (.istore_n 3, 1) := by decide +kernel
theorem dX8_results_111 : decode cX8_results 111 = .ok (.iconst 0, 1) := by decide +kernel
theorem dX8_results_112 : decode cX8_results 112 = .ok (.istore 4, 2) := by decide +kernel
theorem dX8_results_114 : decode cX8_results 114 = .ok (.iload 4, 2) := by decide +kernel
theorem dX8_results_116 : decode cX8_results 116 = .ok (.aload_n 0, 1) := by decide +kernel
theorem dX8_results_117 : decode cX8_results 117 = .ok (.iload_n 3, 1) := by decide +kernel
theorem dX8_results_118 : decode cX8_results 118 = .ok (.invokevirtual 288, 3) := by decide +kernel
theorem dX8_results_121 : decode cX8_results 121 = .ok (.if_icmp .ge 64, 3) := by decide +kernel
theorem dX8_results_124 : decode cX8_results 124 = .ok (.aload_n 0, 1) := by decide +kernel
theorem dX8_results_125 : decode cX8_results 125 = .ok (.getfield 73, 3) := by decide +kernel
theorem dX8_results_128 : decode cX8_results 128 = .ok (.iload_n 3, 1) := by decide +kernel
theorem dX8_results_129 : decode cX8_results 129 = .ok (.iaload, 1) := by decide +kernel
theorem dX8_results_130 : decode cX8_results 130 = .ok (.iconst (-1), 1) := by decide +kernel
theorem dX8_results_131 : decode cX8_results 131 = .ok (.if_icmp .ne 54, 3) := by decide +kernel
theorem dX8_results_134 : decode cX8_results 134 = .ok (.iload_n 3, 1) := by decide +kernel
theorem dX8_results_135 : decode cX8_results 135 = .ok (.iload_n 1, 1) := by decide +kernel
theorem dX8_results_136 : decode cX8_results 136 = .ok (.if_icmp .eq 49, 3) := by decide +kernel
theorem dX8_results_139 : decode cX8_results 139 = .ok (.aload_n 0, 1) := by decide +kernel
theorem dX8_results_140 : decode cX8_results 140 = .ok (.iload_n 3, 1) := by decide +kernel
theorem dX8_results_141 : decode cX8_results 141 = .ok (.aload_n 0, 1) := by decide +kernel
theorem dX8_results_142 : decode cX8_results 142 = .ok (.iload_n 3, 1) := by decide +kernel
theorem dX8_results_143 : decode cX8_results 143 = .ok (.iload 4, 2) := by decide +kernel
theorem dX8_results_145 : decode cX8_results 145 = .ok (.invokevirtual 284, 3) := by decide +kernel
theorem dX8_results_148 : decode cX8_results 148 = .ok (.aload_n 0, 1) := by decide +kernel
theorem dX8_results_149 : decode cX8_results 149 = .ok (.getfield 79, 3) := by decide +kernel
theorem dX8_results_152 : decode cX8_results 152 = .ok (.aload_n 0, 1) := by decide +kernel
theorem dX8_results_153 : decode cX8_results 153 = .ok (.iload_n 3, 1) := by decide +kernel
theorem dX8_results_154 : decode cX8_results 154 = .ok (.iload 4, 2) := by decide +kernel
theorem dX8_results_156 : decode cX8_results 156 = .ok (.invokevirtual 284, 3) := by decide +kernel
theorem dX8_results_159 : decode cX8_results 159 = .ok (.iaload, 1) := by decide +kernel
theorem dX8_results_160 : decode cX8_results 160 = .ok (.invokevirtual 329, 3) := by decide +kernel
theorem dX8_results_163 : decode cX8_results 163 = .ok (.ifCond .eq 16, 3) := by decide +kernel
theorem dX8_results_166 : decode cX8_results 166 = .ok (.aload_n 0, 1) := by decide +kernel
theorem dX8_results_167 : decode cX8_results 167 = .ok (.iload_n 3, 1) := by decide +kernel
theorem dX8_results_168 : decode cX8_results 168 = .ok (.aload_n 0, 1) := by decide +kernel
theorem dX8_results_169 : decode cX8_results 169 = .ok (.iload_n 3, 1) := by decide +kernel
theorem dX8_results_170 : decode cX8_results 170 = .ok (.iload 4, 2) := by decide +kernel
theorem dX8_results_172 : decode cX8_results 172 = .ok (.invokevirtual 284, 3) := by decide +kernel
theorem dX8_results_175 : decode cX8_results 175 = .ok (.iconst 2, 1) := by decide +kernel
theorem dX8_results_176 : decode cX8_results 176 = .ok (.invokevirtual 333, 3) := by decide +kernel
theorem dX8_results_179 : decode cX8_results 179 = .ok (.iinc 4 1, 3) := by decide +kernel
theorem dX8_results_182 : decode cX8_results 182 = .ok (.goto (-68), 3) := by decide +kernel
theorem dX8_results_185 : decode cX8_results 185 = .ok (.iinc 2 1, 3) := by decide +kernel
theorem dX8_results_188 : decode cX8_results 188 = .ok (.goto (-92), 3) := by decide +kernel
theorem dX8_results_191 : decode cX8_results 191 = .ok (.return_, 1) := by decide +kernel
theorem dX8_firstRound_0 : decode cX8_firstRound 0 = .ok (.bipush 20, 2) := by decide +kernel
theorem dX8_firstRound_2 : decode cX8_firstRound 2 = .ok (.istore_n 3, 1) := by decide +kernel
theorem dX8_firstRound_3 : decode cX8_firstRound 3 = .ok (.iload_n 3, 1) := by decide +kernel
theorem dX8_firstRound_4 : decode cX8_firstRound 4 = .ok (.ifCond .lt 116, 3) := by decide +kernel
theorem dX8_firstRound_7 : decode cX8_firstRound 7 = .ok (.iconst 0, 1) := by decide +kernel
theorem dX8_firstRound_8 : decode cX8_firstRound 8 = .ok (.istore 4, 2) := by decide +kernel
theorem dX8_firstRound_10 : decode cX8_firstRound 10 = .ok (.iload 4, 2) := by decide +kernel
theorem dX8_firstRound_12 : decode cX8_firstRound 12 = .ok (.aload_n 0, 1) := by decide +kernel
theorem dX8_firstRound_13 : decode cX8_firstRound 13 = .ok (.getfield 275, 3) := by decide +kernel
theorem dX8_firstRound_16 : decode cX8_firstRound 16 = .ok (.if_icmp .ge 98, 3) := by decide +kernel
theorem dX8_firstRound_19 : decode cX8_firstRound 19 = .ok (.aload_n 0, 1) := by decide +kernel
theorem dX8_firstRound_20 : decode cX8_firstRound 20 = .ok (.getfield 70, 3) := by decide +kernel
theorem dX8_firstRound_23 : decode cX8_firstRound 23 = .ok (.iload 4, 2) := by decide +kernel
theorem dX8_firstRound_25 : decode cX8_firstRound 25 = .ok (.iaload, 1) := by decide +kernel
theorem dX8_firstRound_26 : decode cX8_firstRound 26 = .ok (.istore 5, 2) := by decide +kernel
theorem dX8_firstRound_28 : decode cX8_firstRound 28 = .ok (.iload 5, 2) := by decide +kernel
theorem dX8_firstRound_30 : decode cX8_firstRound 30 = .ok (.iload_n 2, 1) := by decide +kernel
theorem dX8_firstRound_31 : decode cX8_firstRound 31 = .ok (.if_icmp .eq 29, 3) := by decide +kernel
theorem dX8_firstRound_34 : decode cX8_firstRound 34 = .ok (.aload_n 0, 1) := by decide +kernel
theorem dX8_firstRound_35 : decode cX8_firstRound 35 = .ok (.iload 5, 2) := by decide +kernel
theorem dX8_firstRound_37 : decode cX8_firstRound 37 = .ok (.iconst 0, 1) := by decide +kernel
theorem dX8_firstRound_38 : decode cX8_firstRound 38 = .ok (.invokevirtual 284, 3) := by decide +kernel
theorem dX8_firstRound_41 : decode cX8_firstRound 41 = .ok (.iload_n 1, 1) := by decide +kernel
theorem dX8_firstRound_42 : decode cX8_firstRound 42 = .ok (.if_icmp .ne 18, 3) := by decide +kernel
theorem dX8_firstRound_45 : decode cX8_firstRound 45 = .ok (.aload_n 0, 1) := by decide +kernel
theorem dX8_firstRound_46 : decode cX8_firstRound 46 = .ok (.getfield 64, 3) := by decide +kernel
theorem dX8_firstRound_49 : decode cX8_firstRound 49 = .ok (.iload 5, 2) := by decide +kernel
theorem dX8_firstRound_51 : decode cX8_firstRound 51 = .ok (.iaload, 1) := by decide +kernel
theorem dX8_firstRound_52 : decode cX8_firstRound 52 = .ok (.iload_n 3, 1) := by decide +kernel
theorem dX8_firstRound_53 : decode cX8_firstRound 53 = .ok (.if_icmp .ne 7, 3) := by decide +kernel
theorem dX8_firstRound_56 : decode cX8_firstRound 56 = .ok (.iconst 1, 1) := by decide +kernel
theorem dX8_firstRound_57 : decode cX8_firstRound 57 = .ok (.goto 4, 3) := by decide +kernel
theorem dX8_firstRound_60 : decode cX8_firstRound 60 = .ok (.iconst 0, 1) := by decide +kernel
theorem dX8_firstRound_61 : decode cX8_firstRound 61 = .ok (.istore 6, 2) := by decide +kernel
theorem dX8_firstRound_63 : decode cX8_firstRound 63 = .ok (.iload 6, 2) := by decide +kernel
theorem dX8_firstRound_65 : decode cX8_firstRound 65 = .ok (.ifCond .eq 43, 3) := by decide +kernel
theorem dX8_firstRound_68 : decode cX8_firstRound 68 = .ok (.aload_n 0, 1) := by decide +kernel
theorem dX8_firstRound_69 : decode cX8_firstRound 69 = .ok (.iload 5, 2) := by decide +kernel
theorem dX8_firstRound_71 : decode cX8_firstRound 71 = .ok (.iload_n 1, 1) := by decide +kernel
theorem dX8_firstRound_72 : decode cX8_firstRound 72 = .ok (.aload_n 0, 1) := by decide +kernel
theorem dX8_firstRound_73 : decode cX8_firstRound 73 = .ok (.getfield 79, 3) := by decide +kernel
theorem dX8_firstRound_76 : decode cX8_firstRound 76 = .ok (.iload_n 1, 1) := by decide +kernel
theorem dX8_firstRound_77 : decode cX8_firstRound 77 = .ok (.iaload, 1) := by decide +kernel
theorem dX8_firstRound_78 : decode cX8_firstRound 78 = .ok (.aload_n 0, 1) := by decide +kernel
theorem dX8_firstRound_79 : decode cX8_firstRound 79 = .ok (.getfield 7, 3) := by decide +kernel
theorem dX8_firstRound_82 : decode cX8_firstRound 82 = .ok (.bipush 62, 2) := by decide +kernel
theorem dX8_firstRound_84 : decode cX8_firstRound 84 = .ok (.iload_n 1, 1) := by decide +kernel
theorem dX8_firstRound_85 : decode cX8_firstRound 85 = .ok (.iadd, 1) := by decide +kernel
theorem dX8_firstRound_86 : decode cX8_firstRound 86 = .ok (.iaload, 1) := by decide +kernel
theorem dX8_firstRound_87 : decode cX8_firstRound 87 = .ok (.isub, 1) := by decide +kernel
theorem dX8_firstRound_88 : decode cX8_firstRound 88 = .ok (.aload_n 0, 1) := by decide +kernel
theorem dX8_firstRound_89 : decode cX8_firstRound 89 = .ok (.iload_n 1, 1) := by decide +kernel
theorem dX8_firstRound_90 : decode cX8_firstRound 90 = .ok (.invokevirtual 304, 3) := by decide +kernel
theorem dX8_firstRound_93 : decode cX8_firstRound 93 = .ok (.iadd, 1) := by decide +kernel
theorem dX8_firstRound_94 : decode cX8_firstRound 94 = .ok (.invokevirtual 329, 3) := by decide +kernel
theorem dX8_firstRound_97 : decode cX8_firstRound 97 = .ok (.ifCond .eq 11, 3) := by decide +kernel
theorem dX8_firstRound_100 : decode cX8_firstRound 100 = .ok (.aload_n 0, 1) := by decide +kernel
theorem dX8_firstRound_101 : decode cX8_firstRound 101 = .ok (.iload 5, 2) := by decide +kernel
theorem dX8_firstRound_103 : decode cX8_firstRound 103 = .ok (.iload_n 1, 1) := by decide +kernel
theorem dX8_firstRound_104 : decode cX8_firstRound 104 = .ok (.iconst 1, 1) := by decide +kernel
theorem dX8_firstRound_105 : decode cX8_firstRound 105 = .ok (.invokevirtual 333, 3) := by decide +kernel
theorem dX8_firstRound_108 : decode cX8_firstRound 108 = .ok (.iinc 4 1, 3) := by decide +kernel
theorem dX8_firstRound_111 : decode cX8_firstRound 111 = .ok (.goto (-101), 3) := by decide +kernel
theorem dX8_firstRound_114 : decode cX8_firstRound 114 = .ok (.iinc 3 (-1), 3) := by decide +kernel
theorem dX8_firstRound_117 : decode cX8_firstRound 117 = .ok (.goto (-114), 3) := by decide +kernel
theorem dX8_firstRound_120 : decode cX8_firstRound 120 = .ok (.return_, 1) := by decide +kernel
theorem dX8_givenTags_0 : decode cX8_givenTags 0 = .ok (.iconst 0, 1) := by decide +kernel
theorem dX8_givenTags_1 : decode cX8_givenTags 1 = .ok (.istore_n 1, 1) := by decide +kernel
theorem dX8_givenTags_2 : decode cX8_givenTags 2 = .ok (.iconst 0, 1) := by decide +kernel
theorem dX8_givenTags_3 : decode cX8_givenTags 3 = .ok (.istore_n 2, 1) := by decide +kernel
theorem dX8_givenTags_4 : decode cX8_givenTags 4 = .ok (.iload_n 2, 1) := by decide +kernel
theorem dX8_givenTags_5 : decode cX8_givenTags 5 = .ok (.aload_n 0, 1) := by decide +kernel
theorem dX8_givenTags_6 : decode cX8_givenTags 6 = .ok (.getfield 275, 3) := by decide +kernel
theorem dX8_givenTags_9 : decode cX8_givenTags 9 = .ok (.if_icmp .ge 32, 3) := by decide +kernel
theorem dX8_givenTags_12 : decode cX8_givenTags 12 = .ok (.iload_n 1, 1) := by decide +kernel
theorem dX8_givenTags_13 : decode cX8_givenTags 13 = .ok (.aload_n 0, 1) := by decide +kernel
theorem dX8_givenTags_14 : decode cX8_givenTags 14 = .ok (.getfield 73, 3) := by decide +kernel
theorem dX8_givenTags_17 : decode cX8_givenTags 17 = .ok (.iload_n 2, 1) := by decide +kernel
theorem dX8_givenTags_18 : decode cX8_givenTags 18 = .ok (.iaload, 1) := by decide +kernel
theorem dX8_givenTags_19 : decode cX8_givenTags 19 = .ok (.iconst (-1), 1) := by decide +kernel
theorem dX8_givenTags_20 : decode cX8_givenTags 20 = .ok (.if_icmp .ne 7, 3) := by decide +kernel
theorem dX8_givenTags_23 : decode cX8_givenTags 23 = .ok (.iconst 0, 1) := by decide +kernel
theorem dX8_givenTags_24 : decode cX8_givenTags 24 = .ok (.goto 9, 3) := by decide +kernel
theorem dX8_givenTags_27 : decode cX8_givenTags 27 = .ok (.aload_n 0, 1) := by decide +kernel
theorem dX8_givenTags_28 : decode cX8_givenTags 28 = .ok (.getfield 58, 3) := by decide +kernel
theorem dX8_givenTags_31 : decode cX8_givenTags 31 = .ok (.iload_n 2, 1) := by decide +kernel
theorem dX8_givenTags_32 : decode cX8_givenTags 32 = .ok (.iaload, 1) := by decide +kernel
theorem dX8_givenTags_33 : decode cX8_givenTags 33 = .ok (.iadd, 1) := by decide +kernel
theorem dX8_givenTags_34 : decode cX8_givenTags 34 = .ok (.istore_n 1, 1) := by decide +kernel
theorem dX8_givenTags_35 : decode cX8_givenTags 35 = .ok (.iinc 2 1, 3) := by decide +kernel
theorem dX8_givenTags_38 : decode cX8_givenTags 38 = .ok (.goto (-34), 3) := by decide +kernel
theorem dX8_givenTags_41 : decode cX8_givenTags 41 = .ok (.iload_n 1, 1) := by decide +kernel
theorem dX8_givenTags_42 : decode cX8_givenTags 42 = .ok (.ireturn, 1) := by decide +kernel
theorem dX8_draws_0 : decode cX8_draws 0 = .ok (.aload_n 0, 1) := by decide +kernel
theorem dX8_draws_1 : decode cX8_draws 1 = .ok (.ldc2_w 337, 3) := by decide +kernel
theorem dX8_draws_4 : decode cX8_draws 4 = .ok (.aload_n 0, 1) := by decide +kernel
theorem dX8_draws_5 : decode cX8_draws 5 = .ok (.getfield 339, 3) := by decide +kernel
theorem dX8_draws_8 : decode cX8_draws 8 = .ok (.lmul, 1) := by decide +kernel
theorem dX8_draws_9 : decode cX8_draws 9 = .ok (.ldc2_w 342, 3) := by decide +kernel
theorem dX8_draws_12 : decode cX8_draws 12 = .ok (.ladd, 1) := by decide +kernel
theorem dX8_draws_13 : decode cX8_draws 13 = .ok (.ldc2_w 344, 3) := by decide +kernel
theorem dX8_draws_16 : decode cX8_draws 16 = .ok (.lrem, 1) := by decide +kernel
theorem dX8_draws_17 : decode cX8_draws 17 = .ok (.putfield 339, 3) := by decide +kernel
theorem dX8_draws_20 : decode cX8_draws 20 = .ok (.aload_n 0, 1) := by decide +kernel
theorem dX8_draws_21 : decode cX8_draws 21 = .ok (.getfield 339, 3) := by decide +kernel
theorem dX8_draws_24 : decode cX8_draws 24 = .ok (.ldc2_w 346, 3) := by decide +kernel
theorem dX8_draws_27 : decode cX8_draws 27 = .ok (.ldiv, 1) := by decide +kernel
theorem dX8_draws_28 : decode cX8_draws 28 = .ok (.iload_n 1, 1) := by decide +kernel
theorem dX8_draws_29 : decode cX8_draws 29 = .ok (.i2l, 1) := by decide +kernel
theorem dX8_draws_30 : decode cX8_draws 30 = .ok (.lrem, 1) := by decide +kernel
theorem dX8_draws_31 : decode cX8_draws 31 = .ok (.lreturn, 1) := by decide +kernel
theorem dX8_laysOrder_0 : decode cX8_laysOrder 0 = .ok (.aload_n 0, 1) := by decide +kernel
theorem dX8_laysOrder_1 : decode cX8_laysOrder 1 = .ok (.invokevirtual 281, 3) := by decide +kernel
theorem dX8_laysOrder_4 : decode cX8_laysOrder 4 = .ok (.aload_n 0, 1) := by decide +kernel
theorem dX8_laysOrder_5 : decode cX8_laysOrder 5 = .ok (.iload_n 1, 1) := by decide +kernel
theorem dX8_laysOrder_6 : decode cX8_laysOrder 6 = .ok (.i2l, 1) := by decide +kernel
theorem dX8_laysOrder_7 : decode cX8_laysOrder 7 = .ok (.putfield 339, 3) := by decide +kernel
theorem dX8_laysOrder_10 : decode cX8_laysOrder 10 = .ok (.iconst 0, 1) := by decide +kernel
theorem dX8_laysOrder_11 : decode cX8_laysOrder 11 = .ok (.istore_n 2, 1) := by decide +kernel
theorem dX8_laysOrder_12 : decode cX8_laysOrder 12 = .ok (.iconst 0, 1) := by decide +kernel
theorem dX8_laysOrder_13 : decode cX8_laysOrder 13 = .ok (.istore_n 3, 1) := by decide +kernel
theorem dX8_laysOrder_14 : decode cX8_laysOrder 14 = .ok (.iconst 0, 1) := by decide +kernel
theorem dX8_laysOrder_15 : decode cX8_laysOrder 15 = .ok (.istore 4, 2) := by decide +kernel
theorem dX8_laysOrder_17 : decode cX8_laysOrder 17 = .ok (.iload 4, 2) := by decide +kernel
theorem dX8_laysOrder_19 : decode cX8_laysOrder 19 = .ok (.aload_n 0, 1) := by decide +kernel
theorem dX8_laysOrder_20 : decode cX8_laysOrder 20 = .ok (.getfield 275, 3) := by decide +kernel
theorem dX8_laysOrder_23 : decode cX8_laysOrder 23 = .ok (.if_icmp .ge 19, 3) := by decide +kernel
theorem dX8_laysOrder_26 : decode cX8_laysOrder 26 = .ok (.iload_n 3, 1) := by decide +kernel
theorem dX8_laysOrder_27 : decode cX8_laysOrder 27 = .ok (.aload_n 0, 1) := by decide +kernel
theorem dX8_laysOrder_28 : decode cX8_laysOrder 28 = .ok (.getfield 67, 3) := by decide +kernel
theorem dX8_laysOrder_31 : decode cX8_laysOrder 31 = .ok (.iload 4, 2) := by decide +kernel
theorem dX8_laysOrder_33 : decode cX8_laysOrder 33 = .ok (.iaload, 1) := by decide +kernel
theorem dX8_laysOrder_34 : decode cX8_laysOrder 34 = .ok (.iadd, 1) := by decide +kernel
theorem dX8_laysOrder_35 : decode cX8_laysOrder 35 = .ok (.istore_n 3, 1) := by decide +kernel
theorem dX8_laysOrder_36 : decode cX8_laysOrder 36 = .ok (.iinc 4 1, 3) := by decide +kernel
theorem dX8_laysOrder_39 : decode cX8_laysOrder 39 = .ok (.goto (-22), 3) := by decide +kernel
theorem dX8_laysOrder_42 : decode cX8_laysOrder 42 = .ok (.iconst 0, 1) := by decide +kernel
theorem dX8_laysOrder_43 : decode cX8_laysOrder 43 = .ok (.istore 4, 2) := by decide +kernel
theorem dX8_laysOrder_45 : decode cX8_laysOrder 45 = .ok (.iload 4, 2) := by decide +kernel
theorem dX8_laysOrder_47 : decode cX8_laysOrder 47 = .ok (.aload_n 0, 1) := by decide +kernel
theorem dX8_laysOrder_48 : decode cX8_laysOrder 48 = .ok (.getfield 275, 3) := by decide +kernel
theorem dX8_laysOrder_51 : decode cX8_laysOrder 51 = .ok (.if_icmp .ge 88, 3) := by decide +kernel
theorem dX8_laysOrder_54 : decode cX8_laysOrder 54 = .ok (.aload_n 0, 1) := by decide +kernel
theorem dX8_laysOrder_55 : decode cX8_laysOrder 55 = .ok (.iload_n 3, 1) := by decide +kernel
theorem dX8_laysOrder_56 : decode cX8_laysOrder 56 = .ok (.invokevirtual 348, 3) := by decide +kernel
theorem dX8_laysOrder_59 : decode cX8_laysOrder 59 = .ok (.lstore 5, 2) := by decide +kernel
theorem dX8_laysOrder_61 : decode cX8_laysOrder 61 = .ok (.iconst (-1), 1) := by decide +kernel
theorem dX8_laysOrder_62 : decode cX8_laysOrder 62 = .ok (.istore 7, 2) := by decide +kernel
theorem dX8_laysOrder_64 : decode cX8_laysOrder 64 = .ok (.lconst 0, 1) := by decide +kernel
theorem dX8_laysOrder_65 : decode cX8_laysOrder 65 = .ok (.lstore 8, 2) := by decide +kernel
theorem dX8_laysOrder_67 : decode cX8_laysOrder 67 = .ok (.lload 8, 2) := by decide +kernel
theorem dX8_laysOrder_69 : decode cX8_laysOrder 69 = .ok (.lload 5, 2) := by decide +kernel
theorem dX8_laysOrder_71 : decode cX8_laysOrder 71 = .ok (.lcmp, 1) := by decide +kernel
theorem dX8_laysOrder_72 : decode cX8_laysOrder 72 = .ok (.ifCond .gt 35, 3) := by decide +kernel
theorem dX8_laysOrder_75 : decode cX8_laysOrder 75 = .ok (.iinc 7 1, 3) := by decide +kernel
theorem dX8_laysOrder_78 : decode cX8_laysOrder 78 = .ok (.lload 8, 2) := by decide +kernel
theorem dX8_laysOrder_80 : decode cX8_laysOrder 80 = .ok (.iload_n 2, 1) := by decide +kernel
theorem dX8_laysOrder_81 : decode cX8_laysOrder 81 = .ok (.iload 7, 2) := by decide +kernel
theorem dX8_laysOrder_83 : decode cX8_laysOrder 83 = .ok (.invokestatic 240, 3) := by decide +kernel
theorem dX8_laysOrder_86 : decode cX8_laysOrder 86 = .ok (.ifCond .eq 7, 3) := by decide +kernel
theorem dX8_laysOrder_89 : decode cX8_laysOrder 89 = .ok (.lconst 0, 1) := by decide +kernel
theorem dX8_laysOrder_90 : decode cX8_laysOrder 90 = .ok (.goto 11, 3) := by decide +kernel
theorem dX8_laysOrder_93 : decode cX8_laysOrder 93 = .ok (.aload_n 0, 1) := by decide +kernel
theorem dX8_laysOrder_94 : decode cX8_laysOrder 94 = .ok (.getfield 67, 3) := by decide +kernel
theorem dX8_laysOrder_97 : decode cX8_laysOrder 97 = .ok (.iload 7, 2) := by decide +kernel
theorem dX8_laysOrder_99 : decode cX8_laysOrder 99 = .ok (.iaload, 1) := by decide +kernel
theorem dX8_laysOrder_100 : decode cX8_laysOrder 100 = .ok (.i2l, 1) := by decide +kernel
theorem dX8_laysOrder_101 : decode cX8_laysOrder 101 = .ok (.ladd, 1) := by decide +kernel
theorem dX8_laysOrder_102 : decode cX8_laysOrder 102 = .ok (.lstore 8, 2) := by decide +kernel
theorem dX8_laysOrder_104 : decode cX8_laysOrder 104 = .ok (.goto (-37), 3) := by decide +kernel
theorem dX8_laysOrder_107 : decode cX8_laysOrder 107 = .ok (.aload_n 0, 1) := by decide +kernel
theorem dX8_laysOrder_108 : decode cX8_laysOrder 108 = .ok (.getfield 70, 3) := by decide +kernel
theorem dX8_laysOrder_111 : decode cX8_laysOrder 111 = .ok (.iload 4, 2) := by decide +kernel
theorem dX8_laysOrder_113 : decode cX8_laysOrder 113 = .ok (.iload 7, 2) := by decide +kernel
theorem dX8_laysOrder_115 : decode cX8_laysOrder 115 = .ok (.iastore, 1) := by decide +kernel
theorem dX8_laysOrder_116 : decode cX8_laysOrder 116 = .ok (.iload_n 2, 1) := by decide +kernel
theorem dX8_laysOrder_117 : decode cX8_laysOrder 117 = .ok (.iconst 1, 1) := by decide +kernel
theorem dX8_laysOrder_118 : decode cX8_laysOrder 118 = .ok (.iload 7, 2) := by decide +kernel
theorem dX8_laysOrder_120 : decode cX8_laysOrder 120 = .ok (.ishl, 1) := by decide +kernel
theorem dX8_laysOrder_121 : decode cX8_laysOrder 121 = .ok (.ior, 1) := by decide +kernel
theorem dX8_laysOrder_122 : decode cX8_laysOrder 122 = .ok (.istore_n 2, 1) := by decide +kernel
theorem dX8_laysOrder_123 : decode cX8_laysOrder 123 = .ok (.iload_n 3, 1) := by decide +kernel
theorem dX8_laysOrder_124 : decode cX8_laysOrder 124 = .ok (.aload_n 0, 1) := by decide +kernel
theorem dX8_laysOrder_125 : decode cX8_laysOrder 125 = .ok (.getfield 67, 3) := by decide +kernel
theorem dX8_laysOrder_128 : decode cX8_laysOrder 128 = .ok (.iload 7, 2) := by decide +kernel
theorem dX8_laysOrder_130 : decode cX8_laysOrder 130 = .ok (.iaload, 1) := by decide +kernel
theorem dX8_laysOrder_131 : decode cX8_laysOrder 131 = .ok (.isub, 1) := by decide +kernel
theorem dX8_laysOrder_132 : decode cX8_laysOrder 132 = .ok (.istore_n 3, 1) := by decide +kernel
theorem dX8_laysOrder_133 : decode cX8_laysOrder 133 = .ok (.iinc 4 1, 3) := by decide +kernel
theorem dX8_laysOrder_136 : decode cX8_laysOrder 136 = .ok (.goto (-91), 3) := by decide +kernel
theorem dX8_laysOrder_139 : decode cX8_laysOrder 139 = .ok (.return_, 1) := by decide +kernel
theorem dX8_laysResult_0 : decode cX8_laysResult 0 = .ok (.aload_n 0, 1) := by decide +kernel
theorem dX8_laysResult_1 : decode cX8_laysResult 1 = .ok (.iload_n 1, 1) := by decide +kernel
theorem dX8_laysResult_2 : decode cX8_laysResult 2 = .ok (.invokevirtual 352, 3) := by decide +kernel
theorem dX8_laysResult_5 : decode cX8_laysResult 5 = .ok (.aload_n 0, 1) := by decide +kernel
theorem dX8_laysResult_6 : decode cX8_laysResult 6 = .ok (.iconst (-1), 1) := by decide +kernel
theorem dX8_laysResult_7 : decode cX8_laysResult 7 = .ok (.invokevirtual 355, 3) := by decide +kernel
theorem dX8_laysResult_10 : decode cX8_laysResult 10 = .ok (.return_, 1) := by decide +kernel
theorem dX8_order_0 : decode cX8_order 0 = .ok (.iload_n 1, 1) := by decide +kernel
theorem dX8_order_1 : decode cX8_order 1 = .ok (.invokestatic 358, 3) := by decide +kernel
theorem dX8_order_4 : decode cX8_order 4 = .ok (.ifCond .eq 7, 3) := by decide +kernel
theorem dX8_order_7 : decode cX8_order 7 = .ok (.iload_n 2, 1) := by decide +kernel
theorem dX8_order_8 : decode cX8_order 8 = .ok (.ifCond .ge 9, 3) := by decide +kernel
theorem dX8_order_11 : decode cX8_order 11 = .ok (.aload_n 0, 1) := by decide +kernel
theorem dX8_order_12 : decode cX8_order 12 = .ok (.iconst 1, 1) := by decide +kernel
theorem dX8_order_13 : decode cX8_order 13 = .ok (.invokevirtual 263, 3) := by decide +kernel
theorem dX8_order_16 : decode cX8_order 16 = .ok (.ireturn, 1) := by decide +kernel
theorem dX8_order_17 : decode cX8_order 17 = .ok (.aload_n 0, 1) := by decide +kernel
theorem dX8_order_18 : decode cX8_order 18 = .ok (.iload_n 1, 1) := by decide +kernel
theorem dX8_order_19 : decode cX8_order 19 = .ok (.invokevirtual 352, 3) := by decide +kernel
theorem dX8_order_22 : decode cX8_order 22 = .ok (.iload_n 2, 1) := by decide +kernel
theorem dX8_order_23 : decode cX8_order 23 = .ok (.aload_n 0, 1) := by decide +kernel
theorem dX8_order_24 : decode cX8_order 24 = .ok (.getfield 275, 3) := by decide +kernel
theorem dX8_order_27 : decode cX8_order 27 = .ok (.if_icmp .ge 16, 3) := by decide +kernel
theorem dX8_order_30 : decode cX8_order 30 = .ok (.aload_n 0, 1) := by decide +kernel
theorem dX8_order_31 : decode cX8_order 31 = .ok (.aload_n 0, 1) := by decide +kernel
theorem dX8_order_32 : decode cX8_order 32 = .ok (.getfield 70, 3) := by decide +kernel
theorem dX8_order_35 : decode cX8_order 35 = .ok (.iload_n 2, 1) := by decide +kernel
theorem dX8_order_36 : decode cX8_order 36 = .ok (.iaload, 1) := by decide +kernel
theorem dX8_order_37 : decode cX8_order 37 = .ok (.invokevirtual 272, 3) := by decide +kernel
theorem dX8_order_40 : decode cX8_order 40 = .ok (.goto 8, 3) := by decide +kernel
theorem dX8_order_43 : decode cX8_order 43 = .ok (.aload_n 0, 1) := by decide +kernel
theorem dX8_order_44 : decode cX8_order 44 = .ok (.iconst 5, 1) := by decide +kernel
theorem dX8_order_45 : decode cX8_order 45 = .ok (.invokevirtual 263, 3) := by decide +kernel
theorem dX8_order_48 : decode cX8_order 48 = .ok (.ireturn, 1) := by decide +kernel
theorem dX8_drawn_0 : decode cX8_drawn 0 = .ok (.iload_n 1, 1) := by decide +kernel
theorem dX8_drawn_1 : decode cX8_drawn 1 = .ok (.invokestatic 358, 3) := by decide +kernel
theorem dX8_drawn_4 : decode cX8_drawn 4 = .ok (.ifCond .ne 9, 3) := by decide +kernel
theorem dX8_drawn_7 : decode cX8_drawn 7 = .ok (.aload_n 0, 1) := by decide +kernel
theorem dX8_drawn_8 : decode cX8_drawn 8 = .ok (.iconst 1, 1) := by decide +kernel
theorem dX8_drawn_9 : decode cX8_drawn 9 = .ok (.invokevirtual 263, 3) := by decide +kernel
theorem dX8_drawn_12 : decode cX8_drawn 12 = .ok (.ireturn, 1) := by decide +kernel
theorem dX8_drawn_13 : decode cX8_drawn 13 = .ok (.aload_n 0, 1) := by decide +kernel
theorem dX8_drawn_14 : decode cX8_drawn 14 = .ok (.iload_n 2, 1) := by decide +kernel
theorem dX8_drawn_15 : decode cX8_drawn 15 = .ok (.invokevirtual 315, 3) := by decide +kernel
theorem dX8_drawn_18 : decode cX8_drawn 18 = .ok (.ifCond .ne 9, 3) := by decide +kernel
theorem dX8_drawn_21 : decode cX8_drawn 21 = .ok (.aload_n 0, 1) := by decide +kernel
theorem dX8_drawn_22 : decode cX8_drawn 22 = .ok (.iconst 2, 1) := by decide +kernel
theorem dX8_drawn_23 : decode cX8_drawn 23 = .ok (.invokevirtual 263, 3) := by decide +kernel
theorem dX8_drawn_26 : decode cX8_drawn 26 = .ok (.ireturn, 1) := by decide +kernel
theorem dX8_drawn_27 : decode cX8_drawn 27 = .ok (.aload_n 0, 1) := by decide +kernel
theorem dX8_drawn_28 : decode cX8_drawn 28 = .ok (.iload_n 1, 1) := by decide +kernel
theorem dX8_drawn_29 : decode cX8_drawn 29 = .ok (.invokevirtual 361, 3) := by decide +kernel
theorem dX8_drawn_32 : decode cX8_drawn 32 = .ok (.aload_n 0, 1) := by decide +kernel
theorem dX8_drawn_33 : decode cX8_drawn 33 = .ok (.getfield 73, 3) := by decide +kernel
theorem dX8_drawn_36 : decode cX8_drawn 36 = .ok (.iload_n 2, 1) := by decide +kernel
theorem dX8_drawn_37 : decode cX8_drawn 37 = .ok (.iaload, 1) := by decide +kernel
theorem dX8_drawn_38 : decode cX8_drawn 38 = .ok (.iconst (-1), 1) := by decide +kernel
theorem dX8_drawn_39 : decode cX8_drawn 39 = .ok (.if_icmp .ne 11, 3) := by decide +kernel
theorem dX8_drawn_42 : decode cX8_drawn 42 = .ok (.aload_n 0, 1) := by decide +kernel
theorem dX8_drawn_43 : decode cX8_drawn 43 = .ok (.iconst 5, 1) := by decide +kernel
theorem dX8_drawn_44 : decode cX8_drawn 44 = .ok (.invokevirtual 263, 3) := by decide +kernel
theorem dX8_drawn_47 : decode cX8_drawn 47 = .ok (.goto 13, 3) := by decide +kernel
theorem dX8_drawn_50 : decode cX8_drawn 50 = .ok (.aload_n 0, 1) := by decide +kernel
theorem dX8_drawn_51 : decode cX8_drawn 51 = .ok (.aload_n 0, 1) := by decide +kernel
theorem dX8_drawn_52 : decode cX8_drawn 52 = .ok (.getfield 73, 3) := by decide +kernel
theorem dX8_drawn_55 : decode cX8_drawn 55 = .ok (.iload_n 2, 1) := by decide +kernel
theorem dX8_drawn_56 : decode cX8_drawn 56 = .ok (.iaload, 1) := by decide +kernel
theorem dX8_drawn_57 : decode cX8_drawn 57 = .ok (.invokevirtual 272, 3) := by decide +kernel
theorem dX8_drawn_60 : decode cX8_drawn 60 = .ok (.ireturn, 1) := by decide +kernel
theorem dX8_round_0 : decode cX8_round 0 = .ok (.iload_n 1, 1) := by decide +kernel
theorem dX8_round_1 : decode cX8_round 1 = .ok (.invokestatic 358, 3) := by decide +kernel
theorem dX8_round_4 : decode cX8_round 4 = .ok (.ifCond .ne 9, 3) := by decide +kernel
theorem dX8_round_7 : decode cX8_round 7 = .ok (.aload_n 0, 1) := by decide +kernel
theorem dX8_round_8 : decode cX8_round 8 = .ok (.iconst 1, 1) := by decide +kernel
theorem dX8_round_9 : decode cX8_round 9 = .ok (.invokevirtual 263, 3) := by decide +kernel
theorem dX8_round_12 : decode cX8_round 12 = .ok (.ireturn, 1) := by decide +kernel
theorem dX8_round_13 : decode cX8_round 13 = .ok (.aload_n 0, 1) := by decide +kernel
theorem dX8_round_14 : decode cX8_round 14 = .ok (.iload_n 2, 1) := by decide +kernel
theorem dX8_round_15 : decode cX8_round 15 = .ok (.invokevirtual 315, 3) := by decide +kernel
theorem dX8_round_18 : decode cX8_round 18 = .ok (.ifCond .ne 9, 3) := by decide +kernel
theorem dX8_round_21 : decode cX8_round 21 = .ok (.aload_n 0, 1) := by decide +kernel
theorem dX8_round_22 : decode cX8_round 22 = .ok (.iconst 2, 1) := by decide +kernel
theorem dX8_round_23 : decode cX8_round 23 = .ok (.invokevirtual 263, 3) := by decide +kernel
theorem dX8_round_26 : decode cX8_round 26 = .ok (.ireturn, 1) := by decide +kernel
theorem dX8_round_27 : decode cX8_round 27 = .ok (.aload_n 0, 1) := by decide +kernel
theorem dX8_round_28 : decode cX8_round 28 = .ok (.iload_n 1, 1) := by decide +kernel
theorem dX8_round_29 : decode cX8_round 29 = .ok (.invokevirtual 361, 3) := by decide +kernel
theorem dX8_round_32 : decode cX8_round 32 = .ok (.aload_n 0, 1) := by decide +kernel
theorem dX8_round_33 : decode cX8_round 33 = .ok (.getfield 73, 3) := by decide +kernel
theorem dX8_round_36 : decode cX8_round 36 = .ok (.iload_n 2, 1) := by decide +kernel
theorem dX8_round_37 : decode cX8_round 37 = .ok (.iaload, 1) := by decide +kernel
theorem dX8_round_38 : decode cX8_round 38 = .ok (.iconst (-1), 1) := by decide +kernel
theorem dX8_round_39 : decode cX8_round 39 = .ok (.if_icmp .ne 11, 3) := by decide +kernel
theorem dX8_round_42 : decode cX8_round 42 = .ok (.aload_n 0, 1) := by decide +kernel
theorem dX8_round_43 : decode cX8_round 43 = .ok (.iconst 5, 1) := by decide +kernel
theorem dX8_round_44 : decode cX8_round 44 = .ok (.invokevirtual 263, 3) := by decide +kernel
theorem dX8_round_47 : decode cX8_round 47 = .ok (.goto 13, 3) := by decide +kernel
theorem dX8_round_50 : decode cX8_round 50 = .ok (.aload_n 0, 1) := by decide +kernel
theorem dX8_round_51 : decode cX8_round 51 = .ok (.aload_n 0, 1) := by decide +kernel
theorem dX8_round_52 : decode cX8_round 52 = .ok (.getfield 76, 3) := by decide +kernel
theorem dX8_round_55 : decode cX8_round 55 = .ok (.iload_n 2, 1) := by decide +kernel
theorem dX8_round_56 : decode cX8_round 56 = .ok (.iaload, 1) := by decide +kernel
theorem dX8_round_57 : decode cX8_round 57 = .ok (.invokevirtual 272, 3) := by decide +kernel
theorem dX8_round_60 : decode cX8_round 60 = .ok (.ireturn, 1) := by decide +kernel
theorem dX8_left_0 : decode cX8_left 0 = .ok (.iload_n 1, 1) := by decide +kernel
theorem dX8_left_1 : decode cX8_left 1 = .ok (.invokestatic 358, 3) := by decide +kernel
theorem dX8_left_4 : decode cX8_left 4 = .ok (.ifCond .eq 15, 3) := by decide +kernel
theorem dX8_left_7 : decode cX8_left 7 = .ok (.iload_n 3, 1) := by decide +kernel
theorem dX8_left_8 : decode cX8_left 8 = .ok (.i2l, 1) := by decide +kernel
theorem dX8_left_9 : decode cX8_left 9 = .ok (.lconst 0, 1) := by decide +kernel
theorem dX8_left_10 : decode cX8_left 10 = .ok (.ldc2_w 364, 3) := by decide +kernel
theorem dX8_left_13 : decode cX8_left 13 = .ok (.invokestatic 128, 3) := by decide +kernel
theorem dX8_left_16 : decode cX8_left 16 = .ok (.ifCond .ne 9, 3) := by decide +kernel
theorem dX8_left_19 : decode cX8_left 19 = .ok (.aload_n 0, 1) := by decide +kernel
theorem dX8_left_20 : decode cX8_left 20 = .ok (.iconst 1, 1) := by decide +kernel
theorem dX8_left_21 : decode cX8_left 21 = .ok (.invokevirtual 263, 3) := by decide +kernel
theorem dX8_left_24 : decode cX8_left 24 = .ok (.ireturn, 1) := by decide +kernel
theorem dX8_left_25 : decode cX8_left 25 = .ok (.aload_n 0, 1) := by decide +kernel
theorem dX8_left_26 : decode cX8_left 26 = .ok (.iload_n 2, 1) := by decide +kernel
theorem dX8_left_27 : decode cX8_left 27 = .ok (.invokevirtual 301, 3) := by decide +kernel
theorem dX8_left_30 : decode cX8_left 30 = .ok (.ifCond .ne 9, 3) := by decide +kernel
theorem dX8_left_33 : decode cX8_left 33 = .ok (.aload_n 0, 1) := by decide +kernel
theorem dX8_left_34 : decode cX8_left 34 = .ok (.iconst 2, 1) := by decide +kernel
theorem dX8_left_35 : decode cX8_left 35 = .ok (.invokevirtual 263, 3) := by decide +kernel
theorem dX8_left_38 : decode cX8_left 38 = .ok (.ireturn, 1) := by decide +kernel
theorem dX8_left_39 : decode cX8_left 39 = .ok (.aload_n 0, 1) := by decide +kernel
theorem dX8_left_40 : decode cX8_left 40 = .ok (.iload_n 1, 1) := by decide +kernel
theorem dX8_left_41 : decode cX8_left 41 = .ok (.invokevirtual 361, 3) := by decide +kernel
theorem dX8_left_44 : decode cX8_left 44 = .ok (.iconst 0, 1) := by decide +kernel
theorem dX8_left_45 : decode cX8_left 45 = .ok (.istore 4, 2) := by decide +kernel
theorem dX8_left_47 : decode cX8_left 47 = .ok (.iconst (-1), 1) := by decide +kernel
theorem dX8_left_48 : decode cX8_left 48 = .ok (.istore 5, 2) := by decide +kernel
theorem dX8_left_50 : decode cX8_left 50 = .ok (.iconst 0, 1) := by decide +kernel
theorem dX8_left_51 : decode cX8_left 51 = .ok (.istore 6, 2) := by decide +kernel
theorem dX8_left_53 : decode cX8_left 53 = .ok (.iload 6, 2) := by decide +kernel
theorem dX8_left_55 : decode cX8_left 55 = .ok (.aload_n 0, 1) := by decide +kernel
theorem dX8_left_56 : decode cX8_left 56 = .ok (.getfield 275, 3) := by decide +kernel
theorem dX8_left_59 : decode cX8_left 59 = .ok (.if_icmp .ge 56, 3) := by decide +kernel
theorem dX8_left_62 : decode cX8_left 62 = .ok (.aload_n 0, 1) := by decide +kernel
theorem dX8_left_63 : decode cX8_left 63 = .ok (.getfield 73, 3) := by decide +kernel
theorem dX8_left_66 : decode cX8_left 66 = .ok (.iload 6, 2) := by decide +kernel
theorem dX8_left_68 : decode cX8_left 68 = .ok (.iaload, 1) := by decide +kernel
theorem dX8_left_69 : decode cX8_left 69 = .ok (.iload_n 2, 1) := by decide +kernel
theorem dX8_left_70 : decode cX8_left 70 = .ok (.if_icmp .eq 6, 3) := by decide +kernel
theorem dX8_left_73 : decode cX8_left 73 = .ok (.goto 36, 3) := by decide +kernel
theorem dX8_left_76 : decode cX8_left 76 = .ok (.iinc 4 1, 3) := by decide +kernel
theorem dX8_left_79 : decode cX8_left 79 = .ok (.iload 5, 2) := by decide +kernel
theorem dX8_left_81 : decode cX8_left 81 = .ok (.iconst (-1), 1) := by decide +kernel
theorem dX8_left_82 : decode cX8_left 82 = .ok (.if_icmp .ne 13, 3) := by decide +kernel
theorem dX8_left_85 : decode cX8_left 85 = .ok (.aload_n 0, 1) := by decide +kernel
theorem dX8_left_86 : decode cX8_left 86 = .ok (.getfield 64, 3) := by decide +kernel
theorem dX8_left_89 : decode cX8_left 89 = .ok (.iload 6, 2) := by decide +kernel
theorem dX8_left_91 : decode cX8_left 91 = .ok (.iaload, 1) := by decide +kernel
theorem dX8_left_92 : decode cX8_left 92 = .ok (.goto 15, 3) := by decide +kernel
theorem dX8_left_95 : decode cX8_left 95 = .ok (.iload 5, 2) := by decide +kernel
theorem dX8_left_97 : decode cX8_left 97 = .ok (.aload_n 0, 1) := by decide +kernel
theorem dX8_left_98 : decode cX8_left 98 = .ok (.getfield 64, 3) := by decide +kernel
theorem dX8_left_101 : decode cX8_left 101 = .ok (.iload 6, 2) := by decide +kernel
theorem dX8_left_103 : decode cX8_left 103 = .ok (.iaload, 1) := by decide +kernel
theorem dX8_left_104 : decode cX8_left 104 = .ok (.invokestatic 366, 3) := by decide +kernel
theorem dX8_left_107 : decode cX8_left 107 = .ok (.istore 5, 2) := by decide +kernel
theorem dX8_left_109 : decode cX8_left 109 = .ok (.iinc 6 1, 3) := by decide +kernel
theorem dX8_left_112 : decode cX8_left 112 = .ok (.goto (-59), 3) := by decide +kernel
theorem dX8_left_115 : decode cX8_left 115 = .ok (.iload_n 3, 1) := by decide +kernel
theorem dX8_left_116 : decode cX8_left 116 = .ok (.iconst 3, 1) := by decide +kernel
theorem dX8_left_117 : decode cX8_left 117 = .ok (.if_icmp .ne 24, 3) := by decide +kernel
theorem dX8_left_120 : decode cX8_left 120 = .ok (.iload 5, 2) := by decide +kernel
theorem dX8_left_122 : decode cX8_left 122 = .ok (.iconst (-1), 1) := by decide +kernel
theorem dX8_left_123 : decode cX8_left 123 = .ok (.if_icmp .ne 11, 3) := by decide +kernel
theorem dX8_left_126 : decode cX8_left 126 = .ok (.aload_n 0, 1) := by decide +kernel
theorem dX8_left_127 : decode cX8_left 127 = .ok (.iconst 5, 1) := by decide +kernel
theorem dX8_left_128 : decode cX8_left 128 = .ok (.invokevirtual 263, 3) := by decide +kernel
theorem dX8_left_131 : decode cX8_left 131 = .ok (.goto 9, 3) := by decide +kernel
theorem dX8_left_134 : decode cX8_left 134 = .ok (.aload_n 0, 1) := by decide +kernel
theorem dX8_left_135 : decode cX8_left 135 = .ok (.iload 5, 2) := by decide +kernel
theorem dX8_left_137 : decode cX8_left 137 = .ok (.invokevirtual 272, 3) := by decide +kernel
theorem dX8_left_140 : decode cX8_left 140 = .ok (.ireturn, 1) := by decide +kernel
theorem dX8_left_141 : decode cX8_left 141 = .ok (.aload_n 0, 1) := by decide +kernel
theorem dX8_left_142 : decode cX8_left 142 = .ok (.iload_n 3, 1) := by decide +kernel
theorem dX8_left_143 : decode cX8_left 143 = .ok (.ifCond .ne 12, 3) := by decide +kernel
theorem dX8_left_146 : decode cX8_left 146 = .ok (.aload_n 0, 1) := by decide +kernel
theorem dX8_left_147 : decode cX8_left 147 = .ok (.getfield 79, 3) := by decide +kernel
theorem dX8_left_150 : decode cX8_left 150 = .ok (.iload_n 2, 1) := by decide +kernel
theorem dX8_left_151 : decode cX8_left 151 = .ok (.iaload, 1) := by decide +kernel
theorem dX8_left_152 : decode cX8_left 152 = .ok (.goto 19, 3) := by decide +kernel
theorem dX8_left_155 : decode cX8_left 155 = .ok (.iload_n 3, 1) := by decide +kernel
theorem dX8_left_156 : decode cX8_left 156 = .ok (.iconst 1, 1) := by decide +kernel
theorem dX8_left_157 : decode cX8_left 157 = .ok (.if_icmp .ne 12, 3) := by decide +kernel
theorem dX8_left_160 : decode cX8_left 160 = .ok (.aload_n 0, 1) := by decide +kernel
theorem dX8_left_161 : decode cX8_left 161 = .ok (.getfield 82, 3) := by decide +kernel
theorem dX8_left_164 : decode cX8_left 164 = .ok (.iload_n 2, 1) := by decide +kernel
theorem dX8_left_165 : decode cX8_left 165 = .ok (.iaload, 1) := by decide +kernel
theorem dX8_left_166 : decode cX8_left 166 = .ok (.goto 5, 3) := by decide +kernel
theorem dX8_left_169 : decode cX8_left 169 = .ok (.iload 4, 2) := by decide +kernel
theorem dX8_left_171 : decode cX8_left 171 = .ok (.invokevirtual 272, 3) := by decide +kernel
theorem dX8_left_174 : decode cX8_left 174 = .ok (.ireturn, 1) := by decide +kernel
theorem dX8_winnersNow_0 : decode cX8_winnersNow 0 = .ok (.iconst 0, 1) := by decide +kernel
theorem dX8_winnersNow_1 : decode cX8_winnersNow 1 = .ok (.istore_n 1, 1) := by decide +kernel
theorem dX8_winnersNow_2 : decode cX8_winnersNow 2 = .ok (.iconst 0, 1) := by decide +kernel
theorem dX8_winnersNow_3 : decode cX8_winnersNow 3 = .ok (.istore_n 2, 1) := by decide +kernel
theorem dX8_winnersNow_4 : decode cX8_winnersNow 4 = .ok (.iload_n 2, 1) := by decide +kernel
theorem dX8_winnersNow_5 : decode cX8_winnersNow 5 = .ok (.aload_n 0, 1) := by decide +kernel
theorem dX8_winnersNow_6 : decode cX8_winnersNow 6 = .ok (.getfield 275, 3) := by decide +kernel
theorem dX8_winnersNow_9 : decode cX8_winnersNow 9 = .ok (.if_icmp .ge 32, 3) := by decide +kernel
theorem dX8_winnersNow_12 : decode cX8_winnersNow 12 = .ok (.iload_n 1, 1) := by decide +kernel
theorem dX8_winnersNow_13 : decode cX8_winnersNow 13 = .ok (.aload_n 0, 1) := by decide +kernel
theorem dX8_winnersNow_14 : decode cX8_winnersNow 14 = .ok (.getfield 73, 3) := by decide +kernel
theorem dX8_winnersNow_17 : decode cX8_winnersNow 17 = .ok (.iload_n 2, 1) := by decide +kernel
theorem dX8_winnersNow_18 : decode cX8_winnersNow 18 = .ok (.iaload, 1) := by decide +kernel
theorem dX8_winnersNow_19 : decode cX8_winnersNow 19 = .ok (.iconst (-1), 1) := by decide +kernel
theorem dX8_winnersNow_20 : decode cX8_winnersNow 20 = .ok (.if_icmp .ne 7, 3) := by decide +kernel
theorem dX8_winnersNow_23 : decode cX8_winnersNow 23 = .ok (.iconst 0, 1) := by decide +kernel
theorem dX8_winnersNow_24 : decode cX8_winnersNow 24 = .ok (.goto 9, 3) := by decide +kernel
theorem dX8_winnersNow_27 : decode cX8_winnersNow 27 = .ok (.aload_n 0, 1) := by decide +kernel
theorem dX8_winnersNow_28 : decode cX8_winnersNow 28 = .ok (.getfield 49, 3) := by decide +kernel
theorem dX8_winnersNow_31 : decode cX8_winnersNow 31 = .ok (.iload_n 2, 1) := by decide +kernel
theorem dX8_winnersNow_32 : decode cX8_winnersNow 32 = .ok (.iaload, 1) := by decide +kernel
theorem dX8_winnersNow_33 : decode cX8_winnersNow 33 = .ok (.ior, 1) := by decide +kernel
theorem dX8_winnersNow_34 : decode cX8_winnersNow 34 = .ok (.istore_n 1, 1) := by decide +kernel
theorem dX8_winnersNow_35 : decode cX8_winnersNow 35 = .ok (.iinc 2 1, 3) := by decide +kernel
theorem dX8_winnersNow_38 : decode cX8_winnersNow 38 = .ok (.goto (-34), 3) := by decide +kernel
theorem dX8_winnersNow_41 : decode cX8_winnersNow 41 = .ok (.iload_n 1, 1) := by decide +kernel
theorem dX8_winnersNow_42 : decode cX8_winnersNow 42 = .ok (.ireturn, 1) := by decide +kernel
theorem dX8_winners_0 : decode cX8_winners 0 = .ok (.iload_n 1, 1) := by decide +kernel
theorem dX8_winners_1 : decode cX8_winners 1 = .ok (.invokestatic 358, 3) := by decide +kernel
theorem dX8_winners_4 : decode cX8_winners 4 = .ok (.ifCond .ne 9, 3) := by decide +kernel
theorem dX8_winners_7 : decode cX8_winners 7 = .ok (.aload_n 0, 1) := by decide +kernel
theorem dX8_winners_8 : decode cX8_winners 8 = .ok (.iconst 1, 1) := by decide +kernel
theorem dX8_winners_9 : decode cX8_winners 9 = .ok (.invokevirtual 263, 3) := by decide +kernel
theorem dX8_winners_12 : decode cX8_winners 12 = .ok (.ireturn, 1) := by decide +kernel
theorem dX8_winners_13 : decode cX8_winners 13 = .ok (.aload_n 0, 1) := by decide +kernel
theorem dX8_winners_14 : decode cX8_winners 14 = .ok (.iload_n 1, 1) := by decide +kernel
theorem dX8_winners_15 : decode cX8_winners 15 = .ok (.invokevirtual 361, 3) := by decide +kernel
theorem dX8_winners_18 : decode cX8_winners 18 = .ok (.aload_n 0, 1) := by decide +kernel
theorem dX8_winners_19 : decode cX8_winners 19 = .ok (.aload_n 0, 1) := by decide +kernel
theorem dX8_winners_20 : decode cX8_winners 20 = .ok (.invokevirtual 371, 3) := by decide +kernel
theorem dX8_winners_23 : decode cX8_winners 23 = .ok (.invokevirtual 272, 3) := by decide +kernel
theorem dX8_winners_26 : decode cX8_winners 26 = .ok (.ireturn, 1) := by decide +kernel
theorem dX8_isWaiting_0 : decode cX8_isWaiting 0 = .ok (.aload_n 0, 1) := by decide +kernel
theorem dX8_isWaiting_1 : decode cX8_isWaiting 1 = .ok (.getfield 73, 3) := by decide +kernel
theorem dX8_isWaiting_4 : decode cX8_isWaiting 4 = .ok (.iload_n 1, 1) := by decide +kernel
theorem dX8_isWaiting_5 : decode cX8_isWaiting 5 = .ok (.iaload, 1) := by decide +kernel
theorem dX8_isWaiting_6 : decode cX8_isWaiting 6 = .ok (.iconst (-1), 1) := by decide +kernel
theorem dX8_isWaiting_7 : decode cX8_isWaiting 7 = .ok (.if_icmp .ne 17, 3) := by decide +kernel
theorem dX8_isWaiting_10 : decode cX8_isWaiting 10 = .ok (.aload_n 0, 1) := by decide +kernel
theorem dX8_isWaiting_11 : decode cX8_isWaiting 11 = .ok (.iload_n 1, 1) := by decide +kernel
theorem dX8_isWaiting_12 : decode cX8_isWaiting 12 = .ok (.iload_n 2, 1) := by decide +kernel
theorem dX8_isWaiting_13 : decode cX8_isWaiting 13 = .ok (.invokevirtual 310, 3) := by decide +kernel
theorem dX8_isWaiting_16 : decode cX8_isWaiting 16 = .ok (.iconst (-1), 1) := by decide +kernel
theorem dX8_isWaiting_17 : decode cX8_isWaiting 17 = .ok (.if_icmp .eq 7, 3) := by decide +kernel
theorem dX8_isWaiting_20 : decode cX8_isWaiting 20 = .ok (.iconst 1, 1) := by decide +kernel
theorem dX8_isWaiting_21 : decode cX8_isWaiting 21 = .ok (.goto 4, 3) := by decide +kernel
theorem dX8_isWaiting_24 : decode cX8_isWaiting 24 = .ok (.iconst 0, 1) := by decide +kernel
theorem dX8_isWaiting_25 : decode cX8_isWaiting 25 = .ok (.ireturn, 1) := by decide +kernel
theorem dX8_waits_0 : decode cX8_waits 0 = .ok (.iload_n 1, 1) := by decide +kernel
theorem dX8_waits_1 : decode cX8_waits 1 = .ok (.invokestatic 358, 3) := by decide +kernel
theorem dX8_waits_4 : decode cX8_waits 4 = .ok (.ifCond .eq 8, 3) := by decide +kernel
theorem dX8_waits_7 : decode cX8_waits 7 = .ok (.iload_n 3, 1) := by decide +kernel
theorem dX8_waits_8 : decode cX8_waits 8 = .ok (.iconst (-1), 1) := by decide +kernel
theorem dX8_waits_9 : decode cX8_waits 9 = .ok (.if_icmp .ge 9, 3) := by decide +kernel
theorem dX8_waits_12 : decode cX8_waits 12 = .ok (.aload_n 0, 1) := by decide +kernel
theorem dX8_waits_13 : decode cX8_waits 13 = .ok (.iconst 1, 1) := by decide +kernel
theorem dX8_waits_14 : decode cX8_waits 14 = .ok (.invokevirtual 263, 3) := by decide +kernel
theorem dX8_waits_17 : decode cX8_waits 17 = .ok (.ireturn, 1) := by decide +kernel
theorem dX8_waits_18 : decode cX8_waits 18 = .ok (.aload_n 0, 1) := by decide +kernel
theorem dX8_waits_19 : decode cX8_waits 19 = .ok (.iload_n 2, 1) := by decide +kernel
theorem dX8_waits_20 : decode cX8_waits 20 = .ok (.invokevirtual 301, 3) := by decide +kernel
theorem dX8_waits_23 : decode cX8_waits 23 = .ok (.ifCond .ne 9, 3) := by decide +kernel
theorem dX8_waits_26 : decode cX8_waits 26 = .ok (.aload_n 0, 1) := by decide +kernel
theorem dX8_waits_27 : decode cX8_waits 27 = .ok (.iconst 2, 1) := by decide +kernel
theorem dX8_waits_28 : decode cX8_waits 28 = .ok (.invokevirtual 263, 3) := by decide +kernel
theorem dX8_waits_31 : decode cX8_waits 31 = .ok (.ireturn, 1) := by decide +kernel
theorem dX8_waits_32 : decode cX8_waits 32 = .ok (.aload_n 0, 1) := by decide +kernel
theorem dX8_waits_33 : decode cX8_waits 33 = .ok (.iload_n 1, 1) := by decide +kernel
theorem dX8_waits_34 : decode cX8_waits 34 = .ok (.invokevirtual 361, 3) := by decide +kernel
theorem dX8_waits_37 : decode cX8_waits 37 = .ok (.iconst 0, 1) := by decide +kernel
theorem dX8_waits_38 : decode cX8_waits 38 = .ok (.istore 4, 2) := by decide +kernel
theorem dX8_waits_40 : decode cX8_waits 40 = .ok (.iconst 0, 1) := by decide +kernel
theorem dX8_waits_41 : decode cX8_waits 41 = .ok (.istore 5, 2) := by decide +kernel
theorem dX8_waits_43 : decode cX8_waits 43 = .ok (.iload 5, 2) := by decide +kernel
theorem dX8_waits_45 : decode cX8_waits 45 = .ok (.aload_n 0, 1) := by decide +kernel
theorem dX8_waits_46 : decode cX8_waits 46 = .ok (.getfield 275, 3) := by decide +kernel
theorem dX8_waits_49 : decode cX8_waits 49 = .ok (.if_icmp .ge 48, 3) := by decide +kernel
theorem dX8_waits_52 : decode cX8_waits 52 = .ok (.aload_n 0, 1) := by decide +kernel
theorem dX8_waits_53 : decode cX8_waits 53 = .ok (.aload_n 0, 1) := by decide +kernel
theorem dX8_waits_54 : decode cX8_waits 54 = .ok (.getfield 70, 3) := by decide +kernel
theorem dX8_waits_57 : decode cX8_waits 57 = .ok (.iload 5, 2) := by decide +kernel
theorem dX8_waits_59 : decode cX8_waits 59 = .ok (.iaload, 1) := by decide +kernel
theorem dX8_waits_60 : decode cX8_waits 60 = .ok (.iload_n 2, 1) := by decide +kernel
theorem dX8_waits_61 : decode cX8_waits 61 = .ok (.invokevirtual 374, 3) := by decide +kernel
theorem dX8_waits_64 : decode cX8_waits 64 = .ok (.ifCond .ne 6, 3) := by decide +kernel
theorem dX8_waits_67 : decode cX8_waits 67 = .ok (.goto 24, 3) := by decide +kernel
theorem dX8_waits_70 : decode cX8_waits 70 = .ok (.iload 4, 2) := by decide +kernel
theorem dX8_waits_72 : decode cX8_waits 72 = .ok (.iload_n 3, 1) := by decide +kernel
theorem dX8_waits_73 : decode cX8_waits 73 = .ok (.if_icmp .ne 15, 3) := by decide +kernel
theorem dX8_waits_76 : decode cX8_waits 76 = .ok (.aload_n 0, 1) := by decide +kernel
theorem dX8_waits_77 : decode cX8_waits 77 = .ok (.aload_n 0, 1) := by decide +kernel
theorem dX8_waits_78 : decode cX8_waits 78 = .ok (.getfield 70, 3) := by decide +kernel
theorem dX8_waits_81 : decode cX8_waits 81 = .ok (.iload 5, 2) := by decide +kernel
theorem dX8_waits_83 : decode cX8_waits 83 = .ok (.iaload, 1) := by decide +kernel
theorem dX8_waits_84 : decode cX8_waits 84 = .ok (.invokevirtual 272, 3) := by decide +kernel
theorem dX8_waits_87 : decode cX8_waits 87 = .ok (.ireturn, 1) := by decide +kernel
theorem dX8_waits_88 : decode cX8_waits 88 = .ok (.iinc 4 1, 3) := by decide +kernel
theorem dX8_waits_91 : decode cX8_waits 91 = .ok (.iinc 5 1, 3) := by decide +kernel
theorem dX8_waits_94 : decode cX8_waits 94 = .ok (.goto (-51), 3) := by decide +kernel
theorem dX8_waits_97 : decode cX8_waits 97 = .ok (.iload_n 3, 1) := by decide +kernel
theorem dX8_waits_98 : decode cX8_waits 98 = .ok (.iconst (-1), 1) := by decide +kernel
theorem dX8_waits_99 : decode cX8_waits 99 = .ok (.if_icmp .ne 12, 3) := by decide +kernel
theorem dX8_waits_102 : decode cX8_waits 102 = .ok (.aload_n 0, 1) := by decide +kernel
theorem dX8_waits_103 : decode cX8_waits 103 = .ok (.iload 4, 2) := by decide +kernel
theorem dX8_waits_105 : decode cX8_waits 105 = .ok (.invokevirtual 272, 3) := by decide +kernel
theorem dX8_waits_108 : decode cX8_waits 108 = .ok (.goto 8, 3) := by decide +kernel
theorem dX8_waits_111 : decode cX8_waits 111 = .ok (.aload_n 0, 1) := by decide +kernel
theorem dX8_waits_112 : decode cX8_waits 112 = .ok (.iconst 5, 1) := by decide +kernel
theorem dX8_waits_113 : decode cX8_waits 113 = .ok (.invokevirtual 263, 3) := by decide +kernel
theorem dX8_waits_116 : decode cX8_waits 116 = .ok (.ireturn, 1) := by decide +kernel
theorem dX8_next__0 : decode cX8_next_ 0 = .ok (.iload_n 1, 1) := by decide +kernel
theorem dX8_next__1 : decode cX8_next_ 1 = .ok (.invokestatic 358, 3) := by decide +kernel
theorem dX8_next__4 : decode cX8_next_ 4 = .ok (.ifCond .eq 15, 3) := by decide +kernel
theorem dX8_next__7 : decode cX8_next_ 7 = .ok (.iload_n 3, 1) := by decide +kernel
theorem dX8_next__8 : decode cX8_next_ 8 = .ok (.i2l, 1) := by decide +kernel
theorem dX8_next__9 : decode cX8_next_ 9 = .ok (.lconst 0, 1) := by decide +kernel
theorem dX8_next__10 : decode cX8_next_ 10 = .ok (.ldc2_w 377, 3) := by decide +kernel
theorem dX8_next__13 : decode cX8_next_ 13 = .ok (.invokestatic 128, 3) := by decide +kernel
theorem dX8_next__16 : decode cX8_next_ 16 = .ok (.ifCond .ne 9, 3) := by decide +kernel
theorem dX8_next__19 : decode cX8_next_ 19 = .ok (.aload_n 0, 1) := by decide +kernel
theorem dX8_next__20 : decode cX8_next_ 20 = .ok (.iconst 1, 1) := by decide +kernel
theorem dX8_next__21 : decode cX8_next_ 21 = .ok (.invokevirtual 263, 3) := by decide +kernel
theorem dX8_next__24 : decode cX8_next_ 24 = .ok (.ireturn, 1) := by decide +kernel
theorem dX8_next__25 : decode cX8_next_ 25 = .ok (.aload_n 0, 1) := by decide +kernel
theorem dX8_next__26 : decode cX8_next_ 26 = .ok (.iload_n 2, 1) := by decide +kernel
theorem dX8_next__27 : decode cX8_next_ 27 = .ok (.invokevirtual 301, 3) := by decide +kernel
theorem dX8_next__30 : decode cX8_next_ 30 = .ok (.ifCond .ne 9, 3) := by decide +kernel
theorem dX8_next__33 : decode cX8_next_ 33 = .ok (.aload_n 0, 1) := by decide +kernel
theorem dX8_next__34 : decode cX8_next_ 34 = .ok (.iconst 2, 1) := by decide +kernel
theorem dX8_next__35 : decode cX8_next_ 35 = .ok (.invokevirtual 263, 3) := by decide +kernel
theorem dX8_next__38 : decode cX8_next_ 38 = .ok (.ireturn, 1) := by decide +kernel
theorem dX8_next__39 : decode cX8_next_ 39 = .ok (.aload_n 0, 1) := by decide +kernel
theorem dX8_next__40 : decode cX8_next_ 40 = .ok (.iload_n 1, 1) := by decide +kernel
theorem dX8_next__41 : decode cX8_next_ 41 = .ok (.invokevirtual 361, 3) := by decide +kernel
theorem dX8_next__44 : decode cX8_next_ 44 = .ok (.aload_n 0, 1) := by decide +kernel
theorem dX8_next__45 : decode cX8_next_ 45 = .ok (.getfield 82, 3) := by decide +kernel
theorem dX8_next__48 : decode cX8_next_ 48 = .ok (.iload_n 2, 1) := by decide +kernel
theorem dX8_next__49 : decode cX8_next_ 49 = .ok (.dup2, 1) := by decide +kernel
theorem dX8_next__50 : decode cX8_next_ 50 = .ok (.iaload, 1) := by decide +kernel
theorem dX8_next__51 : decode cX8_next_ 51 = .ok (.iload_n 3, 1) := by decide +kernel
theorem dX8_next__52 : decode cX8_next_ 52 = .ok (.iadd, 1) := by decide +kernel
theorem dX8_next__53 : decode cX8_next_ 53 = .ok (.iastore, 1) := by decide +kernel
theorem dX8_next__54 : decode cX8_next_ 54 = .ok (.iconst 0, 1) := by decide +kernel
theorem dX8_next__55 : decode cX8_next_ 55 = .ok (.istore 4, 2) := by decide +kernel
theorem dX8_next__57 : decode cX8_next_ 57 = .ok (.iload 4, 2) := by decide +kernel
theorem dX8_next__59 : decode cX8_next_ 59 = .ok (.aload_n 0, 1) := by decide +kernel
theorem dX8_next__60 : decode cX8_next_ 60 = .ok (.getfield 275, 3) := by decide +kernel
theorem dX8_next__63 : decode cX8_next_ 63 = .ok (.if_icmp .ge 59, 3) := by decide +kernel
theorem dX8_next__66 : decode cX8_next_ 66 = .ok (.aload_n 0, 1) := by decide +kernel
theorem dX8_next__67 : decode cX8_next_ 67 = .ok (.aload_n 0, 1) := by decide +kernel
theorem dX8_next__68 : decode cX8_next_ 68 = .ok (.getfield 70, 3) := by decide +kernel
theorem dX8_next__71 : decode cX8_next_ 71 = .ok (.iload 4, 2) := by decide +kernel
theorem dX8_next__73 : decode cX8_next_ 73 = .ok (.iaload, 1) := by decide +kernel
theorem dX8_next__74 : decode cX8_next_ 74 = .ok (.iload_n 2, 1) := by decide +kernel
theorem dX8_next__75 : decode cX8_next_ 75 = .ok (.invokevirtual 374, 3) := by decide +kernel
theorem dX8_next__78 : decode cX8_next_ 78 = .ok (.ifCond .eq 38, 3) := by decide +kernel
theorem dX8_next__81 : decode cX8_next_ 81 = .ok (.aload_n 0, 1) := by decide +kernel
theorem dX8_next__82 : decode cX8_next_ 82 = .ok (.aload_n 0, 1) := by decide +kernel
theorem dX8_next__83 : decode cX8_next_ 83 = .ok (.getfield 70, 3) := by decide +kernel
theorem dX8_next__86 : decode cX8_next_ 86 = .ok (.iload 4, 2) := by decide +kernel
theorem dX8_next__88 : decode cX8_next_ 88 = .ok (.iaload, 1) := by decide +kernel
theorem dX8_next__89 : decode cX8_next_ 89 = .ok (.iload_n 2, 1) := by decide +kernel
theorem dX8_next__90 : decode cX8_next_ 90 = .ok (.aload_n 0, 1) := by decide +kernel
theorem dX8_next__91 : decode cX8_next_ 91 = .ok (.getfield 79, 3) := by decide +kernel
theorem dX8_next__94 : decode cX8_next_ 94 = .ok (.iload_n 2, 1) := by decide +kernel
theorem dX8_next__95 : decode cX8_next_ 95 = .ok (.iaload, 1) := by decide +kernel
theorem dX8_next__96 : decode cX8_next_ 96 = .ok (.iload_n 3, 1) := by decide +kernel
theorem dX8_next__97 : decode cX8_next_ 97 = .ok (.iadd, 1) := by decide +kernel
theorem dX8_next__98 : decode cX8_next_ 98 = .ok (.invokevirtual 329, 3) := by decide +kernel
theorem dX8_next__101 : decode cX8_next_ 101 = .ok (.ifCond .eq 15, 3) := by decide +kernel
theorem dX8_next__104 : decode cX8_next_ 104 = .ok (.aload_n 0, 1) := by decide +kernel
theorem dX8_next__105 : decode cX8_next_ 105 = .ok (.aload_n 0, 1) := by decide +kernel
theorem dX8_next__106 : decode cX8_next_ 106 = .ok (.getfield 70, 3) := by decide +kernel
theorem dX8_next__109 : decode cX8_next_ 109 = .ok (.iload 4, 2) := by decide +kernel
theorem dX8_next__111 : decode cX8_next_ 111 = .ok (.iaload, 1) := by decide +kernel
theorem dX8_next__112 : decode cX8_next_ 112 = .ok (.invokevirtual 272, 3) := by decide +kernel
theorem dX8_next__115 : decode cX8_next_ 115 = .ok (.ireturn, 1) := by decide +kernel
theorem dX8_next__116 : decode cX8_next_ 116 = .ok (.iinc 4 1, 3) := by decide +kernel
theorem dX8_next__119 : decode cX8_next_ 119 = .ok (.goto (-62), 3) := by decide +kernel
theorem dX8_next__122 : decode cX8_next_ 122 = .ok (.aload_n 0, 1) := by decide +kernel
theorem dX8_next__123 : decode cX8_next_ 123 = .ok (.iconst 5, 1) := by decide +kernel
theorem dX8_next__124 : decode cX8_next_ 124 = .ok (.invokevirtual 263, 3) := by decide +kernel
theorem dX8_next__127 : decode cX8_next_ 127 = .ok (.ireturn, 1) := by decide +kernel
theorem dX8_placeNow_0 : decode cX8_placeNow 0 = .ok (.aload_n 0, 1) := by decide +kernel
theorem dX8_placeNow_1 : decode cX8_placeNow 1 = .ok (.getfield 73, 3) := by decide +kernel
theorem dX8_placeNow_4 : decode cX8_placeNow 4 = .ok (.iload_n 1, 1) := by decide +kernel
theorem dX8_placeNow_5 : decode cX8_placeNow 5 = .ok (.iaload, 1) := by decide +kernel
theorem dX8_placeNow_6 : decode cX8_placeNow 6 = .ok (.iconst (-1), 1) := by decide +kernel
theorem dX8_placeNow_7 : decode cX8_placeNow 7 = .ok (.if_icmp .ne 11, 3) := by decide +kernel
theorem dX8_placeNow_10 : decode cX8_placeNow 10 = .ok (.aload_n 0, 1) := by decide +kernel
theorem dX8_placeNow_11 : decode cX8_placeNow 11 = .ok (.iload_n 1, 1) := by decide +kernel
theorem dX8_placeNow_12 : decode cX8_placeNow 12 = .ok (.invokevirtual 288, 3) := by decide +kernel
theorem dX8_placeNow_15 : decode cX8_placeNow 15 = .ok (.goto 14, 3) := by decide +kernel
theorem dX8_placeNow_18 : decode cX8_placeNow 18 = .ok (.aload_n 0, 1) := by decide +kernel
theorem dX8_placeNow_19 : decode cX8_placeNow 19 = .ok (.iload_n 1, 1) := by decide +kernel
theorem dX8_placeNow_20 : decode cX8_placeNow 20 = .ok (.aload_n 0, 1) := by decide +kernel
theorem dX8_placeNow_21 : decode cX8_placeNow 21 = .ok (.getfield 73, 3) := by decide +kernel
theorem dX8_placeNow_24 : decode cX8_placeNow 24 = .ok (.iload_n 1, 1) := by decide +kernel
theorem dX8_placeNow_25 : decode cX8_placeNow 25 = .ok (.iaload, 1) := by decide +kernel
theorem dX8_placeNow_26 : decode cX8_placeNow 26 = .ok (.invokevirtual 310, 3) := by decide +kernel
theorem dX8_placeNow_29 : decode cX8_placeNow 29 = .ok (.ireturn, 1) := by decide +kernel
theorem dX8_envies_0 : decode cX8_envies 0 = .ok (.iload_n 1, 1) := by decide +kernel
theorem dX8_envies_1 : decode cX8_envies 1 = .ok (.invokestatic 358, 3) := by decide +kernel
theorem dX8_envies_4 : decode cX8_envies 4 = .ok (.ifCond .ne 9, 3) := by decide +kernel
theorem dX8_envies_7 : decode cX8_envies 7 = .ok (.aload_n 0, 1) := by decide +kernel
theorem dX8_envies_8 : decode cX8_envies 8 = .ok (.iconst 1, 1) := by decide +kernel
theorem dX8_envies_9 : decode cX8_envies 9 = .ok (.invokevirtual 263, 3) := by decide +kernel
theorem dX8_envies_12 : decode cX8_envies 12 = .ok (.ireturn, 1) := by decide +kernel
theorem dX8_envies_13 : decode cX8_envies 13 = .ok (.aload_n 0, 1) := by decide +kernel
theorem dX8_envies_14 : decode cX8_envies 14 = .ok (.iload_n 2, 1) := by decide +kernel
theorem dX8_envies_15 : decode cX8_envies 15 = .ok (.invokevirtual 315, 3) := by decide +kernel
theorem dX8_envies_18 : decode cX8_envies 18 = .ok (.ifCond .ne 9, 3) := by decide +kernel
theorem dX8_envies_21 : decode cX8_envies 21 = .ok (.aload_n 0, 1) := by decide +kernel
theorem dX8_envies_22 : decode cX8_envies 22 = .ok (.iconst 2, 1) := by decide +kernel
theorem dX8_envies_23 : decode cX8_envies 23 = .ok (.invokevirtual 263, 3) := by decide +kernel
theorem dX8_envies_26 : decode cX8_envies 26 = .ok (.ireturn, 1) := by decide +kernel
theorem dX8_envies_27 : decode cX8_envies 27 = .ok (.aload_n 0, 1) := by decide +kernel
theorem dX8_envies_28 : decode cX8_envies 28 = .ok (.iload_n 1, 1) := by decide +kernel
theorem dX8_envies_29 : decode cX8_envies 29 = .ok (.invokevirtual 361, 3) := by decide +kernel
theorem dX8_envies_32 : decode cX8_envies 32 = .ok (.iconst 0, 1) := by decide +kernel
theorem dX8_envies_33 : decode cX8_envies 33 = .ok (.istore_n 3, 1) := by decide +kernel
theorem dX8_envies_34 : decode cX8_envies 34 = .ok (.iconst 0, 1) := by decide +kernel
theorem dX8_envies_35 : decode cX8_envies 35 = .ok (.istore 4, 2) := by decide +kernel
theorem dX8_envies_37 : decode cX8_envies 37 = .ok (.iload 4, 2) := by decide +kernel
theorem dX8_envies_39 : decode cX8_envies 39 = .ok (.aload_n 0, 1) := by decide +kernel
theorem dX8_envies_40 : decode cX8_envies 40 = .ok (.getfield 275, 3) := by decide +kernel
theorem dX8_envies_43 : decode cX8_envies 43 = .ok (.if_icmp .ge 80, 3) := by decide +kernel
theorem dX8_envies_46 : decode cX8_envies 46 = .ok (.aload_n 0, 1) := by decide +kernel
theorem dX8_envies_47 : decode cX8_envies 47 = .ok (.getfield 73, 3) := by decide +kernel
theorem dX8_envies_50 : decode cX8_envies 50 = .ok (.iload 4, 2) := by decide +kernel
theorem dX8_envies_52 : decode cX8_envies 52 = .ok (.iaload, 1) := by decide +kernel
theorem dX8_envies_53 : decode cX8_envies 53 = .ok (.iconst (-1), 1) := by decide +kernel
theorem dX8_envies_54 : decode cX8_envies 54 = .ok (.if_icmp .eq 63, 3) := by decide +kernel
theorem dX8_envies_57 : decode cX8_envies 57 = .ok (.aload_n 0, 1) := by decide +kernel
theorem dX8_envies_58 : decode cX8_envies 58 = .ok (.getfield 64, 3) := by decide +kernel
theorem dX8_envies_61 : decode cX8_envies 61 = .ok (.iload 4, 2) := by decide +kernel
theorem dX8_envies_63 : decode cX8_envies 63 = .ok (.iaload, 1) := by decide +kernel
theorem dX8_envies_64 : decode cX8_envies 64 = .ok (.aload_n 0, 1) := by decide +kernel
theorem dX8_envies_65 : decode cX8_envies 65 = .ok (.getfield 64, 3) := by decide +kernel
theorem dX8_envies_68 : decode cX8_envies 68 = .ok (.iload_n 2, 1) := by decide +kernel
theorem dX8_envies_69 : decode cX8_envies 69 = .ok (.iaload, 1) := by decide +kernel
theorem dX8_envies_70 : decode cX8_envies 70 = .ok (.if_icmp .lt 6, 3) := by decide +kernel
theorem dX8_envies_73 : decode cX8_envies 73 = .ok (.goto 44, 3) := by decide +kernel
theorem dX8_envies_76 : decode cX8_envies 76 = .ok (.aload_n 0, 1) := by decide +kernel
theorem dX8_envies_77 : decode cX8_envies 77 = .ok (.iload_n 2, 1) := by decide +kernel
theorem dX8_envies_78 : decode cX8_envies 78 = .ok (.aload_n 0, 1) := by decide +kernel
theorem dX8_envies_79 : decode cX8_envies 79 = .ok (.getfield 73, 3) := by decide +kernel
theorem dX8_envies_82 : decode cX8_envies 82 = .ok (.iload 4, 2) := by decide +kernel
theorem dX8_envies_84 : decode cX8_envies 84 = .ok (.iaload, 1) := by decide +kernel
theorem dX8_envies_85 : decode cX8_envies 85 = .ok (.invokevirtual 310, 3) := by decide +kernel
theorem dX8_envies_88 : decode cX8_envies 88 = .ok (.istore 5, 2) := by decide +kernel
theorem dX8_envies_90 : decode cX8_envies 90 = .ok (.iload_n 3, 1) := by decide +kernel
theorem dX8_envies_91 : decode cX8_envies 91 = .ok (.iload 5, 2) := by decide +kernel
theorem dX8_envies_93 : decode cX8_envies 93 = .ok (.iconst (-1), 1) := by decide +kernel
theorem dX8_envies_94 : decode cX8_envies 94 = .ok (.if_icmp .eq 20, 3) := by decide +kernel
theorem dX8_envies_97 : decode cX8_envies 97 = .ok (.iload 5, 2) := by decide +kernel
theorem dX8_envies_99 : decode cX8_envies 99 = .ok (.aload_n 0, 1) := by decide +kernel
theorem dX8_envies_100 : decode cX8_envies 100 = .ok (.iload_n 2, 1) := by decide +kernel
theorem dX8_envies_101 : decode cX8_envies 101 = .ok (.invokevirtual 379, 3) := by decide +kernel
theorem dX8_envies_104 : decode cX8_envies 104 = .ok (.if_icmp .ge 10, 3) := by decide +kernel
theorem dX8_envies_107 : decode cX8_envies 107 = .ok (.iconst 1, 1) := by decide +kernel
theorem dX8_envies_108 : decode cX8_envies 108 = .ok (.iload 4, 2) := by decide +kernel
theorem dX8_envies_110 : decode cX8_envies 110 = .ok (.ishl, 1) := by decide +kernel
theorem dX8_envies_111 : decode cX8_envies 111 = .ok (.goto 4, 3) := by decide +kernel
theorem dX8_envies_114 : decode cX8_envies 114 = .ok (.iconst 0, 1) := by decide +kernel
theorem dX8_envies_115 : decode cX8_envies 115 = .ok (.ior, 1) := by decide +kernel
theorem dX8_envies_116 : decode cX8_envies 116 = .ok (.istore_n 3, 1) := by decide +kernel
theorem dX8_envies_117 : decode cX8_envies 117 = .ok (.iinc 4 1, 3) := by decide +kernel
theorem dX8_envies_120 : decode cX8_envies 120 = .ok (.goto (-83), 3) := by decide +kernel
theorem dX8_envies_123 : decode cX8_envies 123 = .ok (.aload_n 0, 1) := by decide +kernel
theorem dX8_envies_124 : decode cX8_envies 124 = .ok (.iload_n 3, 1) := by decide +kernel
theorem dX8_envies_125 : decode cX8_envies 125 = .ok (.invokevirtual 272, 3) := by decide +kernel
theorem dX8_envies_128 : decode cX8_envies 128 = .ok (.ireturn, 1) := by decide +kernel
theorem dX8_spoils_0 : decode cX8_spoils 0 = .ok (.iload_n 1, 1) := by decide +kernel
theorem dX8_spoils_1 : decode cX8_spoils 1 = .ok (.invokestatic 358, 3) := by decide +kernel
theorem dX8_spoils_4 : decode cX8_spoils 4 = .ok (.ifCond .ne 9, 3) := by decide +kernel
theorem dX8_spoils_7 : decode cX8_spoils 7 = .ok (.aload_n 0, 1) := by decide +kernel
theorem dX8_spoils_8 : decode cX8_spoils 8 = .ok (.iconst 1, 1) := by decide +kernel
theorem dX8_spoils_9 : decode cX8_spoils 9 = .ok (.invokevirtual 263, 3) := by decide +kernel
theorem dX8_spoils_12 : decode cX8_spoils 12 = .ok (.ireturn, 1) := by decide +kernel
theorem dX8_spoils_13 : decode cX8_spoils 13 = .ok (.aload_n 0, 1) := by decide +kernel
theorem dX8_spoils_14 : decode cX8_spoils 14 = .ok (.iload_n 2, 1) := by decide +kernel
theorem dX8_spoils_15 : decode cX8_spoils 15 = .ok (.invokevirtual 315, 3) := by decide +kernel
theorem dX8_spoils_18 : decode cX8_spoils 18 = .ok (.ifCond .ne 9, 3) := by decide +kernel
theorem dX8_spoils_21 : decode cX8_spoils 21 = .ok (.aload_n 0, 1) := by decide +kernel
theorem dX8_spoils_22 : decode cX8_spoils 22 = .ok (.iconst 2, 1) := by decide +kernel
theorem dX8_spoils_23 : decode cX8_spoils 23 = .ok (.invokevirtual 263, 3) := by decide +kernel
theorem dX8_spoils_26 : decode cX8_spoils 26 = .ok (.ireturn, 1) := by decide +kernel
theorem dX8_spoils_27 : decode cX8_spoils 27 = .ok (.aload_n 0, 1) := by decide +kernel
theorem dX8_spoils_28 : decode cX8_spoils 28 = .ok (.iload_n 1, 1) := by decide +kernel
theorem dX8_spoils_29 : decode cX8_spoils 29 = .ok (.invokevirtual 361, 3) := by decide +kernel
theorem dX8_spoils_32 : decode cX8_spoils 32 = .ok (.iconst 0, 1) := by decide +kernel
theorem dX8_spoils_33 : decode cX8_spoils 33 = .ok (.istore_n 3, 1) := by decide +kernel
theorem dX8_spoils_34 : decode cX8_spoils 34 = .ok (.iload_n 3, 1) := by decide +kernel
theorem dX8_spoils_35 : decode cX8_spoils 35 = .ok (.aload_n 0, 1) := by decide +kernel
theorem dX8_spoils_36 : decode cX8_spoils 36 = .ok (.getfield 275, 3) := by decide +kernel
theorem dX8_spoils_39 : decode cX8_spoils 39 = .ok (.if_icmp .ge 20, 3) := by decide +kernel
theorem dX8_spoils_42 : decode cX8_spoils 42 = .ok (.aload_n 0, 1) := by decide +kernel
theorem dX8_spoils_43 : decode cX8_spoils 43 = .ok (.getfield 85, 3) := by decide +kernel
theorem dX8_spoils_46 : decode cX8_spoils 46 = .ok (.iload_n 3, 1) := by decide +kernel
theorem dX8_spoils_47 : decode cX8_spoils 47 = .ok (.aload_n 0, 1) := by decide +kernel
theorem dX8_spoils_48 : decode cX8_spoils 48 = .ok (.iload_n 3, 1) := by decide +kernel
theorem dX8_spoils_49 : decode cX8_spoils 49 = .ok (.invokevirtual 379, 3) := by decide +kernel
theorem dX8_spoils_52 : decode cX8_spoils 52 = .ok (.iastore, 1) := by decide +kernel
theorem dX8_spoils_53 : decode cX8_spoils 53 = .ok (.iinc 3 1, 3) := by decide +kernel
theorem dX8_spoils_56 : decode cX8_spoils 56 = .ok (.goto (-22), 3) := by decide +kernel
theorem dX8_spoils_59 : decode cX8_spoils 59 = .ok (.aload_n 0, 1) := by decide +kernel
theorem dX8_spoils_60 : decode cX8_spoils 60 = .ok (.iload_n 2, 1) := by decide +kernel
theorem dX8_spoils_61 : decode cX8_spoils 61 = .ok (.invokevirtual 355, 3) := by decide +kernel
theorem dX8_spoils_64 : decode cX8_spoils 64 = .ok (.iconst 0, 1) := by decide +kernel
theorem dX8_spoils_65 : decode cX8_spoils 65 = .ok (.istore_n 3, 1) := by decide +kernel
theorem dX8_spoils_66 : decode cX8_spoils 66 = .ok (.iconst 0, 1) := by decide +kernel
theorem dX8_spoils_67 : decode cX8_spoils 67 = .ok (.istore 4, 2) := by decide +kernel
theorem dX8_spoils_69 : decode cX8_spoils 69 = .ok (.iload 4, 2) := by decide +kernel
theorem dX8_spoils_71 : decode cX8_spoils 71 = .ok (.aload_n 0, 1) := by decide +kernel
theorem dX8_spoils_72 : decode cX8_spoils 72 = .ok (.getfield 275, 3) := by decide +kernel
theorem dX8_spoils_75 : decode cX8_spoils 75 = .ok (.if_icmp .ge 42, 3) := by decide +kernel
theorem dX8_spoils_78 : decode cX8_spoils 78 = .ok (.iload_n 3, 1) := by decide +kernel
theorem dX8_spoils_79 : decode cX8_spoils 79 = .ok (.iload 4, 2) := by decide +kernel
theorem dX8_spoils_81 : decode cX8_spoils 81 = .ok (.iload_n 2, 1) := by decide +kernel
theorem dX8_spoils_82 : decode cX8_spoils 82 = .ok (.if_icmp .eq 26, 3) := by decide +kernel
theorem dX8_spoils_85 : decode cX8_spoils 85 = .ok (.aload_n 0, 1) := by decide +kernel
theorem dX8_spoils_86 : decode cX8_spoils 86 = .ok (.iload 4, 2) := by decide +kernel
theorem dX8_spoils_88 : decode cX8_spoils 88 = .ok (.invokevirtual 379, 3) := by decide +kernel
theorem dX8_spoils_91 : decode cX8_spoils 91 = .ok (.aload_n 0, 1) := by decide +kernel
theorem dX8_spoils_92 : decode cX8_spoils 92 = .ok (.getfield 85, 3) := by decide +kernel
theorem dX8_spoils_95 : decode cX8_spoils 95 = .ok (.iload 4, 2) := by decide +kernel
theorem dX8_spoils_97 : decode cX8_spoils 97 = .ok (.iaload, 1) := by decide +kernel
theorem dX8_spoils_98 : decode cX8_spoils 98 = .ok (.if_icmp .ge 10, 3) := by decide +kernel
theorem dX8_spoils_101 : decode cX8_spoils 101 = .ok (.iconst 1, 1) := by decide +kernel
theorem dX8_spoils_102 : decode cX8_spoils 102 = .ok (.iload 4, 2) := by decide +kernel
theorem dX8_spoils_104 : decode cX8_spoils 104 = .ok (.ishl, 1) := by decide +kernel
theorem dX8_spoils_105 : decode cX8_spoils 105 = .ok (.goto 4, 3) := by decide +kernel
theorem dX8_spoils_108 : decode cX8_spoils 108 = .ok (.iconst 0, 1) := by decide +kernel
theorem dX8_spoils_109 : decode cX8_spoils 109 = .ok (.ior, 1) := by decide +kernel
theorem dX8_spoils_110 : decode cX8_spoils 110 = .ok (.istore_n 3, 1) := by decide +kernel
theorem dX8_spoils_111 : decode cX8_spoils 111 = .ok (.iinc 4 1, 3) := by decide +kernel
theorem dX8_spoils_114 : decode cX8_spoils 114 = .ok (.goto (-45), 3) := by decide +kernel
theorem dX8_spoils_117 : decode cX8_spoils 117 = .ok (.aload_n 0, 1) := by decide +kernel
theorem dX8_spoils_118 : decode cX8_spoils 118 = .ok (.iload_n 3, 1) := by decide +kernel
theorem dX8_spoils_119 : decode cX8_spoils 119 = .ok (.invokevirtual 272, 3) := by decide +kernel
theorem dX8_spoils_122 : decode cX8_spoils 122 = .ok (.ireturn, 1) := by decide +kernel
theorem dX8_behindNow_0 : decode cX8_behindNow 0 = .ok (.iconst 0, 1) := by decide +kernel
theorem dX8_behindNow_1 : decode cX8_behindNow 1 = .ok (.istore_n 2, 1) := by decide +kernel
theorem dX8_behindNow_2 : decode cX8_behindNow 2 = .ok (.aload_n 0, 1) := by decide +kernel
theorem dX8_behindNow_3 : decode cX8_behindNow 3 = .ok (.getfield 49, 3) := by decide +kernel
theorem dX8_behindNow_6 : decode cX8_behindNow 6 = .ok (.iload_n 2, 1) := by decide +kernel
theorem dX8_behindNow_7 : decode cX8_behindNow 7 = .ok (.iaload, 1) := by decide +kernel
theorem dX8_behindNow_8 : decode cX8_behindNow 8 = .ok (.iload_n 1, 1) := by decide +kernel
theorem dX8_behindNow_9 : decode cX8_behindNow 9 = .ok (.invokestatic 240, 3) := by decide +kernel
theorem dX8_behindNow_12 : decode cX8_behindNow 12 = .ok (.ifCond .ne 9, 3) := by decide +kernel
theorem dX8_behindNow_15 : decode cX8_behindNow 15 = .ok (.iinc 2 1, 3) := by decide +kernel
theorem dX8_behindNow_18 : decode cX8_behindNow 18 = .ok (.goto (-16), 3) := by decide +kernel
theorem dX8_behindNow_21 : decode cX8_behindNow 21 = .ok (.aload_n 0, 1) := by decide +kernel
theorem dX8_behindNow_22 : decode cX8_behindNow 22 = .ok (.getfield 73, 3) := by decide +kernel
theorem dX8_behindNow_25 : decode cX8_behindNow 25 = .ok (.iload_n 2, 1) := by decide +kernel
theorem dX8_behindNow_26 : decode cX8_behindNow 26 = .ok (.iaload, 1) := by decide +kernel
theorem dX8_behindNow_27 : decode cX8_behindNow 27 = .ok (.iconst (-1), 1) := by decide +kernel
theorem dX8_behindNow_28 : decode cX8_behindNow 28 = .ok (.if_icmp .eq 31, 3) := by decide +kernel
theorem dX8_behindNow_31 : decode cX8_behindNow 31 = .ok (.aload_n 0, 1) := by decide +kernel
theorem dX8_behindNow_32 : decode cX8_behindNow 32 = .ok (.getfield 73, 3) := by decide +kernel
theorem dX8_behindNow_35 : decode cX8_behindNow 35 = .ok (.iload_n 2, 1) := by decide +kernel
theorem dX8_behindNow_36 : decode cX8_behindNow 36 = .ok (.iaload, 1) := by decide +kernel
theorem dX8_behindNow_37 : decode cX8_behindNow 37 = .ok (.aload_n 0, 1) := by decide +kernel
theorem dX8_behindNow_38 : decode cX8_behindNow 38 = .ok (.iload_n 2, 1) := by decide +kernel
theorem dX8_behindNow_39 : decode cX8_behindNow 39 = .ok (.iconst 0, 1) := by decide +kernel
theorem dX8_behindNow_40 : decode cX8_behindNow 40 = .ok (.invokevirtual 284, 3) := by decide +kernel
theorem dX8_behindNow_43 : decode cX8_behindNow 43 = .ok (.if_icmp .ne 7, 3) := by decide +kernel
theorem dX8_behindNow_46 : decode cX8_behindNow 46 = .ok (.iconst 0, 1) := by decide +kernel
theorem dX8_behindNow_47 : decode cX8_behindNow 47 = .ok (.goto 11, 3) := by decide +kernel
theorem dX8_behindNow_50 : decode cX8_behindNow 50 = .ok (.aload_n 0, 1) := by decide +kernel
theorem dX8_behindNow_51 : decode cX8_behindNow 51 = .ok (.getfield 7, 3) := by decide +kernel
theorem dX8_behindNow_54 : decode cX8_behindNow 54 = .ok (.iconst 0, 1) := by decide +kernel
theorem dX8_behindNow_55 : decode cX8_behindNow 55 = .ok (.iload_n 1, 1) := by decide +kernel
theorem dX8_behindNow_56 : decode cX8_behindNow 56 = .ok (.iadd, 1) := by decide +kernel
theorem dX8_behindNow_57 : decode cX8_behindNow 57 = .ok (.iaload, 1) := by decide +kernel
theorem dX8_behindNow_58 : decode cX8_behindNow 58 = .ok (.ireturn, 1) := by decide +kernel
theorem dX8_behindNow_59 : decode cX8_behindNow 59 = .ok (.aload_n 0, 1) := by decide +kernel
theorem dX8_behindNow_60 : decode cX8_behindNow 60 = .ok (.iload_n 2, 1) := by decide +kernel
theorem dX8_behindNow_61 : decode cX8_behindNow 61 = .ok (.invokevirtual 288, 3) := by decide +kernel
theorem dX8_behindNow_64 : decode cX8_behindNow 64 = .ok (.ifCond .ne 14, 3) := by decide +kernel
theorem dX8_behindNow_67 : decode cX8_behindNow 67 = .ok (.aload_n 0, 1) := by decide +kernel
theorem dX8_behindNow_68 : decode cX8_behindNow 68 = .ok (.getfield 7, 3) := by decide +kernel
theorem dX8_behindNow_71 : decode cX8_behindNow 71 = .ok (.iconst 0, 1) := by decide +kernel
theorem dX8_behindNow_72 : decode cX8_behindNow 72 = .ok (.iload_n 1, 1) := by decide +kernel
theorem dX8_behindNow_73 : decode cX8_behindNow 73 = .ok (.iadd, 1) := by decide +kernel
theorem dX8_behindNow_74 : decode cX8_behindNow 74 = .ok (.iaload, 1) := by decide +kernel
theorem dX8_behindNow_75 : decode cX8_behindNow 75 = .ok (.goto 18, 3) := by decide +kernel
theorem dX8_behindNow_78 : decode cX8_behindNow 78 = .ok (.bipush 20, 2) := by decide +kernel
theorem dX8_behindNow_80 : decode cX8_behindNow 80 = .ok (.aload_n 0, 1) := by decide +kernel
theorem dX8_behindNow_81 : decode cX8_behindNow 81 = .ok (.getfield 7, 3) := by decide +kernel
theorem dX8_behindNow_84 : decode cX8_behindNow 84 = .ok (.iconst 0, 1) := by decide +kernel
theorem dX8_behindNow_85 : decode cX8_behindNow 85 = .ok (.iload_n 1, 1) := by decide +kernel
theorem dX8_behindNow_86 : decode cX8_behindNow 86 = .ok (.iadd, 1) := by decide +kernel
theorem dX8_behindNow_87 : decode cX8_behindNow 87 = .ok (.iaload, 1) := by decide +kernel
theorem dX8_behindNow_88 : decode cX8_behindNow 88 = .ok (.iconst 1, 1) := by decide +kernel
theorem dX8_behindNow_89 : decode cX8_behindNow 89 = .ok (.iadd, 1) := by decide +kernel
theorem dX8_behindNow_90 : decode cX8_behindNow 90 = .ok (.invokestatic 366, 3) := by decide +kernel
theorem dX8_behindNow_93 : decode cX8_behindNow 93 = .ok (.ireturn, 1) := by decide +kernel
theorem dX8_behind_0 : decode cX8_behind 0 = .ok (.iload_n 1, 1) := by decide +kernel
theorem dX8_behind_1 : decode cX8_behind 1 = .ok (.invokestatic 358, 3) := by decide +kernel
theorem dX8_behind_4 : decode cX8_behind 4 = .ok (.ifCond .ne 9, 3) := by decide +kernel
theorem dX8_behind_7 : decode cX8_behind 7 = .ok (.aload_n 0, 1) := by decide +kernel
theorem dX8_behind_8 : decode cX8_behind 8 = .ok (.iconst 1, 1) := by decide +kernel
theorem dX8_behind_9 : decode cX8_behind 9 = .ok (.invokevirtual 263, 3) := by decide +kernel
theorem dX8_behind_12 : decode cX8_behind 12 = .ok (.ireturn, 1) := by decide +kernel
theorem dX8_behind_13 : decode cX8_behind 13 = .ok (.aload_n 0, 1) := by decide +kernel
theorem dX8_behind_14 : decode cX8_behind 14 = .ok (.iload_n 2, 1) := by decide +kernel
theorem dX8_behind_15 : decode cX8_behind 15 = .ok (.invokevirtual 293, 3) := by decide +kernel
theorem dX8_behind_18 : decode cX8_behind 18 = .ok (.ifCond .ne 9, 3) := by decide +kernel
theorem dX8_behind_21 : decode cX8_behind 21 = .ok (.aload_n 0, 1) := by decide +kernel
theorem dX8_behind_22 : decode cX8_behind 22 = .ok (.iconst 2, 1) := by decide +kernel
theorem dX8_behind_23 : decode cX8_behind 23 = .ok (.invokevirtual 263, 3) := by decide +kernel
theorem dX8_behind_26 : decode cX8_behind 26 = .ok (.ireturn, 1) := by decide +kernel
theorem dX8_behind_27 : decode cX8_behind 27 = .ok (.aload_n 0, 1) := by decide +kernel
theorem dX8_behind_28 : decode cX8_behind 28 = .ok (.iload_n 1, 1) := by decide +kernel
theorem dX8_behind_29 : decode cX8_behind 29 = .ok (.invokevirtual 361, 3) := by decide +kernel
theorem dX8_behind_32 : decode cX8_behind 32 = .ok (.aload_n 0, 1) := by decide +kernel
theorem dX8_behind_33 : decode cX8_behind 33 = .ok (.aload_n 0, 1) := by decide +kernel
theorem dX8_behind_34 : decode cX8_behind 34 = .ok (.iload_n 2, 1) := by decide +kernel
theorem dX8_behind_35 : decode cX8_behind 35 = .ok (.invokevirtual 382, 3) := by decide +kernel
theorem dX8_behind_38 : decode cX8_behind 38 = .ok (.invokevirtual 272, 3) := by decide +kernel
theorem dX8_behind_41 : decode cX8_behind 41 = .ok (.ireturn, 1) := by decide +kernel
theorem dX8_hasFirst_0 : decode cX8_hasFirst 0 = .ok (.aload_n 0, 1) := by decide +kernel
theorem dX8_hasFirst_1 : decode cX8_hasFirst 1 = .ok (.getfield 73, 3) := by decide +kernel
theorem dX8_hasFirst_4 : decode cX8_hasFirst 4 = .ok (.iload_n 1, 1) := by decide +kernel
theorem dX8_hasFirst_5 : decode cX8_hasFirst 5 = .ok (.iaload, 1) := by decide +kernel
theorem dX8_hasFirst_6 : decode cX8_hasFirst 6 = .ok (.iconst (-1), 1) := by decide +kernel
theorem dX8_hasFirst_7 : decode cX8_hasFirst 7 = .ok (.if_icmp .eq 22, 3) := by decide +kernel
theorem dX8_hasFirst_10 : decode cX8_hasFirst 10 = .ok (.aload_n 0, 1) := by decide +kernel
theorem dX8_hasFirst_11 : decode cX8_hasFirst 11 = .ok (.getfield 73, 3) := by decide +kernel
theorem dX8_hasFirst_14 : decode cX8_hasFirst 14 = .ok (.iload_n 1, 1) := by decide +kernel
theorem dX8_hasFirst_15 : decode cX8_hasFirst 15 = .ok (.iaload, 1) := by decide +kernel
theorem dX8_hasFirst_16 : decode cX8_hasFirst 16 = .ok (.aload_n 0, 1) := by decide +kernel
theorem dX8_hasFirst_17 : decode cX8_hasFirst 17 = .ok (.iload_n 1, 1) := by decide +kernel
theorem dX8_hasFirst_18 : decode cX8_hasFirst 18 = .ok (.iconst 0, 1) := by decide +kernel
theorem dX8_hasFirst_19 : decode cX8_hasFirst 19 = .ok (.invokevirtual 284, 3) := by decide +kernel
theorem dX8_hasFirst_22 : decode cX8_hasFirst 22 = .ok (.if_icmp .ne 7, 3) := by decide +kernel
theorem dX8_hasFirst_25 : decode cX8_hasFirst 25 = .ok (.iconst 1, 1) := by decide +kernel
theorem dX8_hasFirst_26 : decode cX8_hasFirst 26 = .ok (.goto 4, 3) := by decide +kernel
theorem dX8_hasFirst_29 : decode cX8_hasFirst 29 = .ok (.iconst 0, 1) := by decide +kernel
theorem dX8_hasFirst_30 : decode cX8_hasFirst 30 = .ok (.ireturn, 1) := by decide +kernel
theorem dX8_lucky_0 : decode cX8_lucky 0 = .ok (.iload_n 1, 1) := by decide +kernel
theorem dX8_lucky_1 : decode cX8_lucky 1 = .ok (.i2l, 1) := by decide +kernel
theorem dX8_lucky_2 : decode cX8_lucky 2 = .ok (.lconst 0, 1) := by decide +kernel
theorem dX8_lucky_3 : decode cX8_lucky 3 = .ok (.ldc2_w 385, 3) := by decide +kernel
theorem dX8_lucky_6 : decode cX8_lucky 6 = .ok (.invokestatic 128, 3) := by decide +kernel
theorem dX8_lucky_9 : decode cX8_lucky 9 = .ok (.ifCond .ne 9, 3) := by decide +kernel
theorem dX8_lucky_12 : decode cX8_lucky 12 = .ok (.aload_n 0, 1) := by decide +kernel
theorem dX8_lucky_13 : decode cX8_lucky 13 = .ok (.iconst 1, 1) := by decide +kernel
theorem dX8_lucky_14 : decode cX8_lucky 14 = .ok (.invokevirtual 263, 3) := by decide +kernel
theorem dX8_lucky_17 : decode cX8_lucky 17 = .ok (.ireturn, 1) := by decide +kernel
theorem dX8_lucky_18 : decode cX8_lucky 18 = .ok (.aload_n 0, 1) := by decide +kernel
theorem dX8_lucky_19 : decode cX8_lucky 19 = .ok (.iload_n 2, 1) := by decide +kernel
theorem dX8_lucky_20 : decode cX8_lucky 20 = .ok (.invokevirtual 315, 3) := by decide +kernel
theorem dX8_lucky_23 : decode cX8_lucky 23 = .ok (.ifCond .ne 9, 3) := by decide +kernel
theorem dX8_lucky_26 : decode cX8_lucky 26 = .ok (.aload_n 0, 1) := by decide +kernel
theorem dX8_lucky_27 : decode cX8_lucky 27 = .ok (.iconst 2, 1) := by decide +kernel
theorem dX8_lucky_28 : decode cX8_lucky 28 = .ok (.invokevirtual 263, 3) := by decide +kernel
theorem dX8_lucky_31 : decode cX8_lucky 31 = .ok (.ireturn, 1) := by decide +kernel
theorem dX8_lucky_32 : decode cX8_lucky 32 = .ok (.iload_n 1, 1) := by decide +kernel
theorem dX8_lucky_33 : decode cX8_lucky 33 = .ok (.istore_n 3, 1) := by decide +kernel
theorem dX8_lucky_34 : decode cX8_lucky 34 = .ok (.iload_n 3, 1) := by decide +kernel
theorem dX8_lucky_35 : decode cX8_lucky 35 = .ok (.iload_n 1, 1) := by decide +kernel
theorem dX8_lucky_36 : decode cX8_lucky 36 = .ok (.bipush 50, 2) := by decide +kernel
theorem dX8_lucky_38 : decode cX8_lucky 38 = .ok (.iadd, 1) := by decide +kernel
theorem dX8_lucky_39 : decode cX8_lucky 39 = .ok (.if_icmp .ge 28, 3) := by decide +kernel
theorem dX8_lucky_42 : decode cX8_lucky 42 = .ok (.aload_n 0, 1) := by decide +kernel
theorem dX8_lucky_43 : decode cX8_lucky 43 = .ok (.iload_n 3, 1) := by decide +kernel
theorem dX8_lucky_44 : decode cX8_lucky 44 = .ok (.invokevirtual 361, 3) := by decide +kernel
theorem dX8_lucky_47 : decode cX8_lucky 47 = .ok (.aload_n 0, 1) := by decide +kernel
theorem dX8_lucky_48 : decode cX8_lucky 48 = .ok (.iload_n 2, 1) := by decide +kernel
theorem dX8_lucky_49 : decode cX8_lucky 49 = .ok (.invokevirtual 387, 3) := by decide +kernel
theorem dX8_lucky_52 : decode cX8_lucky 52 = .ok (.ifCond .eq 9, 3) := by decide +kernel
theorem dX8_lucky_55 : decode cX8_lucky 55 = .ok (.aload_n 0, 1) := by decide +kernel
theorem dX8_lucky_56 : decode cX8_lucky 56 = .ok (.iload_n 3, 1) := by decide +kernel
theorem dX8_lucky_57 : decode cX8_lucky 57 = .ok (.invokevirtual 272, 3) := by decide +kernel
theorem dX8_lucky_60 : decode cX8_lucky 60 = .ok (.ireturn, 1) := by decide +kernel
theorem dX8_lucky_61 : decode cX8_lucky 61 = .ok (.iinc 3 1, 3) := by decide +kernel
theorem dX8_lucky_64 : decode cX8_lucky 64 = .ok (.goto (-30), 3) := by decide +kernel
theorem dX8_lucky_67 : decode cX8_lucky 67 = .ok (.aload_n 0, 1) := by decide +kernel
theorem dX8_lucky_68 : decode cX8_lucky 68 = .ok (.iconst 5, 1) := by decide +kernel
theorem dX8_lucky_69 : decode cX8_lucky 69 = .ok (.invokevirtual 263, 3) := by decide +kernel
theorem dX8_lucky_72 : decode cX8_lucky 72 = .ok (.ireturn, 1) := by decide +kernel
theorem dX8_laysAll_0 : decode cX8_laysAll 0 = .ok (.aload_n 0, 1) := by decide +kernel
theorem dX8_laysAll_1 : decode cX8_laysAll 1 = .ok (.invokevirtual 281, 3) := by decide +kernel
theorem dX8_laysAll_4 : decode cX8_laysAll 4 = .ok (.aload_n 0, 1) := by decide +kernel
theorem dX8_laysAll_5 : decode cX8_laysAll 5 = .ok (.invokevirtual 390, 3) := by decide +kernel
theorem dX8_laysAll_8 : decode cX8_laysAll 8 = .ok (.return_, 1) := by decide +kernel
theorem dX8_allOrders_0 : decode cX8_allOrders 0 = .ok (.iconst 0, 1) := by decide +kernel
theorem dX8_allOrders_1 : decode cX8_allOrders 1 = .ok (.istore_n 1, 1) := by decide +kernel
theorem dX8_allOrders_2 : decode cX8_allOrders 2 = .ok (.iload_n 1, 1) := by decide +kernel
theorem dX8_allOrders_3 : decode cX8_allOrders 3 = .ok (.bipush 35, 2) := by decide +kernel
theorem dX8_allOrders_5 : decode cX8_allOrders 5 = .ok (.if_icmp .ge 16, 3) := by decide +kernel
theorem dX8_allOrders_8 : decode cX8_allOrders 8 = .ok (.aload_n 0, 1) := by decide +kernel
theorem dX8_allOrders_9 : decode cX8_allOrders 9 = .ok (.getfield 88, 3) := by decide +kernel
theorem dX8_allOrders_12 : decode cX8_allOrders 12 = .ok (.iload_n 1, 1) := by decide +kernel
theorem dX8_allOrders_13 : decode cX8_allOrders 13 = .ok (.lconst 0, 1) := by decide +kernel
theorem dX8_allOrders_14 : decode cX8_allOrders 14 = .ok (.lastore, 1) := by decide +kernel
theorem dX8_allOrders_15 : decode cX8_allOrders 15 = .ok (.iinc 1 1, 3) := by decide +kernel
theorem dX8_allOrders_18 : decode cX8_allOrders 18 = .ok (.goto (-16), 3) := by decide +kernel
theorem dX8_allOrders_21 : decode cX8_allOrders 21 = .ok (.iconst 0, 1) := by decide +kernel
theorem dX8_allOrders_22 : decode cX8_allOrders 22 = .ok (.istore_n 1, 1) := by decide +kernel
theorem dX8_allOrders_23 : decode cX8_allOrders 23 = .ok (.iload_n 1, 1) := by decide +kernel
theorem dX8_allOrders_24 : decode cX8_allOrders 24 = .ok (.bipush 49, 2) := by decide +kernel
theorem dX8_allOrders_26 : decode cX8_allOrders 26 = .ok (.if_icmp .ge 16, 3) := by decide +kernel
theorem dX8_allOrders_29 : decode cX8_allOrders 29 = .ok (.aload_n 0, 1) := by decide +kernel
theorem dX8_allOrders_30 : decode cX8_allOrders 30 = .ok (.getfield 97, 3) := by decide +kernel
theorem dX8_allOrders_33 : decode cX8_allOrders 33 = .ok (.iload_n 1, 1) := by decide +kernel
theorem dX8_allOrders_34 : decode cX8_allOrders 34 = .ok (.lconst 0, 1) := by decide +kernel
theorem dX8_allOrders_35 : decode cX8_allOrders 35 = .ok (.lastore, 1) := by decide +kernel
theorem dX8_allOrders_36 : decode cX8_allOrders 36 = .ok (.iinc 1 1, 3) := by decide +kernel
theorem dX8_allOrders_39 : decode cX8_allOrders 39 = .ok (.goto (-16), 3) := by decide +kernel
theorem dX8_allOrders_42 : decode cX8_allOrders 42 = .ok (.iconst 0, 1) := by decide +kernel
theorem dX8_allOrders_43 : decode cX8_allOrders 43 = .ok (.istore_n 1, 1) := by decide +kernel
theorem dX8_allOrders_44 : decode cX8_allOrders 44 = .ok (.iload_n 1, 1) := by decide +kernel
theorem dX8_allOrders_45 : decode cX8_allOrders 45 = .ok (.bipush 7, 2) := by decide +kernel
theorem dX8_allOrders_47 : decode cX8_allOrders 47 = .ok (.if_icmp .ge 23, 3) := by decide +kernel
theorem dX8_allOrders_50 : decode cX8_allOrders 50 = .ok (.aload_n 0, 1) := by decide +kernel
theorem dX8_allOrders_51 : decode cX8_allOrders 51 = .ok (.getfield 91, 3) := by decide +kernel
theorem dX8_allOrders_54 : decode cX8_allOrders 54 = .ok (.iload_n 1, 1) := by decide +kernel
theorem dX8_allOrders_55 : decode cX8_allOrders 55 = .ok (.lconst 0, 1) := by decide +kernel
theorem dX8_allOrders_56 : decode cX8_allOrders 56 = .ok (.lastore, 1) := by decide +kernel
theorem dX8_allOrders_57 : decode cX8_allOrders 57 = .ok (.aload_n 0, 1) := by decide +kernel
theorem dX8_allOrders_58 : decode cX8_allOrders 58 = .ok (.getfield 94, 3) := by decide +kernel
theorem dX8_allOrders_61 : decode cX8_allOrders 61 = .ok (.iload_n 1, 1) := by decide +kernel
theorem dX8_allOrders_62 : decode cX8_allOrders 62 = .ok (.lconst 0, 1) := by decide +kernel
theorem dX8_allOrders_63 : decode cX8_allOrders 63 = .ok (.lastore, 1) := by decide +kernel
theorem dX8_allOrders_64 : decode cX8_allOrders 64 = .ok (.iinc 1 1, 3) := by decide +kernel
theorem dX8_allOrders_67 : decode cX8_allOrders 67 = .ok (.goto (-23), 3) := by decide +kernel
theorem dX8_allOrders_70 : decode cX8_allOrders 70 = .ok (.iconst 0, 1) := by decide +kernel
theorem dX8_allOrders_71 : decode cX8_allOrders 71 = .ok (.istore_n 1, 1) := by decide +kernel
theorem dX8_allOrders_72 : decode cX8_allOrders 72 = .ok (.iload_n 1, 1) := by decide +kernel
theorem dX8_allOrders_73 : decode cX8_allOrders 73 = .ok (.iconst 5, 1) := by decide +kernel
theorem dX8_allOrders_74 : decode cX8_allOrders 74 = .ok (.if_icmp .ge 16, 3) := by decide +kernel
theorem dX8_allOrders_77 : decode cX8_allOrders 77 = .ok (.aload_n 0, 1) := by decide +kernel
theorem dX8_allOrders_78 : decode cX8_allOrders 78 = .ok (.getfield 100, 3) := by decide +kernel
theorem dX8_allOrders_81 : decode cX8_allOrders 81 = .ok (.iload_n 1, 1) := by decide +kernel
theorem dX8_allOrders_82 : decode cX8_allOrders 82 = .ok (.lconst 0, 1) := by decide +kernel
theorem dX8_allOrders_83 : decode cX8_allOrders 83 = .ok (.lastore, 1) := by decide +kernel
theorem dX8_allOrders_84 : decode cX8_allOrders 84 = .ok (.iinc 1 1, 3) := by decide +kernel
theorem dX8_allOrders_87 : decode cX8_allOrders 87 = .ok (.goto (-15), 3) := by decide +kernel
theorem dX8_allOrders_90 : decode cX8_allOrders 90 = .ok (.iconst 0, 1) := by decide +kernel
theorem dX8_allOrders_91 : decode cX8_allOrders 91 = .ok (.istore_n 1, 1) := by decide +kernel
theorem dX8_allOrders_92 : decode cX8_allOrders 92 = .ok (.iload_n 1, 1) := by decide +kernel
theorem dX8_allOrders_93 : decode cX8_allOrders 93 = .ok (.sipush 128, 3) := by decide +kernel
theorem dX8_allOrders_96 : decode cX8_allOrders 96 = .ok (.if_icmp .ge 16, 3) := by decide +kernel
theorem dX8_allOrders_99 : decode cX8_allOrders 99 = .ok (.aload_n 0, 1) := by decide +kernel
theorem dX8_allOrders_100 : decode cX8_allOrders 100 = .ok (.getfield 103, 3) := by decide +kernel
theorem dX8_allOrders_103 : decode cX8_allOrders 103 = .ok (.iload_n 1, 1) := by decide +kernel
theorem dX8_allOrders_104 : decode cX8_allOrders 104 = .ok (.iconst 0, 1) := by decide +kernel
theorem dX8_allOrders_105 : decode cX8_allOrders 105 = .ok (.bastore, 1) := by decide +kernel
theorem dX8_allOrders_106 : decode cX8_allOrders 106 = .ok (.iinc 1 1, 3) := by decide +kernel
theorem dX8_allOrders_109 : decode cX8_allOrders 109 = .ok (.goto (-17), 3) := by decide +kernel
theorem dX8_allOrders_112 : decode cX8_allOrders 112 = .ok (.aload_n 0, 1) := by decide +kernel
theorem dX8_allOrders_113 : decode cX8_allOrders 113 = .ok (.lconst 0, 1) := by decide +kernel
theorem dX8_allOrders_114 : decode cX8_allOrders 114 = .ok (.putfield 393, 3) := by decide +kernel
theorem dX8_allOrders_117 : decode cX8_allOrders 117 = .ok (.aload_n 0, 1) := by decide +kernel
theorem dX8_allOrders_118 : decode cX8_allOrders 118 = .ok (.iconst 1, 1) := by decide +kernel
theorem dX8_allOrders_119 : decode cX8_allOrders 119 = .ok (.aload_n 0, 1) := by decide +kernel
theorem dX8_allOrders_120 : decode cX8_allOrders 120 = .ok (.getfield 275, 3) := by decide +kernel
theorem dX8_allOrders_123 : decode cX8_allOrders 123 = .ok (.ishl, 1) := by decide +kernel
theorem dX8_allOrders_124 : decode cX8_allOrders 124 = .ok (.iconst 1, 1) := by decide +kernel
theorem dX8_allOrders_125 : decode cX8_allOrders 125 = .ok (.isub, 1) := by decide +kernel
theorem dX8_allOrders_126 : decode cX8_allOrders 126 = .ok (.putfield 396, 3) := by decide +kernel
theorem dX8_allOrders_129 : decode cX8_allOrders 129 = .ok (.aload_n 0, 1) := by decide +kernel
theorem dX8_allOrders_130 : decode cX8_allOrders 130 = .ok (.iconst 0, 1) := by decide +kernel
theorem dX8_allOrders_131 : decode cX8_allOrders 131 = .ok (.putfield 399, 3) := by decide +kernel
theorem dX8_allOrders_134 : decode cX8_allOrders 134 = .ok (.aload_n 0, 1) := by decide +kernel
theorem dX8_allOrders_135 : decode cX8_allOrders 135 = .ok (.sipush 1000, 3) := by decide +kernel
theorem dX8_allOrders_138 : decode cX8_allOrders 138 = .ok (.putfield 402, 3) := by decide +kernel
theorem dX8_allOrders_141 : decode cX8_allOrders 141 = .ok (.aload_n 0, 1) := by decide +kernel
theorem dX8_allOrders_142 : decode cX8_allOrders 142 = .ok (.iconst 0, 1) := by decide +kernel
theorem dX8_allOrders_143 : decode cX8_allOrders 143 = .ok (.putfield 405, 3) := by decide +kernel
theorem dX8_allOrders_146 : decode cX8_allOrders 146 = .ok (.aload_n 0, 1) := by decide +kernel
theorem dX8_allOrders_147 : decode cX8_allOrders 147 = .ok (.iconst 0, 1) := by decide +kernel
theorem dX8_allOrders_148 : decode cX8_allOrders 148 = .ok (.iconst 0, 1) := by decide +kernel
theorem dX8_allOrders_149 : decode cX8_allOrders 149 = .ok (.ldc2_w 408, 3) := by decide +kernel
theorem dX8_allOrders_152 : decode cX8_allOrders 152 = .ok (.invokevirtual 410, 3) := by decide +kernel
theorem dX8_allOrders_155 : decode cX8_allOrders 155 = .ok (.return_, 1) := by decide +kernel
theorem dX8_goesOn_0 : decode cX8_goesOn 0 = .ok (.iload_n 1, 1) := by decide +kernel
theorem dX8_goesOn_1 : decode cX8_goesOn 1 = .ok (.aload_n 0, 1) := by decide +kernel
theorem dX8_goesOn_2 : decode cX8_goesOn 2 = .ok (.getfield 275, 3) := by decide +kernel
theorem dX8_goesOn_5 : decode cX8_goesOn 5 = .ok (.if_icmp .ne 14, 3) := by decide +kernel
theorem dX8_goesOn_8 : decode cX8_goesOn 8 = .ok (.aload_n 0, 1) := by decide +kernel
theorem dX8_goesOn_9 : decode cX8_goesOn 9 = .ok (.iconst (-1), 1) := by decide +kernel
theorem dX8_goesOn_10 : decode cX8_goesOn 10 = .ok (.invokevirtual 355, 3) := by decide +kernel
theorem dX8_goesOn_13 : decode cX8_goesOn 13 = .ok (.aload_n 0, 1) := by decide +kernel
theorem dX8_goesOn_14 : decode cX8_goesOn 14 = .ok (.lload_n 3, 1) := by decide +kernel
theorem dX8_goesOn_15 : decode cX8_goesOn 15 = .ok (.invokevirtual 414, 3) := by decide +kernel
theorem dX8_goesOn_18 : decode cX8_goesOn 18 = .ok (.return_, 1) := by decide +kernel
theorem dX8_goesOn_19 : decode cX8_goesOn 19 = .ok (.lconst 0, 1) := by decide +kernel
theorem dX8_goesOn_20 : decode cX8_goesOn 20 = .ok (.lstore 5, 2) := by decide +kernel
theorem dX8_goesOn_22 : decode cX8_goesOn 22 = .ok (.iconst 0, 1) := by decide +kernel
theorem dX8_goesOn_23 : decode cX8_goesOn 23 = .ok (.istore 7, 2) := by decide +kernel
theorem dX8_goesOn_25 : decode cX8_goesOn 25 = .ok (.iload 7, 2) := by decide +kernel
theorem dX8_goesOn_27 : decode cX8_goesOn 27 = .ok (.aload_n 0, 1) := by decide +kernel
theorem dX8_goesOn_28 : decode cX8_goesOn 28 = .ok (.getfield 275, 3) := by decide +kernel
theorem dX8_goesOn_31 : decode cX8_goesOn 31 = .ok (.if_icmp .ge 35, 3) := by decide +kernel
theorem dX8_goesOn_34 : decode cX8_goesOn 34 = .ok (.lload 5, 2) := by decide +kernel
theorem dX8_goesOn_36 : decode cX8_goesOn 36 = .ok (.iload_n 2, 1) := by decide +kernel
theorem dX8_goesOn_37 : decode cX8_goesOn 37 = .ok (.iload 7, 2) := by decide +kernel
theorem dX8_goesOn_39 : decode cX8_goesOn 39 = .ok (.invokestatic 240, 3) := by decide +kernel
theorem dX8_goesOn_42 : decode cX8_goesOn 42 = .ok (.ifCond .eq 7, 3) := by decide +kernel
theorem dX8_goesOn_45 : decode cX8_goesOn 45 = .ok (.lconst 0, 1) := by decide +kernel
theorem dX8_goesOn_46 : decode cX8_goesOn 46 = .ok (.goto 11, 3) := by decide +kernel
theorem dX8_goesOn_49 : decode cX8_goesOn 49 = .ok (.aload_n 0, 1) := by decide +kernel
theorem dX8_goesOn_50 : decode cX8_goesOn 50 = .ok (.getfield 67, 3) := by decide +kernel
theorem dX8_goesOn_53 : decode cX8_goesOn 53 = .ok (.iload 7, 2) := by decide +kernel
theorem dX8_goesOn_55 : decode cX8_goesOn 55 = .ok (.iaload, 1) := by decide +kernel
theorem dX8_goesOn_56 : decode cX8_goesOn 56 = .ok (.i2l, 1) := by decide +kernel
theorem dX8_goesOn_57 : decode cX8_goesOn 57 = .ok (.ladd, 1) := by decide +kernel
theorem dX8_goesOn_58 : decode cX8_goesOn 58 = .ok (.lstore 5, 2) := by decide +kernel
theorem dX8_goesOn_60 : decode cX8_goesOn 60 = .ok (.iinc 7 1, 3) := by decide +kernel
theorem dX8_goesOn_63 : decode cX8_goesOn 63 = .ok (.goto (-38), 3) := by decide +kernel
theorem dX8_goesOn_66 : decode cX8_goesOn 66 = .ok (.iconst 0, 1) := by decide +kernel
theorem dX8_goesOn_67 : decode cX8_goesOn 67 = .ok (.istore 7, 2) := by decide +kernel
theorem dX8_goesOn_69 : decode cX8_goesOn 69 = .ok (.iload 7, 2) := by decide +kernel
theorem dX8_goesOn_71 : decode cX8_goesOn 71 = .ok (.aload_n 0, 1) := by decide +kernel
theorem dX8_goesOn_72 : decode cX8_goesOn 72 = .ok (.getfield 275, 3) := by decide +kernel
theorem dX8_goesOn_75 : decode cX8_goesOn 75 = .ok (.if_icmp .ge 55, 3) := by decide +kernel
theorem dX8_goesOn_78 : decode cX8_goesOn 78 = .ok (.iload_n 2, 1) := by decide +kernel
theorem dX8_goesOn_79 : decode cX8_goesOn 79 = .ok (.iload 7, 2) := by decide +kernel
theorem dX8_goesOn_81 : decode cX8_goesOn 81 = .ok (.invokestatic 240, 3) := by decide +kernel
theorem dX8_goesOn_84 : decode cX8_goesOn 84 = .ok (.ifCond .eq 6, 3) := by decide +kernel
theorem dX8_goesOn_87 : decode cX8_goesOn 87 = .ok (.goto 37, 3) := by decide +kernel
theorem dX8_goesOn_90 : decode cX8_goesOn 90 = .ok (.aload_n 0, 1) := by decide +kernel
theorem dX8_goesOn_91 : decode cX8_goesOn 91 = .ok (.getfield 70, 3) := by decide +kernel
theorem dX8_goesOn_94 : decode cX8_goesOn 94 = .ok (.iload_n 1, 1) := by decide +kernel
theorem dX8_goesOn_95 : decode cX8_goesOn 95 = .ok (.iload 7, 2) := by decide +kernel
theorem dX8_goesOn_97 : decode cX8_goesOn 97 = .ok (.iastore, 1) := by decide +kernel
theorem dX8_goesOn_98 : decode cX8_goesOn 98 = .ok (.aload_n 0, 1) := by decide +kernel
theorem dX8_goesOn_99 : decode cX8_goesOn 99 = .ok (.iload_n 1, 1) := by decide +kernel
theorem dX8_goesOn_100 : decode cX8_goesOn 100 = .ok (.iconst 1, 1) := by decide +kernel
theorem dX8_goesOn_101 : decode cX8_goesOn 101 = .ok (.iadd, 1) := by decide +kernel
theorem dX8_goesOn_102 : decode cX8_goesOn 102 = .ok (.iload_n 2, 1) := by decide +kernel
theorem dX8_goesOn_103 : decode cX8_goesOn 103 = .ok (.iconst 1, 1) := by decide +kernel
theorem dX8_goesOn_104 : decode cX8_goesOn 104 = .ok (.iload 7, 2) := by decide +kernel
theorem dX8_goesOn_106 : decode cX8_goesOn 106 = .ok (.ishl, 1) := by decide +kernel
theorem dX8_goesOn_107 : decode cX8_goesOn 107 = .ok (.ior, 1) := by decide +kernel
theorem dX8_goesOn_108 : decode cX8_goesOn 108 = .ok (.lload_n 3, 1) := by decide +kernel
theorem dX8_goesOn_109 : decode cX8_goesOn 109 = .ok (.aload_n 0, 1) := by decide +kernel
theorem dX8_goesOn_110 : decode cX8_goesOn 110 = .ok (.getfield 67, 3) := by decide +kernel
theorem dX8_goesOn_113 : decode cX8_goesOn 113 = .ok (.iload 7, 2) := by decide +kernel
theorem dX8_goesOn_115 : decode cX8_goesOn 115 = .ok (.iaload, 1) := by decide +kernel
theorem dX8_goesOn_116 : decode cX8_goesOn 116 = .ok (.i2l, 1) := by decide +kernel
theorem dX8_goesOn_117 : decode cX8_goesOn 117 = .ok (.lmul, 1) := by decide +kernel
theorem dX8_goesOn_118 : decode cX8_goesOn 118 = .ok (.lload 5, 2) := by decide +kernel
theorem dX8_goesOn_120 : decode cX8_goesOn 120 = .ok (.ldiv, 1) := by decide +kernel
theorem dX8_goesOn_121 : decode cX8_goesOn 121 = .ok (.invokevirtual 410, 3) := by decide +kernel
theorem dX8_goesOn_124 : decode cX8_goesOn 124 = .ok (.iinc 7 1, 3) := by decide +kernel
theorem dX8_goesOn_127 : decode cX8_goesOn 127 = .ok (.goto (-58), 3) := by decide +kernel
theorem dX8_goesOn_130 : decode cX8_goesOn 130 = .ok (.return_, 1) := by decide +kernel
theorem dX8_adds_0 : decode cX8_adds 0 = .ok (.iconst 0, 1) := by decide +kernel
theorem dX8_adds_1 : decode cX8_adds 1 = .ok (.istore_n 3, 1) := by decide +kernel
theorem dX8_adds_2 : decode cX8_adds 2 = .ok (.iconst 0, 1) := by decide +kernel
theorem dX8_adds_3 : decode cX8_adds 3 = .ok (.istore 4, 2) := by decide +kernel
theorem dX8_adds_5 : decode cX8_adds 5 = .ok (.iload 4, 2) := by decide +kernel
theorem dX8_adds_7 : decode cX8_adds 7 = .ok (.aload_n 0, 1) := by decide +kernel
theorem dX8_adds_8 : decode cX8_adds 8 = .ok (.getfield 275, 3) := by decide +kernel
theorem dX8_adds_11 : decode cX8_adds 11 = .ok (.if_icmp .ge 176, 3) := by decide +kernel
theorem dX8_adds_14 : decode cX8_adds 14 = .ok (.aload_n 0, 1) := by decide +kernel
theorem dX8_adds_15 : decode cX8_adds 15 = .ok (.getfield 73, 3) := by decide +kernel
theorem dX8_adds_18 : decode cX8_adds 18 = .ok (.iload 4, 2) := by decide +kernel
theorem dX8_adds_20 : decode cX8_adds 20 = .ok (.iaload, 1) := by decide +kernel
theorem dX8_adds_21 : decode cX8_adds 21 = .ok (.iconst (-1), 1) := by decide +kernel
theorem dX8_adds_22 : decode cX8_adds 22 = .ok (.if_icmp .ne 6, 3) := by decide +kernel
theorem dX8_adds_25 : decode cX8_adds 25 = .ok (.goto 156, 3) := by decide +kernel
theorem dX8_adds_28 : decode cX8_adds 28 = .ok (.iload_n 3, 1) := by decide +kernel
theorem dX8_adds_29 : decode cX8_adds 29 = .ok (.iconst 1, 1) := by decide +kernel
theorem dX8_adds_30 : decode cX8_adds 30 = .ok (.iload 4, 2) := by decide +kernel
theorem dX8_adds_32 : decode cX8_adds 32 = .ok (.ishl, 1) := by decide +kernel
theorem dX8_adds_33 : decode cX8_adds 33 = .ok (.ior, 1) := by decide +kernel
theorem dX8_adds_34 : decode cX8_adds 34 = .ok (.istore_n 3, 1) := by decide +kernel
theorem dX8_adds_35 : decode cX8_adds 35 = .ok (.aload_n 0, 1) := by decide +kernel
theorem dX8_adds_36 : decode cX8_adds 36 = .ok (.getfield 88, 3) := by decide +kernel
theorem dX8_adds_39 : decode cX8_adds 39 = .ok (.iconst 5, 1) := by decide +kernel
theorem dX8_adds_40 : decode cX8_adds 40 = .ok (.iload 4, 2) := by decide +kernel
theorem dX8_adds_42 : decode cX8_adds 42 = .ok (.imul, 1) := by decide +kernel
theorem dX8_adds_43 : decode cX8_adds 43 = .ok (.aload_n 0, 1) := by decide +kernel
theorem dX8_adds_44 : decode cX8_adds 44 = .ok (.getfield 73, 3) := by decide +kernel
theorem dX8_adds_47 : decode cX8_adds 47 = .ok (.iload 4, 2) := by decide +kernel
theorem dX8_adds_49 : decode cX8_adds 49 = .ok (.iaload, 1) := by decide +kernel
theorem dX8_adds_50 : decode cX8_adds 50 = .ok (.iadd, 1) := by decide +kernel
theorem dX8_adds_51 : decode cX8_adds 51 = .ok (.dup2, 1) := by decide +kernel
theorem dX8_adds_52 : decode cX8_adds 52 = .ok (.laload, 1) := by decide +kernel
theorem dX8_adds_53 : decode cX8_adds 53 = .ok (.lload_n 1, 1) := by decide +kernel
theorem dX8_adds_54 : decode cX8_adds 54 = .ok (.ladd, 1) := by decide +kernel
theorem dX8_adds_55 : decode cX8_adds 55 = .ok (.lastore, 1) := by decide +kernel
theorem dX8_adds_56 : decode cX8_adds 56 = .ok (.aload_n 0, 1) := by decide +kernel
theorem dX8_adds_57 : decode cX8_adds 57 = .ok (.getfield 91, 3) := by decide +kernel
theorem dX8_adds_60 : decode cX8_adds 60 = .ok (.iload 4, 2) := by decide +kernel
theorem dX8_adds_62 : decode cX8_adds 62 = .ok (.dup2, 1) := by decide +kernel
theorem dX8_adds_63 : decode cX8_adds 63 = .ok (.laload, 1) := by decide +kernel
theorem dX8_adds_64 : decode cX8_adds 64 = .ok (.aload_n 0, 1) := by decide +kernel
theorem dX8_adds_65 : decode cX8_adds 65 = .ok (.iload 4, 2) := by decide +kernel
theorem dX8_adds_67 : decode cX8_adds 67 = .ok (.invokevirtual 387, 3) := by decide +kernel
theorem dX8_adds_70 : decode cX8_adds 70 = .ok (.ifCond .eq 7, 3) := by decide +kernel
theorem dX8_adds_73 : decode cX8_adds 73 = .ok (.lload_n 1, 1) := by decide +kernel
theorem dX8_adds_74 : decode cX8_adds 74 = .ok (.goto 4, 3) := by decide +kernel
theorem dX8_adds_77 : decode cX8_adds 77 = .ok (.lconst 0, 1) := by decide +kernel
theorem dX8_adds_78 : decode cX8_adds 78 = .ok (.ladd, 1) := by decide +kernel
theorem dX8_adds_79 : decode cX8_adds 79 = .ok (.lastore, 1) := by decide +kernel
theorem dX8_adds_80 : decode cX8_adds 80 = .ok (.aload_n 0, 1) := by decide +kernel
theorem dX8_adds_81 : decode cX8_adds 81 = .ok (.getfield 94, 3) := by decide +kernel
theorem dX8_adds_84 : decode cX8_adds 84 = .ok (.iload 4, 2) := by decide +kernel
theorem dX8_adds_86 : decode cX8_adds 86 = .ok (.dup2, 1) := by decide +kernel
theorem dX8_adds_87 : decode cX8_adds 87 = .ok (.laload, 1) := by decide +kernel
theorem dX8_adds_88 : decode cX8_adds 88 = .ok (.aload_n 0, 1) := by decide +kernel
theorem dX8_adds_89 : decode cX8_adds 89 = .ok (.getfield 76, 3) := by decide +kernel
theorem dX8_adds_92 : decode cX8_adds 92 = .ok (.iload 4, 2) := by decide +kernel
theorem dX8_adds_94 : decode cX8_adds 94 = .ok (.iaload, 1) := by decide +kernel
theorem dX8_adds_95 : decode cX8_adds 95 = .ok (.iconst 1, 1) := by decide +kernel
theorem dX8_adds_96 : decode cX8_adds 96 = .ok (.if_icmp .ne 7, 3) := by decide +kernel
theorem dX8_adds_99 : decode cX8_adds 99 = .ok (.lload_n 1, 1) := by decide +kernel
theorem dX8_adds_100 : decode cX8_adds 100 = .ok (.goto 4, 3) := by decide +kernel
theorem dX8_adds_103 : decode cX8_adds 103 = .ok (.lconst 0, 1) := by decide +kernel
theorem dX8_adds_104 : decode cX8_adds 104 = .ok (.ladd, 1) := by decide +kernel
theorem dX8_adds_105 : decode cX8_adds 105 = .ok (.lastore, 1) := by decide +kernel
theorem dX8_adds_106 : decode cX8_adds 106 = .ok (.aload_n 0, 1) := by decide +kernel
theorem dX8_adds_107 : decode cX8_adds 107 = .ok (.getfield 100, 3) := by decide +kernel
theorem dX8_adds_110 : decode cX8_adds 110 = .ok (.aload_n 0, 1) := by decide +kernel
theorem dX8_adds_111 : decode cX8_adds 111 = .ok (.getfield 73, 3) := by decide +kernel
theorem dX8_adds_114 : decode cX8_adds 114 = .ok (.iload 4, 2) := by decide +kernel
theorem dX8_adds_116 : decode cX8_adds 116 = .ok (.iaload, 1) := by decide +kernel
theorem dX8_adds_117 : decode cX8_adds 117 = .ok (.dup2, 1) := by decide +kernel
theorem dX8_adds_118 : decode cX8_adds 118 = .ok (.laload, 1) := by decide +kernel
theorem dX8_adds_119 : decode cX8_adds 119 = .ok (.lload_n 1, 1) := by decide +kernel
theorem dX8_adds_120 : decode cX8_adds 120 = .ok (.aload_n 0, 1) := by decide +kernel
theorem dX8_adds_121 : decode cX8_adds 121 = .ok (.getfield 58, 3) := by decide +kernel
theorem dX8_adds_124 : decode cX8_adds 124 = .ok (.iload 4, 2) := by decide +kernel
theorem dX8_adds_126 : decode cX8_adds 126 = .ok (.iaload, 1) := by decide +kernel
theorem dX8_adds_127 : decode cX8_adds 127 = .ok (.i2l, 1) := by decide +kernel
theorem dX8_adds_128 : decode cX8_adds 128 = .ok (.lmul, 1) := by decide +kernel
theorem dX8_adds_129 : decode cX8_adds 129 = .ok (.ladd, 1) := by decide +kernel
theorem dX8_adds_130 : decode cX8_adds 130 = .ok (.lastore, 1) := by decide +kernel
theorem dX8_adds_131 : decode cX8_adds 131 = .ok (.iconst 0, 1) := by decide +kernel
theorem dX8_adds_132 : decode cX8_adds 132 = .ok (.istore 5, 2) := by decide +kernel
theorem dX8_adds_134 : decode cX8_adds 134 = .ok (.iload 5, 2) := by decide +kernel
theorem dX8_adds_136 : decode cX8_adds 136 = .ok (.aload_n 0, 1) := by decide +kernel
theorem dX8_adds_137 : decode cX8_adds 137 = .ok (.getfield 275, 3) := by decide +kernel
theorem dX8_adds_140 : decode cX8_adds 140 = .ok (.if_icmp .ge 41, 3) := by decide +kernel
theorem dX8_adds_143 : decode cX8_adds 143 = .ok (.aload_n 0, 1) := by decide +kernel
theorem dX8_adds_144 : decode cX8_adds 144 = .ok (.getfield 97, 3) := by decide +kernel
theorem dX8_adds_147 : decode cX8_adds 147 = .ok (.bipush 7, 2) := by decide +kernel
theorem dX8_adds_149 : decode cX8_adds 149 = .ok (.iload 4, 2) := by decide +kernel
theorem dX8_adds_151 : decode cX8_adds 151 = .ok (.imul, 1) := by decide +kernel
theorem dX8_adds_152 : decode cX8_adds 152 = .ok (.iload 5, 2) := by decide +kernel
theorem dX8_adds_154 : decode cX8_adds 154 = .ok (.iadd, 1) := by decide +kernel
theorem dX8_adds_155 : decode cX8_adds 155 = .ok (.dup2, 1) := by decide +kernel
theorem dX8_adds_156 : decode cX8_adds 156 = .ok (.laload, 1) := by decide +kernel
theorem dX8_adds_157 : decode cX8_adds 157 = .ok (.aload_n 0, 1) := by decide +kernel
theorem dX8_adds_158 : decode cX8_adds 158 = .ok (.getfield 73, 3) := by decide +kernel
theorem dX8_adds_161 : decode cX8_adds 161 = .ok (.iload 5, 2) := by decide +kernel
theorem dX8_adds_163 : decode cX8_adds 163 = .ok (.iaload, 1) := by decide +kernel
theorem dX8_adds_164 : decode cX8_adds 164 = .ok (.iconst (-1), 1) := by decide +kernel
theorem dX8_adds_165 : decode cX8_adds 165 = .ok (.if_icmp .ne 7, 3) := by decide +kernel
theorem dX8_adds_168 : decode cX8_adds 168 = .ok (.lconst 0, 1) := by decide +kernel
theorem dX8_adds_169 : decode cX8_adds 169 = .ok (.goto 4, 3) := by decide +kernel
theorem dX8_adds_172 : decode cX8_adds 172 = .ok (.lload_n 1, 1) := by decide +kernel
theorem dX8_adds_173 : decode cX8_adds 173 = .ok (.ladd, 1) := by decide +kernel
theorem dX8_adds_174 : decode cX8_adds 174 = .ok (.lastore, 1) := by decide +kernel
theorem dX8_adds_175 : decode cX8_adds 175 = .ok (.iinc 5 1, 3) := by decide +kernel
theorem dX8_adds_178 : decode cX8_adds 178 = .ok (.goto (-44), 3) := by decide +kernel
theorem dX8_adds_181 : decode cX8_adds 181 = .ok (.iinc 4 1, 3) := by decide +kernel
theorem dX8_adds_184 : decode cX8_adds 184 = .ok (.goto (-179), 3) := by decide +kernel
theorem dX8_adds_187 : decode cX8_adds 187 = .ok (.aload_n 0, 1) := by decide +kernel
theorem dX8_adds_188 : decode cX8_adds 188 = .ok (.dup, 1) := by decide +kernel
theorem dX8_adds_189 : decode cX8_adds 189 = .ok (.getfield 393, 3) := by decide +kernel
theorem dX8_adds_192 : decode cX8_adds 192 = .ok (.aload_n 0, 1) := by decide +kernel
theorem dX8_adds_193 : decode cX8_adds 193 = .ok (.getfield 418, 3) := by decide +kernel
theorem dX8_adds_196 : decode cX8_adds 196 = .ok (.iload_n 3, 1) := by decide +kernel
theorem dX8_adds_197 : decode cX8_adds 197 = .ok (.iconst (-1), 1) := by decide +kernel
theorem dX8_adds_198 : decode cX8_adds 198 = .ok (.ixor, 1) := by decide +kernel
theorem dX8_adds_199 : decode cX8_adds 199 = .ok (.iand, 1) := by decide +kernel
theorem dX8_adds_200 : decode cX8_adds 200 = .ok (.ifCond .ne 7, 3) := by decide +kernel
theorem dX8_adds_203 : decode cX8_adds 203 = .ok (.lload_n 1, 1) := by decide +kernel
theorem dX8_adds_204 : decode cX8_adds 204 = .ok (.goto 4, 3) := by decide +kernel
theorem dX8_adds_207 : decode cX8_adds 207 = .ok (.lconst 0, 1) := by decide +kernel
theorem dX8_adds_208 : decode cX8_adds 208 = .ok (.ladd, 1) := by decide +kernel
theorem dX8_adds_209 : decode cX8_adds 209 = .ok (.putfield 393, 3) := by decide +kernel
theorem dX8_adds_212 : decode cX8_adds 212 = .ok (.aload_n 0, 1) := by decide +kernel
theorem dX8_adds_213 : decode cX8_adds 213 = .ok (.dup, 1) := by decide +kernel
theorem dX8_adds_214 : decode cX8_adds 214 = .ok (.getfield 396, 3) := by decide +kernel
theorem dX8_adds_217 : decode cX8_adds 217 = .ok (.iload_n 3, 1) := by decide +kernel
theorem dX8_adds_218 : decode cX8_adds 218 = .ok (.iand, 1) := by decide +kernel
theorem dX8_adds_219 : decode cX8_adds 219 = .ok (.putfield 396, 3) := by decide +kernel
theorem dX8_adds_222 : decode cX8_adds 222 = .ok (.aload_n 0, 1) := by decide +kernel
theorem dX8_adds_223 : decode cX8_adds 223 = .ok (.dup, 1) := by decide +kernel
theorem dX8_adds_224 : decode cX8_adds 224 = .ok (.getfield 399, 3) := by decide +kernel
theorem dX8_adds_227 : decode cX8_adds 227 = .ok (.iload_n 3, 1) := by decide +kernel
theorem dX8_adds_228 : decode cX8_adds 228 = .ok (.ior, 1) := by decide +kernel
theorem dX8_adds_229 : decode cX8_adds 229 = .ok (.putfield 399, 3) := by decide +kernel
theorem dX8_adds_232 : decode cX8_adds 232 = .ok (.aload_n 0, 1) := by decide +kernel
theorem dX8_adds_233 : decode cX8_adds 233 = .ok (.getfield 103, 3) := by decide +kernel
theorem dX8_adds_236 : decode cX8_adds 236 = .ok (.iload_n 3, 1) := by decide +kernel
theorem dX8_adds_237 : decode cX8_adds 237 = .ok (.iconst 1, 1) := by decide +kernel
theorem dX8_adds_238 : decode cX8_adds 238 = .ok (.bastore, 1) := by decide +kernel
theorem dX8_adds_239 : decode cX8_adds 239 = .ok (.aload_n 0, 1) := by decide +kernel
theorem dX8_adds_240 : decode cX8_adds 240 = .ok (.aload_n 0, 1) := by decide +kernel
theorem dX8_adds_241 : decode cX8_adds 241 = .ok (.getfield 402, 3) := by decide +kernel
theorem dX8_adds_244 : decode cX8_adds 244 = .ok (.aload_n 0, 1) := by decide +kernel
theorem dX8_adds_245 : decode cX8_adds 245 = .ok (.invokevirtual 421, 3) := by decide +kernel
theorem dX8_adds_248 : decode cX8_adds 248 = .ok (.invokestatic 366, 3) := by decide +kernel
theorem dX8_adds_251 : decode cX8_adds 251 = .ok (.putfield 402, 3) := by decide +kernel
theorem dX8_adds_254 : decode cX8_adds 254 = .ok (.aload_n 0, 1) := by decide +kernel
theorem dX8_adds_255 : decode cX8_adds 255 = .ok (.aload_n 0, 1) := by decide +kernel
theorem dX8_adds_256 : decode cX8_adds 256 = .ok (.getfield 405, 3) := by decide +kernel
theorem dX8_adds_259 : decode cX8_adds 259 = .ok (.aload_n 0, 1) := by decide +kernel
theorem dX8_adds_260 : decode cX8_adds 260 = .ok (.invokevirtual 421, 3) := by decide +kernel
theorem dX8_adds_263 : decode cX8_adds 263 = .ok (.invokestatic 424, 3) := by decide +kernel
theorem dX8_adds_266 : decode cX8_adds 266 = .ok (.putfield 405, 3) := by decide +kernel
theorem dX8_adds_269 : decode cX8_adds 269 = .ok (.return_, 1) := by decide +kernel
theorem dX8_areMany_0 : decode cX8_areMany 0 = .ok (.aload_n 0, 1) := by decide +kernel
theorem dX8_areMany_1 : decode cX8_areMany 1 = .ok (.invokevirtual 281, 3) := by decide +kernel
theorem dX8_areMany_4 : decode cX8_areMany 4 = .ok (.aload_n 0, 1) := by decide +kernel
theorem dX8_areMany_5 : decode cX8_areMany 5 = .ok (.getfield 275, 3) := by decide +kernel
theorem dX8_areMany_8 : decode cX8_areMany 8 = .ok (.bipush 7, 2) := by decide +kernel
theorem dX8_areMany_10 : decode cX8_areMany 10 = .ok (.if_icmp .le 7, 3) := by decide +kernel
theorem dX8_areMany_13 : decode cX8_areMany 13 = .ok (.iconst 1, 1) := by decide +kernel
theorem dX8_areMany_14 : decode cX8_areMany 14 = .ok (.goto 4, 3) := by decide +kernel
theorem dX8_areMany_17 : decode cX8_areMany 17 = .ok (.iconst 0, 1) := by decide +kernel
theorem dX8_areMany_18 : decode cX8_areMany 18 = .ok (.ireturn, 1) := by decide +kernel
theorem dX8_chanceOf_0 : decode cX8_chanceOf 0 = .ok (.lconst 0, 1) := by decide +kernel
theorem dX8_chanceOf_1 : decode cX8_chanceOf 1 = .ok (.lstore_n 2, 1) := by decide +kernel
theorem dX8_chanceOf_2 : decode cX8_chanceOf 2 = .ok (.iconst 0, 1) := by decide +kernel
theorem dX8_chanceOf_3 : decode cX8_chanceOf 3 = .ok (.istore 4, 2) := by decide +kernel
theorem dX8_chanceOf_5 : decode cX8_chanceOf 5 = .ok (.iload 4, 2) := by decide +kernel
theorem dX8_chanceOf_7 : decode cX8_chanceOf 7 = .ok (.aload_n 0, 1) := by decide +kernel
theorem dX8_chanceOf_8 : decode cX8_chanceOf 8 = .ok (.getfield 125, 3) := by decide +kernel
theorem dX8_chanceOf_11 : decode cX8_chanceOf 11 = .ok (.if_icmp .ge 23, 3) := by decide +kernel
theorem dX8_chanceOf_14 : decode cX8_chanceOf 14 = .ok (.lload_n 2, 1) := by decide +kernel
theorem dX8_chanceOf_15 : decode cX8_chanceOf 15 = .ok (.aload_n 0, 1) := by decide +kernel
theorem dX8_chanceOf_16 : decode cX8_chanceOf 16 = .ok (.getfield 88, 3) := by decide +kernel
theorem dX8_chanceOf_19 : decode cX8_chanceOf 19 = .ok (.iconst 5, 1) := by decide +kernel
theorem dX8_chanceOf_20 : decode cX8_chanceOf 20 = .ok (.iload_n 1, 1) := by decide +kernel
theorem dX8_chanceOf_21 : decode cX8_chanceOf 21 = .ok (.imul, 1) := by decide +kernel
theorem dX8_chanceOf_22 : decode cX8_chanceOf 22 = .ok (.iload 4, 2) := by decide +kernel
theorem dX8_chanceOf_24 : decode cX8_chanceOf 24 = .ok (.iadd, 1) := by decide +kernel
theorem dX8_chanceOf_25 : decode cX8_chanceOf 25 = .ok (.laload, 1) := by decide +kernel
theorem dX8_chanceOf_26 : decode cX8_chanceOf 26 = .ok (.ladd, 1) := by decide +kernel
theorem dX8_chanceOf_27 : decode cX8_chanceOf 27 = .ok (.lstore_n 2, 1) := by decide +kernel
theorem dX8_chanceOf_28 : decode cX8_chanceOf 28 = .ok (.iinc 4 1, 3) := by decide +kernel
theorem dX8_chanceOf_31 : decode cX8_chanceOf 31 = .ok (.goto (-26), 3) := by decide +kernel
theorem dX8_chanceOf_34 : decode cX8_chanceOf 34 = .ok (.lload_n 2, 1) := by decide +kernel
theorem dX8_chanceOf_35 : decode cX8_chanceOf 35 = .ok (.lreturn, 1) := by decide +kernel
theorem dX8_chance_0 : decode cX8_chance 0 = .ok (.iload_n 2, 1) := by decide +kernel
theorem dX8_chance_1 : decode cX8_chance 1 = .ok (.i2l, 1) := by decide +kernel
theorem dX8_chance_2 : decode cX8_chance 2 = .ok (.lconst 0, 1) := by decide +kernel
theorem dX8_chance_3 : decode cX8_chance 3 = .ok (.ldc2_w 427, 3) := by decide +kernel
theorem dX8_chance_6 : decode cX8_chance 6 = .ok (.invokestatic 128, 3) := by decide +kernel
theorem dX8_chance_9 : decode cX8_chance 9 = .ok (.ifCond .ne 10, 3) := by decide +kernel
theorem dX8_chance_12 : decode cX8_chance 12 = .ok (.aload_n 0, 1) := by decide +kernel
theorem dX8_chance_13 : decode cX8_chance 13 = .ok (.iconst 1, 1) := by decide +kernel
theorem dX8_chance_14 : decode cX8_chance 14 = .ok (.invokevirtual 263, 3) := by decide +kernel
theorem dX8_chance_17 : decode cX8_chance 17 = .ok (.i2l, 1) := by decide +kernel
theorem dX8_chance_18 : decode cX8_chance 18 = .ok (.lreturn, 1) := by decide +kernel
theorem dX8_chance_19 : decode cX8_chance 19 = .ok (.aload_n 0, 1) := by decide +kernel
theorem dX8_chance_20 : decode cX8_chance 20 = .ok (.iload_n 1, 1) := by decide +kernel
theorem dX8_chance_21 : decode cX8_chance 21 = .ok (.invokevirtual 315, 3) := by decide +kernel
theorem dX8_chance_24 : decode cX8_chance 24 = .ok (.ifCond .ne 10, 3) := by decide +kernel
theorem dX8_chance_27 : decode cX8_chance 27 = .ok (.aload_n 0, 1) := by decide +kernel
theorem dX8_chance_28 : decode cX8_chance 28 = .ok (.iconst 2, 1) := by decide +kernel
theorem dX8_chance_29 : decode cX8_chance 29 = .ok (.invokevirtual 263, 3) := by decide +kernel
theorem dX8_chance_32 : decode cX8_chance 32 = .ok (.i2l, 1) := by decide +kernel
theorem dX8_chance_33 : decode cX8_chance 33 = .ok (.lreturn, 1) := by decide +kernel
theorem dX8_chance_34 : decode cX8_chance 34 = .ok (.aload_n 0, 1) := by decide +kernel
theorem dX8_chance_35 : decode cX8_chance 35 = .ok (.invokevirtual 429, 3) := by decide +kernel
theorem dX8_chance_38 : decode cX8_chance 38 = .ok (.ifCond .eq 10, 3) := by decide +kernel
theorem dX8_chance_41 : decode cX8_chance 41 = .ok (.aload_n 0, 1) := by decide +kernel
theorem dX8_chance_42 : decode cX8_chance 42 = .ok (.iconst 3, 1) := by decide +kernel
theorem dX8_chance_43 : decode cX8_chance 43 = .ok (.invokevirtual 263, 3) := by decide +kernel
theorem dX8_chance_46 : decode cX8_chance 46 = .ok (.i2l, 1) := by decide +kernel
theorem dX8_chance_47 : decode cX8_chance 47 = .ok (.lreturn, 1) := by decide +kernel
theorem dX8_chance_48 : decode cX8_chance 48 = .ok (.aload_n 0, 1) := by decide +kernel
theorem dX8_chance_49 : decode cX8_chance 49 = .ok (.invokevirtual 432, 3) := by decide +kernel
theorem dX8_chance_52 : decode cX8_chance 52 = .ok (.aload_n 0, 1) := by decide +kernel
theorem dX8_chance_53 : decode cX8_chance 53 = .ok (.iload_n 2, 1) := by decide +kernel
theorem dX8_chance_54 : decode cX8_chance 54 = .ok (.ifCond .ne 11, 3) := by decide +kernel
theorem dX8_chance_57 : decode cX8_chance 57 = .ok (.aload_n 0, 1) := by decide +kernel
theorem dX8_chance_58 : decode cX8_chance 58 = .ok (.iload_n 1, 1) := by decide +kernel
theorem dX8_chance_59 : decode cX8_chance 59 = .ok (.invokevirtual 435, 3) := by decide +kernel
theorem dX8_chance_62 : decode cX8_chance 62 = .ok (.goto 23, 3) := by decide +kernel
theorem dX8_chance_65 : decode cX8_chance 65 = .ok (.iload_n 2, 1) := by decide +kernel
theorem dX8_chance_66 : decode cX8_chance 66 = .ok (.iconst 1, 1) := by decide +kernel
theorem dX8_chance_67 : decode cX8_chance 67 = .ok (.if_icmp .ne 12, 3) := by decide +kernel
theorem dX8_chance_70 : decode cX8_chance 70 = .ok (.aload_n 0, 1) := by decide +kernel
theorem dX8_chance_71 : decode cX8_chance 71 = .ok (.getfield 91, 3) := by decide +kernel
theorem dX8_chance_74 : decode cX8_chance 74 = .ok (.iload_n 1, 1) := by decide +kernel
theorem dX8_chance_75 : decode cX8_chance 75 = .ok (.laload, 1) := by decide +kernel
theorem dX8_chance_76 : decode cX8_chance 76 = .ok (.goto 9, 3) := by decide +kernel
theorem dX8_chance_79 : decode cX8_chance 79 = .ok (.aload_n 0, 1) := by decide +kernel
theorem dX8_chance_80 : decode cX8_chance 80 = .ok (.getfield 94, 3) := by decide +kernel
theorem dX8_chance_83 : decode cX8_chance 83 = .ok (.iload_n 1, 1) := by decide +kernel
theorem dX8_chance_84 : decode cX8_chance 84 = .ok (.laload, 1) := by decide +kernel
theorem dX8_chance_85 : decode cX8_chance 85 = .ok (.invokevirtual 438, 3) := by decide +kernel
theorem dX8_chance_88 : decode cX8_chance 88 = .ok (.lreturn, 1) := by decide +kernel
theorem dX8_at_0 : decode cX8_at 0 = .ok (.aload_n 0, 1) := by decide +kernel
theorem dX8_at_1 : decode cX8_at 1 = .ok (.iload_n 1, 1) := by decide +kernel
theorem dX8_at_2 : decode cX8_at 2 = .ok (.invokevirtual 315, 3) := by decide +kernel
theorem dX8_at_5 : decode cX8_at 5 = .ok (.ifCond .eq 11, 3) := by decide +kernel
theorem dX8_at_8 : decode cX8_at 8 = .ok (.aload_n 0, 1) := by decide +kernel
theorem dX8_at_9 : decode cX8_at 9 = .ok (.iload_n 2, 1) := by decide +kernel
theorem dX8_at_10 : decode cX8_at 10 = .ok (.invokevirtual 301, 3) := by decide +kernel
theorem dX8_at_13 : decode cX8_at 13 = .ok (.ifCond .ne 10, 3) := by decide +kernel
theorem dX8_at_16 : decode cX8_at 16 = .ok (.aload_n 0, 1) := by decide +kernel
theorem dX8_at_17 : decode cX8_at 17 = .ok (.iconst 2, 1) := by decide +kernel
theorem dX8_at_18 : decode cX8_at 18 = .ok (.invokevirtual 263, 3) := by decide +kernel
theorem dX8_at_21 : decode cX8_at 21 = .ok (.i2l, 1) := by decide +kernel
theorem dX8_at_22 : decode cX8_at 22 = .ok (.lreturn, 1) := by decide +kernel
theorem dX8_at_23 : decode cX8_at 23 = .ok (.aload_n 0, 1) := by decide +kernel
theorem dX8_at_24 : decode cX8_at 24 = .ok (.invokevirtual 429, 3) := by decide +kernel
theorem dX8_at_27 : decode cX8_at 27 = .ok (.ifCond .eq 10, 3) := by decide +kernel
theorem dX8_at_30 : decode cX8_at 30 = .ok (.aload_n 0, 1) := by decide +kernel
theorem dX8_at_31 : decode cX8_at 31 = .ok (.iconst 3, 1) := by decide +kernel
theorem dX8_at_32 : decode cX8_at 32 = .ok (.invokevirtual 263, 3) := by decide +kernel
theorem dX8_at_35 : decode cX8_at 35 = .ok (.i2l, 1) := by decide +kernel
theorem dX8_at_36 : decode cX8_at 36 = .ok (.lreturn, 1) := by decide +kernel
theorem dX8_at_37 : decode cX8_at 37 = .ok (.aload_n 0, 1) := by decide +kernel
theorem dX8_at_38 : decode cX8_at 38 = .ok (.invokevirtual 432, 3) := by decide +kernel
theorem dX8_at_41 : decode cX8_at 41 = .ok (.aload_n 0, 1) := by decide +kernel
theorem dX8_at_42 : decode cX8_at 42 = .ok (.aload_n 0, 1) := by decide +kernel
theorem dX8_at_43 : decode cX8_at 43 = .ok (.getfield 88, 3) := by decide +kernel
theorem dX8_at_46 : decode cX8_at 46 = .ok (.iconst 5, 1) := by decide +kernel
theorem dX8_at_47 : decode cX8_at 47 = .ok (.iload_n 1, 1) := by decide +kernel
theorem dX8_at_48 : decode cX8_at 48 = .ok (.imul, 1) := by decide +kernel
theorem dX8_at_49 : decode cX8_at 49 = .ok (.iload_n 2, 1) := by decide +kernel
theorem dX8_at_50 : decode cX8_at 50 = .ok (.iadd, 1) := by decide +kernel
theorem dX8_at_51 : decode cX8_at 51 = .ok (.laload, 1) := by decide +kernel
theorem dX8_at_52 : decode cX8_at 52 = .ok (.invokevirtual 438, 3) := by decide +kernel
theorem dX8_at_55 : decode cX8_at 55 = .ok (.lreturn, 1) := by decide +kernel
theorem dX8_both_0 : decode cX8_both 0 = .ok (.aload_n 0, 1) := by decide +kernel
theorem dX8_both_1 : decode cX8_both 1 = .ok (.iload_n 1, 1) := by decide +kernel
theorem dX8_both_2 : decode cX8_both 2 = .ok (.invokevirtual 315, 3) := by decide +kernel
theorem dX8_both_5 : decode cX8_both 5 = .ok (.ifCond .eq 11, 3) := by decide +kernel
theorem dX8_both_8 : decode cX8_both 8 = .ok (.aload_n 0, 1) := by decide +kernel
theorem dX8_both_9 : decode cX8_both 9 = .ok (.iload_n 2, 1) := by decide +kernel
theorem dX8_both_10 : decode cX8_both 10 = .ok (.invokevirtual 315, 3) := by decide +kernel
theorem dX8_both_13 : decode cX8_both 13 = .ok (.ifCond .ne 10, 3) := by decide +kernel
theorem dX8_both_16 : decode cX8_both 16 = .ok (.aload_n 0, 1) := by decide +kernel
theorem dX8_both_17 : decode cX8_both 17 = .ok (.iconst 2, 1) := by decide +kernel
theorem dX8_both_18 : decode cX8_both 18 = .ok (.invokevirtual 263, 3) := by decide +kernel
theorem dX8_both_21 : decode cX8_both 21 = .ok (.i2l, 1) := by decide +kernel
theorem dX8_both_22 : decode cX8_both 22 = .ok (.lreturn, 1) := by decide +kernel
theorem dX8_both_23 : decode cX8_both 23 = .ok (.iload_n 1, 1) := by decide +kernel
theorem dX8_both_24 : decode cX8_both 24 = .ok (.iload_n 2, 1) := by decide +kernel
theorem dX8_both_25 : decode cX8_both 25 = .ok (.if_icmp .ne 10, 3) := by decide +kernel
theorem dX8_both_28 : decode cX8_both 28 = .ok (.aload_n 0, 1) := by decide +kernel
theorem dX8_both_29 : decode cX8_both 29 = .ok (.iconst 4, 1) := by decide +kernel
theorem dX8_both_30 : decode cX8_both 30 = .ok (.invokevirtual 263, 3) := by decide +kernel
theorem dX8_both_33 : decode cX8_both 33 = .ok (.i2l, 1) := by decide +kernel
theorem dX8_both_34 : decode cX8_both 34 = .ok (.lreturn, 1) := by decide +kernel
theorem dX8_both_35 : decode cX8_both 35 = .ok (.aload_n 0, 1) := by decide +kernel
theorem dX8_both_36 : decode cX8_both 36 = .ok (.invokevirtual 429, 3) := by decide +kernel
theorem dX8_both_39 : decode cX8_both 39 = .ok (.ifCond .eq 10, 3) := by decide +kernel
theorem dX8_both_42 : decode cX8_both 42 = .ok (.aload_n 0, 1) := by decide +kernel
theorem dX8_both_43 : decode cX8_both 43 = .ok (.iconst 3, 1) := by decide +kernel
theorem dX8_both_44 : decode cX8_both 44 = .ok (.invokevirtual 263, 3) := by decide +kernel
theorem dX8_both_47 : decode cX8_both 47 = .ok (.i2l, 1) := by decide +kernel
theorem dX8_both_48 : decode cX8_both 48 = .ok (.lreturn, 1) := by decide +kernel
theorem dX8_both_49 : decode cX8_both 49 = .ok (.aload_n 0, 1) := by decide +kernel
theorem dX8_both_50 : decode cX8_both 50 = .ok (.invokevirtual 432, 3) := by decide +kernel
theorem dX8_both_53 : decode cX8_both 53 = .ok (.aload_n 0, 1) := by decide +kernel
theorem dX8_both_54 : decode cX8_both 54 = .ok (.aload_n 0, 1) := by decide +kernel
theorem dX8_both_55 : decode cX8_both 55 = .ok (.getfield 97, 3) := by decide +kernel
theorem dX8_both_58 : decode cX8_both 58 = .ok (.bipush 7, 2) := by decide +kernel
theorem dX8_both_60 : decode cX8_both 60 = .ok (.iload_n 1, 1) := by decide +kernel
theorem dX8_both_61 : decode cX8_both 61 = .ok (.imul, 1) := by decide +kernel
theorem dX8_both_62 : decode cX8_both 62 = .ok (.iload_n 2, 1) := by decide +kernel
theorem dX8_both_63 : decode cX8_both 63 = .ok (.iadd, 1) := by decide +kernel
theorem dX8_both_64 : decode cX8_both 64 = .ok (.laload, 1) := by decide +kernel
theorem dX8_both_65 : decode cX8_both 65 = .ok (.invokevirtual 438, 3) := by decide +kernel
theorem dX8_both_68 : decode cX8_both 68 = .ok (.lreturn, 1) := by decide +kernel
theorem dX8_sure_0 : decode cX8_sure 0 = .ok (.iload_n 1, 1) := by decide +kernel
theorem dX8_sure_1 : decode cX8_sure 1 = .ok (.i2l, 1) := by decide +kernel
theorem dX8_sure_2 : decode cX8_sure 2 = .ok (.lconst 0, 1) := by decide +kernel
theorem dX8_sure_3 : decode cX8_sure 3 = .ok (.lconst 1, 1) := by decide +kernel
theorem dX8_sure_4 : decode cX8_sure 4 = .ok (.invokestatic 128, 3) := by decide +kernel
theorem dX8_sure_7 : decode cX8_sure 7 = .ok (.ifCond .ne 9, 3) := by decide +kernel
theorem dX8_sure_10 : decode cX8_sure 10 = .ok (.aload_n 0, 1) := by decide +kernel
theorem dX8_sure_11 : decode cX8_sure 11 = .ok (.iconst 1, 1) := by decide +kernel
theorem dX8_sure_12 : decode cX8_sure 12 = .ok (.invokevirtual 263, 3) := by decide +kernel
theorem dX8_sure_15 : decode cX8_sure 15 = .ok (.ireturn, 1) := by decide +kernel
theorem dX8_sure_16 : decode cX8_sure 16 = .ok (.aload_n 0, 1) := by decide +kernel
theorem dX8_sure_17 : decode cX8_sure 17 = .ok (.invokevirtual 429, 3) := by decide +kernel
theorem dX8_sure_20 : decode cX8_sure 20 = .ok (.ifCond .eq 9, 3) := by decide +kernel
theorem dX8_sure_23 : decode cX8_sure 23 = .ok (.aload_n 0, 1) := by decide +kernel
theorem dX8_sure_24 : decode cX8_sure 24 = .ok (.iconst 3, 1) := by decide +kernel
theorem dX8_sure_25 : decode cX8_sure 25 = .ok (.invokevirtual 263, 3) := by decide +kernel
theorem dX8_sure_28 : decode cX8_sure 28 = .ok (.ireturn, 1) := by decide +kernel
theorem dX8_sure_29 : decode cX8_sure 29 = .ok (.aload_n 0, 1) := by decide +kernel
theorem dX8_sure_30 : decode cX8_sure 30 = .ok (.invokevirtual 432, 3) := by decide +kernel
theorem dX8_sure_33 : decode cX8_sure 33 = .ok (.aload_n 0, 1) := by decide +kernel
theorem dX8_sure_34 : decode cX8_sure 34 = .ok (.iload_n 1, 1) := by decide +kernel
theorem dX8_sure_35 : decode cX8_sure 35 = .ok (.ifCond .ne 10, 3) := by decide +kernel
theorem dX8_sure_38 : decode cX8_sure 38 = .ok (.aload_n 0, 1) := by decide +kernel
theorem dX8_sure_39 : decode cX8_sure 39 = .ok (.getfield 396, 3) := by decide +kernel
theorem dX8_sure_42 : decode cX8_sure 42 = .ok (.goto 18, 3) := by decide +kernel
theorem dX8_sure_45 : decode cX8_sure 45 = .ok (.iconst 1, 1) := by decide +kernel
theorem dX8_sure_46 : decode cX8_sure 46 = .ok (.aload_n 0, 1) := by decide +kernel
theorem dX8_sure_47 : decode cX8_sure 47 = .ok (.getfield 275, 3) := by decide +kernel
theorem dX8_sure_50 : decode cX8_sure 50 = .ok (.ishl, 1) := by decide +kernel
theorem dX8_sure_51 : decode cX8_sure 51 = .ok (.iconst 1, 1) := by decide +kernel
theorem dX8_sure_52 : decode cX8_sure 52 = .ok (.isub, 1) := by decide +kernel
theorem dX8_sure_53 : decode cX8_sure 53 = .ok (.aload_n 0, 1) := by decide +kernel
theorem dX8_sure_54 : decode cX8_sure 54 = .ok (.getfield 399, 3) := by decide +kernel
theorem dX8_sure_57 : decode cX8_sure 57 = .ok (.iconst (-1), 1) := by decide +kernel
theorem dX8_sure_58 : decode cX8_sure 58 = .ok (.ixor, 1) := by decide +kernel
theorem dX8_sure_59 : decode cX8_sure 59 = .ok (.iand, 1) := by decide +kernel
theorem dX8_sure_60 : decode cX8_sure 60 = .ok (.invokevirtual 272, 3) := by decide +kernel
theorem dX8_sure_63 : decode cX8_sure 63 = .ok (.ireturn, 1) := by decide +kernel
theorem dX8_mean_0 : decode cX8_mean 0 = .ok (.aload_n 0, 1) := by decide +kernel
theorem dX8_mean_1 : decode cX8_mean 1 = .ok (.iload_n 1, 1) := by decide +kernel
theorem dX8_mean_2 : decode cX8_mean 2 = .ok (.invokevirtual 301, 3) := by decide +kernel
theorem dX8_mean_5 : decode cX8_mean 5 = .ok (.ifCond .ne 10, 3) := by decide +kernel
theorem dX8_mean_8 : decode cX8_mean 8 = .ok (.aload_n 0, 1) := by decide +kernel
theorem dX8_mean_9 : decode cX8_mean 9 = .ok (.iconst 2, 1) := by decide +kernel
theorem dX8_mean_10 : decode cX8_mean 10 = .ok (.invokevirtual 263, 3) := by decide +kernel
theorem dX8_mean_13 : decode cX8_mean 13 = .ok (.i2l, 1) := by decide +kernel
theorem dX8_mean_14 : decode cX8_mean 14 = .ok (.lreturn, 1) := by decide +kernel
theorem dX8_mean_15 : decode cX8_mean 15 = .ok (.aload_n 0, 1) := by decide +kernel
theorem dX8_mean_16 : decode cX8_mean 16 = .ok (.invokevirtual 429, 3) := by decide +kernel
theorem dX8_mean_19 : decode cX8_mean 19 = .ok (.ifCond .eq 10, 3) := by decide +kernel
theorem dX8_mean_22 : decode cX8_mean 22 = .ok (.aload_n 0, 1) := by decide +kernel
theorem dX8_mean_23 : decode cX8_mean 23 = .ok (.iconst 3, 1) := by decide +kernel
theorem dX8_mean_24 : decode cX8_mean 24 = .ok (.invokevirtual 263, 3) := by decide +kernel
theorem dX8_mean_27 : decode cX8_mean 27 = .ok (.i2l, 1) := by decide +kernel
theorem dX8_mean_28 : decode cX8_mean 28 = .ok (.lreturn, 1) := by decide +kernel
theorem dX8_mean_29 : decode cX8_mean 29 = .ok (.aload_n 0, 1) := by decide +kernel
theorem dX8_mean_30 : decode cX8_mean 30 = .ok (.invokevirtual 432, 3) := by decide +kernel
theorem dX8_mean_33 : decode cX8_mean 33 = .ok (.aload_n 0, 1) := by decide +kernel
theorem dX8_mean_34 : decode cX8_mean 34 = .ok (.aload_n 0, 1) := by decide +kernel
theorem dX8_mean_35 : decode cX8_mean 35 = .ok (.getfield 100, 3) := by decide +kernel
theorem dX8_mean_38 : decode cX8_mean 38 = .ok (.iload_n 1, 1) := by decide +kernel
theorem dX8_mean_39 : decode cX8_mean 39 = .ok (.laload, 1) := by decide +kernel
theorem dX8_mean_40 : decode cX8_mean 40 = .ok (.invokevirtual 438, 3) := by decide +kernel
theorem dX8_mean_43 : decode cX8_mean 43 = .ok (.lreturn, 1) := by decide +kernel
theorem dX8_given_0 : decode cX8_given 0 = .ok (.iload_n 1, 1) := by decide +kernel
theorem dX8_given_1 : decode cX8_given 1 = .ok (.i2l, 1) := by decide +kernel
theorem dX8_given_2 : decode cX8_given 2 = .ok (.lconst 0, 1) := by decide +kernel
theorem dX8_given_3 : decode cX8_given 3 = .ok (.lconst 1, 1) := by decide +kernel
theorem dX8_given_4 : decode cX8_given 4 = .ok (.invokestatic 128, 3) := by decide +kernel
theorem dX8_given_7 : decode cX8_given 7 = .ok (.ifCond .ne 9, 3) := by decide +kernel
theorem dX8_given_10 : decode cX8_given 10 = .ok (.aload_n 0, 1) := by decide +kernel
theorem dX8_given_11 : decode cX8_given 11 = .ok (.iconst 1, 1) := by decide +kernel
theorem dX8_given_12 : decode cX8_given 12 = .ok (.invokevirtual 263, 3) := by decide +kernel
theorem dX8_given_15 : decode cX8_given 15 = .ok (.ireturn, 1) := by decide +kernel
theorem dX8_given_16 : decode cX8_given 16 = .ok (.aload_n 0, 1) := by decide +kernel
theorem dX8_given_17 : decode cX8_given 17 = .ok (.invokevirtual 429, 3) := by decide +kernel
theorem dX8_given_20 : decode cX8_given 20 = .ok (.ifCond .eq 9, 3) := by decide +kernel
theorem dX8_given_23 : decode cX8_given 23 = .ok (.aload_n 0, 1) := by decide +kernel
theorem dX8_given_24 : decode cX8_given 24 = .ok (.iconst 3, 1) := by decide +kernel
theorem dX8_given_25 : decode cX8_given 25 = .ok (.invokevirtual 263, 3) := by decide +kernel
theorem dX8_given_28 : decode cX8_given 28 = .ok (.ireturn, 1) := by decide +kernel
theorem dX8_given_29 : decode cX8_given 29 = .ok (.aload_n 0, 1) := by decide +kernel
theorem dX8_given_30 : decode cX8_given 30 = .ok (.invokevirtual 432, 3) := by decide +kernel
theorem dX8_given_33 : decode cX8_given 33 = .ok (.aload_n 0, 1) := by decide +kernel
theorem dX8_given_34 : decode cX8_given 34 = .ok (.iload_n 1, 1) := by decide +kernel
theorem dX8_given_35 : decode cX8_given 35 = .ok (.ifCond .ne 10, 3) := by decide +kernel
theorem dX8_given_38 : decode cX8_given 38 = .ok (.aload_n 0, 1) := by decide +kernel
theorem dX8_given_39 : decode cX8_given 39 = .ok (.getfield 402, 3) := by decide +kernel
theorem dX8_given_42 : decode cX8_given 42 = .ok (.goto 7, 3) := by decide +kernel
theorem dX8_given_45 : decode cX8_given 45 = .ok (.aload_n 0, 1) := by decide +kernel
theorem dX8_given_46 : decode cX8_given 46 = .ok (.getfield 405, 3) := by decide +kernel
theorem dX8_given_49 : decode cX8_given 49 = .ok (.invokevirtual 272, 3) := by decide +kernel
theorem dX8_given_52 : decode cX8_given 52 = .ok (.ireturn, 1) := by decide +kernel
theorem dX8_ends_0 : decode cX8_ends 0 = .ok (.aload_n 0, 1) := by decide +kernel
theorem dX8_ends_1 : decode cX8_ends 1 = .ok (.invokevirtual 429, 3) := by decide +kernel
theorem dX8_ends_4 : decode cX8_ends 4 = .ok (.ifCond .eq 9, 3) := by decide +kernel
theorem dX8_ends_7 : decode cX8_ends 7 = .ok (.aload_n 0, 1) := by decide +kernel
theorem dX8_ends_8 : decode cX8_ends 8 = .ok (.iconst 3, 1) := by decide +kernel
theorem dX8_ends_9 : decode cX8_ends 9 = .ok (.invokevirtual 263, 3) := by decide +kernel
theorem dX8_ends_12 : decode cX8_ends 12 = .ok (.ireturn, 1) := by decide +kernel
theorem dX8_ends_13 : decode cX8_ends 13 = .ok (.aload_n 0, 1) := by decide +kernel
theorem dX8_ends_14 : decode cX8_ends 14 = .ok (.invokevirtual 432, 3) := by decide +kernel
theorem dX8_ends_17 : decode cX8_ends 17 = .ok (.iconst 0, 1) := by decide +kernel
theorem dX8_ends_18 : decode cX8_ends 18 = .ok (.istore_n 1, 1) := by decide +kernel
theorem dX8_ends_19 : decode cX8_ends 19 = .ok (.iconst 0, 1) := by decide +kernel
theorem dX8_ends_20 : decode cX8_ends 20 = .ok (.istore_n 2, 1) := by decide +kernel
theorem dX8_ends_21 : decode cX8_ends 21 = .ok (.iload_n 2, 1) := by decide +kernel
theorem dX8_ends_22 : decode cX8_ends 22 = .ok (.sipush 128, 3) := by decide +kernel
theorem dX8_ends_25 : decode cX8_ends 25 = .ok (.if_icmp .ge 26, 3) := by decide +kernel
theorem dX8_ends_28 : decode cX8_ends 28 = .ok (.iload_n 1, 1) := by decide +kernel
theorem dX8_ends_29 : decode cX8_ends 29 = .ok (.aload_n 0, 1) := by decide +kernel
theorem dX8_ends_30 : decode cX8_ends 30 = .ok (.getfield 103, 3) := by decide +kernel
theorem dX8_ends_33 : decode cX8_ends 33 = .ok (.iload_n 2, 1) := by decide +kernel
theorem dX8_ends_34 : decode cX8_ends 34 = .ok (.baload, 1) := by decide +kernel
theorem dX8_ends_35 : decode cX8_ends 35 = .ok (.ifCond .eq 7, 3) := by decide +kernel
theorem dX8_ends_38 : decode cX8_ends 38 = .ok (.iconst 1, 1) := by decide +kernel
theorem dX8_ends_39 : decode cX8_ends 39 = .ok (.goto 4, 3) := by decide +kernel
theorem dX8_ends_42 : decode cX8_ends 42 = .ok (.iconst 0, 1) := by decide +kernel
theorem dX8_ends_43 : decode cX8_ends 43 = .ok (.iadd, 1) := by decide +kernel
theorem dX8_ends_44 : decode cX8_ends 44 = .ok (.istore_n 1, 1) := by decide +kernel
theorem dX8_ends_45 : decode cX8_ends 45 = .ok (.iinc 2 1, 3) := by decide +kernel
theorem dX8_ends_48 : decode cX8_ends 48 = .ok (.goto (-27), 3) := by decide +kernel
theorem dX8_ends_51 : decode cX8_ends 51 = .ok (.aload_n 0, 1) := by decide +kernel
theorem dX8_ends_52 : decode cX8_ends 52 = .ok (.iload_n 1, 1) := by decide +kernel
theorem dX8_ends_53 : decode cX8_ends 53 = .ok (.invokevirtual 272, 3) := by decide +kernel
theorem dX8_ends_56 : decode cX8_ends 56 = .ok (.ireturn, 1) := by decide +kernel
theorem dX8_putsAside_0 : decode cX8_putsAside 0 = .ok (.iconst 0, 1) := by decide +kernel
theorem dX8_putsAside_1 : decode cX8_putsAside 1 = .ok (.istore_n 1, 1) := by decide +kernel
theorem dX8_putsAside_2 : decode cX8_putsAside 2 = .ok (.iload_n 1, 1) := by decide +kernel
theorem dX8_putsAside_3 : decode cX8_putsAside 3 = .ok (.bipush 82, 2) := by decide +kernel
theorem dX8_putsAside_5 : decode cX8_putsAside 5 = .ok (.if_icmp .ge 21, 3) := by decide +kernel
theorem dX8_putsAside_8 : decode cX8_putsAside 8 = .ok (.aload_n 0, 1) := by decide +kernel
theorem dX8_putsAside_9 : decode cX8_putsAside 9 = .ok (.getfield 16, 3) := by decide +kernel
theorem dX8_putsAside_12 : decode cX8_putsAside 12 = .ok (.iload_n 1, 1) := by decide +kernel
theorem dX8_putsAside_13 : decode cX8_putsAside 13 = .ok (.aload_n 0, 1) := by decide +kernel
theorem dX8_putsAside_14 : decode cX8_putsAside 14 = .ok (.getfield 7, 3) := by decide +kernel
theorem dX8_putsAside_17 : decode cX8_putsAside 17 = .ok (.iload_n 1, 1) := by decide +kernel
theorem dX8_putsAside_18 : decode cX8_putsAside 18 = .ok (.iaload, 1) := by decide +kernel
theorem dX8_putsAside_19 : decode cX8_putsAside 19 = .ok (.iastore, 1) := by decide +kernel
theorem dX8_putsAside_20 : decode cX8_putsAside 20 = .ok (.iinc 1 1, 3) := by decide +kernel
theorem dX8_putsAside_23 : decode cX8_putsAside 23 = .ok (.goto (-21), 3) := by decide +kernel
theorem dX8_putsAside_26 : decode cX8_putsAside 26 = .ok (.return_, 1) := by decide +kernel
theorem dX8_takesBack_0 : decode cX8_takesBack 0 = .ok (.iconst 0, 1) := by decide +kernel
theorem dX8_takesBack_1 : decode cX8_takesBack 1 = .ok (.istore_n 1, 1) := by decide +kernel
theorem dX8_takesBack_2 : decode cX8_takesBack 2 = .ok (.iload_n 1, 1) := by decide +kernel
theorem dX8_takesBack_3 : decode cX8_takesBack 3 = .ok (.bipush 82, 2) := by decide +kernel
theorem dX8_takesBack_5 : decode cX8_takesBack 5 = .ok (.if_icmp .ge 21, 3) := by decide +kernel
theorem dX8_takesBack_8 : decode cX8_takesBack 8 = .ok (.aload_n 0, 1) := by decide +kernel
theorem dX8_takesBack_9 : decode cX8_takesBack 9 = .ok (.getfield 7, 3) := by decide +kernel
theorem dX8_takesBack_12 : decode cX8_takesBack 12 = .ok (.iload_n 1, 1) := by decide +kernel
theorem dX8_takesBack_13 : decode cX8_takesBack 13 = .ok (.aload_n 0, 1) := by decide +kernel
theorem dX8_takesBack_14 : decode cX8_takesBack 14 = .ok (.getfield 16, 3) := by decide +kernel
theorem dX8_takesBack_17 : decode cX8_takesBack 17 = .ok (.iload_n 1, 1) := by decide +kernel
theorem dX8_takesBack_18 : decode cX8_takesBack 18 = .ok (.iaload, 1) := by decide +kernel
theorem dX8_takesBack_19 : decode cX8_takesBack 19 = .ok (.iastore, 1) := by decide +kernel
theorem dX8_takesBack_20 : decode cX8_takesBack 20 = .ok (.iinc 1 1, 3) := by decide +kernel
theorem dX8_takesBack_23 : decode cX8_takesBack 23 = .ok (.goto (-21), 3) := by decide +kernel
theorem dX8_takesBack_26 : decode cX8_takesBack 26 = .ok (.return_, 1) := by decide +kernel
theorem dX8_need_0 : decode cX8_need 0 = .ok (.iload_n 2, 1) := by decide +kernel
theorem dX8_need_1 : decode cX8_need 1 = .ok (.i2l, 1) := by decide +kernel
theorem dX8_need_2 : decode cX8_need 2 = .ok (.lconst 0, 1) := by decide +kernel
theorem dX8_need_3 : decode cX8_need 3 = .ok (.ldc2_w 442, 3) := by decide +kernel
theorem dX8_need_6 : decode cX8_need 6 = .ok (.invokestatic 128, 3) := by decide +kernel
theorem dX8_need_9 : decode cX8_need 9 = .ok (.ifCond .ne 9, 3) := by decide +kernel
theorem dX8_need_12 : decode cX8_need 12 = .ok (.aload_n 0, 1) := by decide +kernel
theorem dX8_need_13 : decode cX8_need 13 = .ok (.iconst 1, 1) := by decide +kernel
theorem dX8_need_14 : decode cX8_need 14 = .ok (.invokevirtual 263, 3) := by decide +kernel
theorem dX8_need_17 : decode cX8_need 17 = .ok (.ireturn, 1) := by decide +kernel
theorem dX8_need_18 : decode cX8_need 18 = .ok (.aload_n 0, 1) := by decide +kernel
theorem dX8_need_19 : decode cX8_need 19 = .ok (.iload_n 1, 1) := by decide +kernel
theorem dX8_need_20 : decode cX8_need 20 = .ok (.invokevirtual 293, 3) := by decide +kernel
theorem dX8_need_23 : decode cX8_need 23 = .ok (.ifCond .ne 9, 3) := by decide +kernel
theorem dX8_need_26 : decode cX8_need 26 = .ok (.aload_n 0, 1) := by decide +kernel
theorem dX8_need_27 : decode cX8_need 27 = .ok (.iconst 2, 1) := by decide +kernel
theorem dX8_need_28 : decode cX8_need 28 = .ok (.invokevirtual 263, 3) := by decide +kernel
theorem dX8_need_31 : decode cX8_need 31 = .ok (.ireturn, 1) := by decide +kernel
theorem dX8_need_32 : decode cX8_need 32 = .ok (.aload_n 0, 1) := by decide +kernel
theorem dX8_need_33 : decode cX8_need 33 = .ok (.getfield 7, 3) := by decide +kernel
theorem dX8_need_36 : decode cX8_need 36 = .ok (.bipush 10, 2) := by decide +kernel
theorem dX8_need_38 : decode cX8_need 38 = .ok (.iload_n 1, 1) := by decide +kernel
theorem dX8_need_39 : decode cX8_need 39 = .ok (.iadd, 1) := by decide +kernel
theorem dX8_need_40 : decode cX8_need 40 = .ok (.iaload, 1) := by decide +kernel
theorem dX8_need_41 : decode cX8_need 41 = .ok (.iconst (-1), 1) := by decide +kernel
theorem dX8_need_42 : decode cX8_need 42 = .ok (.if_icmp .eq 10, 3) := by decide +kernel
theorem dX8_need_45 : decode cX8_need 45 = .ok (.aload_n 0, 1) := by decide +kernel
theorem dX8_need_46 : decode cX8_need 46 = .ok (.bipush 7, 2) := by decide +kernel
theorem dX8_need_48 : decode cX8_need 48 = .ok (.invokevirtual 263, 3) := by decide +kernel
theorem dX8_need_51 : decode cX8_need 51 = .ok (.ireturn, 1) := by decide +kernel
theorem dX8_need_52 : decode cX8_need 52 = .ok (.aload_n 0, 1) := by decide +kernel
theorem dX8_need_53 : decode cX8_need 53 = .ok (.invokevirtual 429, 3) := by decide +kernel
theorem dX8_need_56 : decode cX8_need 56 = .ok (.ifCond .eq 9, 3) := by decide +kernel
theorem dX8_need_59 : decode cX8_need 59 = .ok (.aload_n 0, 1) := by decide +kernel
theorem dX8_need_60 : decode cX8_need 60 = .ok (.iconst 3, 1) := by decide +kernel
theorem dX8_need_61 : decode cX8_need 61 = .ok (.invokevirtual 263, 3) := by decide +kernel
theorem dX8_need_64 : decode cX8_need 64 = .ok (.ireturn, 1) := by decide +kernel
theorem dX8_need_65 : decode cX8_need 65 = .ok (.aload_n 0, 1) := by decide +kernel
theorem dX8_need_66 : decode cX8_need 66 = .ok (.iload_n 1, 1) := by decide +kernel
theorem dX8_need_67 : decode cX8_need 67 = .ok (.invokevirtual 296, 3) := by decide +kernel
theorem dX8_need_70 : decode cX8_need 70 = .ok (.istore_n 3, 1) := by decide +kernel
theorem dX8_need_71 : decode cX8_need 71 = .ok (.aload_n 0, 1) := by decide +kernel
theorem dX8_need_72 : decode cX8_need 72 = .ok (.invokevirtual 444, 3) := by decide +kernel
theorem dX8_need_75 : decode cX8_need 75 = .ok (.iconst (-1), 1) := by decide +kernel
theorem dX8_need_76 : decode cX8_need 76 = .ok (.istore 4, 2) := by decide +kernel
theorem dX8_need_78 : decode cX8_need 78 = .ok (.iconst 0, 1) := by decide +kernel
theorem dX8_need_79 : decode cX8_need 79 = .ok (.istore 5, 2) := by decide +kernel
theorem dX8_need_81 : decode cX8_need 81 = .ok (.iload 5, 2) := by decide +kernel
theorem dX8_need_83 : decode cX8_need 83 = .ok (.bipush 20, 2) := by decide +kernel
theorem dX8_need_85 : decode cX8_need 85 = .ok (.if_icmp .gt 52, 3) := by decide +kernel
theorem dX8_need_88 : decode cX8_need 88 = .ok (.iload 4, 2) := by decide +kernel
theorem dX8_need_90 : decode cX8_need 90 = .ok (.iconst (-1), 1) := by decide +kernel
theorem dX8_need_91 : decode cX8_need 91 = .ok (.if_icmp .ne 46, 3) := by decide +kernel
theorem dX8_need_94 : decode cX8_need 94 = .ok (.aload_n 0, 1) := by decide +kernel
theorem dX8_need_95 : decode cX8_need 95 = .ok (.getfield 7, 3) := by decide +kernel
theorem dX8_need_98 : decode cX8_need 98 = .ok (.iconst 0, 1) := by decide +kernel
theorem dX8_need_99 : decode cX8_need 99 = .ok (.iload_n 1, 1) := by decide +kernel
theorem dX8_need_100 : decode cX8_need 100 = .ok (.iadd, 1) := by decide +kernel
theorem dX8_need_101 : decode cX8_need 101 = .ok (.iload 5, 2) := by decide +kernel
theorem dX8_need_103 : decode cX8_need 103 = .ok (.iastore, 1) := by decide +kernel
theorem dX8_need_104 : decode cX8_need 104 = .ok (.aload_n 0, 1) := by decide +kernel
theorem dX8_need_105 : decode cX8_need 105 = .ok (.invokevirtual 432, 3) := by decide +kernel
theorem dX8_need_108 : decode cX8_need 108 = .ok (.aload_n 0, 1) := by decide +kernel
theorem dX8_need_109 : decode cX8_need 109 = .ok (.iload_n 3, 1) := by decide +kernel
theorem dX8_need_110 : decode cX8_need 110 = .ok (.invokevirtual 435, 3) := by decide +kernel
theorem dX8_need_113 : decode cX8_need 113 = .ok (.ldc2_w 447, 3) := by decide +kernel
theorem dX8_need_116 : decode cX8_need 116 = .ok (.ldiv, 1) := by decide +kernel
theorem dX8_need_117 : decode cX8_need 117 = .ok (.iload_n 2, 1) := by decide +kernel
theorem dX8_need_118 : decode cX8_need 118 = .ok (.i2l, 1) := by decide +kernel
theorem dX8_need_119 : decode cX8_need 119 = .ok (.lcmp, 1) := by decide +kernel
theorem dX8_need_120 : decode cX8_need 120 = .ok (.ifCond .lt 8, 3) := by decide +kernel
theorem dX8_need_123 : decode cX8_need 123 = .ok (.iload 5, 2) := by decide +kernel
theorem dX8_need_125 : decode cX8_need 125 = .ok (.goto 4, 3) := by decide +kernel
theorem dX8_need_128 : decode cX8_need 128 = .ok (.iconst (-1), 1) := by decide +kernel
theorem dX8_need_129 : decode cX8_need 129 = .ok (.istore 4, 2) := by decide +kernel
theorem dX8_need_131 : decode cX8_need 131 = .ok (.iinc 5 1, 3) := by decide +kernel
theorem dX8_need_134 : decode cX8_need 134 = .ok (.goto (-53), 3) := by decide +kernel
theorem dX8_need_137 : decode cX8_need 137 = .ok (.aload_n 0, 1) := by decide +kernel
theorem dX8_need_138 : decode cX8_need 138 = .ok (.invokevirtual 449, 3) := by decide +kernel
theorem dX8_need_141 : decode cX8_need 141 = .ok (.iload 4, 2) := by decide +kernel
theorem dX8_need_143 : decode cX8_need 143 = .ok (.iconst (-1), 1) := by decide +kernel
theorem dX8_need_144 : decode cX8_need 144 = .ok (.if_icmp .ne 11, 3) := by decide +kernel
theorem dX8_need_147 : decode cX8_need 147 = .ok (.aload_n 0, 1) := by decide +kernel
theorem dX8_need_148 : decode cX8_need 148 = .ok (.iconst 5, 1) := by decide +kernel
theorem dX8_need_149 : decode cX8_need 149 = .ok (.invokevirtual 263, 3) := by decide +kernel
theorem dX8_need_152 : decode cX8_need 152 = .ok (.goto 9, 3) := by decide +kernel
theorem dX8_need_155 : decode cX8_need 155 = .ok (.aload_n 0, 1) := by decide +kernel
theorem dX8_need_156 : decode cX8_need 156 = .ok (.iload 4, 2) := by decide +kernel
theorem dX8_need_158 : decode cX8_need 158 = .ok (.invokevirtual 272, 3) := by decide +kernel
theorem dX8_need_161 : decode cX8_need 161 = .ok (.ireturn, 1) := by decide +kernel
theorem dX8_wisest_0 : decode cX8_wisest 0 = .ok (.aload_n 0, 1) := by decide +kernel
theorem dX8_wisest_1 : decode cX8_wisest 1 = .ok (.invokevirtual 444, 3) := by decide +kernel
theorem dX8_wisest_4 : decode cX8_wisest 4 = .ok (.iconst (-1), 1) := by decide +kernel
theorem dX8_wisest_5 : decode cX8_wisest 5 = .ok (.istore_n 2, 1) := by decide +kernel
theorem dX8_wisest_6 : decode cX8_wisest 6 = .ok (.aload_n 0, 1) := by decide +kernel
theorem dX8_wisest_7 : decode cX8_wisest 7 = .ok (.ldc2_w 452, 3) := by decide +kernel
theorem dX8_wisest_10 : decode cX8_wisest 10 = .ok (.putfield 454, 3) := by decide +kernel
theorem dX8_wisest_13 : decode cX8_wisest 13 = .ok (.iconst 0, 1) := by decide +kernel
theorem dX8_wisest_14 : decode cX8_wisest 14 = .ok (.istore_n 3, 1) := by decide +kernel
theorem dX8_wisest_15 : decode cX8_wisest 15 = .ok (.iload_n 3, 1) := by decide +kernel
theorem dX8_wisest_16 : decode cX8_wisest 16 = .ok (.aload_n 0, 1) := by decide +kernel
theorem dX8_wisest_17 : decode cX8_wisest 17 = .ok (.getfield 125, 3) := by decide +kernel
theorem dX8_wisest_20 : decode cX8_wisest 20 = .ok (.if_icmp .ge 76, 3) := by decide +kernel
theorem dX8_wisest_23 : decode cX8_wisest 23 = .ok (.iconst 0, 1) := by decide +kernel
theorem dX8_wisest_24 : decode cX8_wisest 24 = .ok (.istore 4, 2) := by decide +kernel
theorem dX8_wisest_26 : decode cX8_wisest 26 = .ok (.iload 4, 2) := by decide +kernel
theorem dX8_wisest_28 : decode cX8_wisest 28 = .ok (.iconst 3, 1) := by decide +kernel
theorem dX8_wisest_29 : decode cX8_wisest 29 = .ok (.if_icmp .ge 33, 3) := by decide +kernel
theorem dX8_wisest_32 : decode cX8_wisest 32 = .ok (.aload_n 0, 1) := by decide +kernel
theorem dX8_wisest_33 : decode cX8_wisest 33 = .ok (.getfield 7, 3) := by decide +kernel
theorem dX8_wisest_36 : decode cX8_wisest 36 = .ok (.aload_n 0, 1) := by decide +kernel
theorem dX8_wisest_37 : decode cX8_wisest 37 = .ok (.getfield 55, 3) := by decide +kernel
theorem dX8_wisest_40 : decode cX8_wisest 40 = .ok (.iload_n 1, 1) := by decide +kernel
theorem dX8_wisest_41 : decode cX8_wisest 41 = .ok (.iaload, 1) := by decide +kernel
theorem dX8_wisest_42 : decode cX8_wisest 42 = .ok (.iload 4, 2) := by decide +kernel
theorem dX8_wisest_44 : decode cX8_wisest 44 = .ok (.iadd, 1) := by decide +kernel
theorem dX8_wisest_45 : decode cX8_wisest 45 = .ok (.iload 4, 2) := by decide +kernel
theorem dX8_wisest_47 : decode cX8_wisest 47 = .ok (.ifCond .ne 7, 3) := by decide +kernel
theorem dX8_wisest_50 : decode cX8_wisest 50 = .ok (.iload_n 3, 1) := by decide +kernel
theorem dX8_wisest_51 : decode cX8_wisest 51 = .ok (.goto 4, 3) := by decide +kernel
theorem dX8_wisest_54 : decode cX8_wisest 54 = .ok (.iconst (-1), 1) := by decide +kernel
theorem dX8_wisest_55 : decode cX8_wisest 55 = .ok (.iastore, 1) := by decide +kernel
theorem dX8_wisest_56 : decode cX8_wisest 56 = .ok (.iinc 4 1, 3) := by decide +kernel
theorem dX8_wisest_59 : decode cX8_wisest 59 = .ok (.goto (-33), 3) := by decide +kernel
theorem dX8_wisest_62 : decode cX8_wisest 62 = .ok (.aload_n 0, 1) := by decide +kernel
theorem dX8_wisest_63 : decode cX8_wisest 63 = .ok (.invokevirtual 432, 3) := by decide +kernel
theorem dX8_wisest_66 : decode cX8_wisest 66 = .ok (.aload_n 0, 1) := by decide +kernel
theorem dX8_wisest_67 : decode cX8_wisest 67 = .ok (.iload_n 1, 1) := by decide +kernel
theorem dX8_wisest_68 : decode cX8_wisest 68 = .ok (.invokevirtual 435, 3) := by decide +kernel
theorem dX8_wisest_71 : decode cX8_wisest 71 = .ok (.aload_n 0, 1) := by decide +kernel
theorem dX8_wisest_72 : decode cX8_wisest 72 = .ok (.getfield 454, 3) := by decide +kernel
theorem dX8_wisest_75 : decode cX8_wisest 75 = .ok (.lcmp, 1) := by decide +kernel
theorem dX8_wisest_76 : decode cX8_wisest 76 = .ok (.ifCond .le 14, 3) := by decide +kernel
theorem dX8_wisest_79 : decode cX8_wisest 79 = .ok (.iload_n 3, 1) := by decide +kernel
theorem dX8_wisest_80 : decode cX8_wisest 80 = .ok (.istore_n 2, 1) := by decide +kernel
theorem dX8_wisest_81 : decode cX8_wisest 81 = .ok (.aload_n 0, 1) := by decide +kernel
theorem dX8_wisest_82 : decode cX8_wisest 82 = .ok (.aload_n 0, 1) := by decide +kernel
theorem dX8_wisest_83 : decode cX8_wisest 83 = .ok (.iload_n 1, 1) := by decide +kernel
theorem dX8_wisest_84 : decode cX8_wisest 84 = .ok (.invokevirtual 435, 3) := by decide +kernel
theorem dX8_wisest_87 : decode cX8_wisest 87 = .ok (.putfield 454, 3) := by decide +kernel
theorem dX8_wisest_90 : decode cX8_wisest 90 = .ok (.iinc 3 1, 3) := by decide +kernel
theorem dX8_wisest_93 : decode cX8_wisest 93 = .ok (.goto (-78), 3) := by decide +kernel
theorem dX8_wisest_96 : decode cX8_wisest 96 = .ok (.aload_n 0, 1) := by decide +kernel
theorem dX8_wisest_97 : decode cX8_wisest 97 = .ok (.invokevirtual 449, 3) := by decide +kernel
theorem dX8_wisest_100 : decode cX8_wisest 100 = .ok (.iload_n 2, 1) := by decide +kernel
theorem dX8_wisest_101 : decode cX8_wisest 101 = .ok (.ireturn, 1) := by decide +kernel
theorem dX8_wise_0 : decode cX8_wise 0 = .ok (.aload_n 0, 1) := by decide +kernel
theorem dX8_wise_1 : decode cX8_wise 1 = .ok (.iload_n 1, 1) := by decide +kernel
theorem dX8_wise_2 : decode cX8_wise 2 = .ok (.invokevirtual 315, 3) := by decide +kernel
theorem dX8_wise_5 : decode cX8_wise 5 = .ok (.ifCond .ne 9, 3) := by decide +kernel
theorem dX8_wise_8 : decode cX8_wise 8 = .ok (.aload_n 0, 1) := by decide +kernel
theorem dX8_wise_9 : decode cX8_wise 9 = .ok (.iconst 2, 1) := by decide +kernel
theorem dX8_wise_10 : decode cX8_wise 10 = .ok (.invokevirtual 263, 3) := by decide +kernel
theorem dX8_wise_13 : decode cX8_wise 13 = .ok (.ireturn, 1) := by decide +kernel
theorem dX8_wise_14 : decode cX8_wise 14 = .ok (.aload_n 0, 1) := by decide +kernel
theorem dX8_wise_15 : decode cX8_wise 15 = .ok (.invokevirtual 429, 3) := by decide +kernel
theorem dX8_wise_18 : decode cX8_wise 18 = .ok (.ifCond .eq 9, 3) := by decide +kernel
theorem dX8_wise_21 : decode cX8_wise 21 = .ok (.aload_n 0, 1) := by decide +kernel
theorem dX8_wise_22 : decode cX8_wise 22 = .ok (.iconst 3, 1) := by decide +kernel
theorem dX8_wise_23 : decode cX8_wise 23 = .ok (.invokevirtual 263, 3) := by decide +kernel
theorem dX8_wise_26 : decode cX8_wise 26 = .ok (.ireturn, 1) := by decide +kernel
theorem dX8_wise_27 : decode cX8_wise 27 = .ok (.aload_n 0, 1) := by decide +kernel
theorem dX8_wise_28 : decode cX8_wise 28 = .ok (.iload_n 1, 1) := by decide +kernel
theorem dX8_wise_29 : decode cX8_wise 29 = .ok (.invokevirtual 457, 3) := by decide +kernel
theorem dX8_wise_32 : decode cX8_wise 32 = .ok (.istore_n 2, 1) := by decide +kernel
theorem dX8_wise_33 : decode cX8_wise 33 = .ok (.iload_n 2, 1) := by decide +kernel
theorem dX8_wise_34 : decode cX8_wise 34 = .ok (.iconst (-1), 1) := by decide +kernel
theorem dX8_wise_35 : decode cX8_wise 35 = .ok (.if_icmp .ne 11, 3) := by decide +kernel
theorem dX8_wise_38 : decode cX8_wise 38 = .ok (.aload_n 0, 1) := by decide +kernel
theorem dX8_wise_39 : decode cX8_wise 39 = .ok (.iconst 5, 1) := by decide +kernel
theorem dX8_wise_40 : decode cX8_wise 40 = .ok (.invokevirtual 263, 3) := by decide +kernel
theorem dX8_wise_43 : decode cX8_wise 43 = .ok (.goto 8, 3) := by decide +kernel
theorem dX8_wise_46 : decode cX8_wise 46 = .ok (.aload_n 0, 1) := by decide +kernel
theorem dX8_wise_47 : decode cX8_wise 47 = .ok (.iload_n 2, 1) := by decide +kernel
theorem dX8_wise_48 : decode cX8_wise 48 = .ok (.invokevirtual 272, 3) := by decide +kernel
theorem dX8_wise_51 : decode cX8_wise 51 = .ok (.ireturn, 1) := by decide +kernel
theorem dX8_wiseChance_0 : decode cX8_wiseChance 0 = .ok (.aload_n 0, 1) := by decide +kernel
theorem dX8_wiseChance_1 : decode cX8_wiseChance 1 = .ok (.iload_n 1, 1) := by decide +kernel
theorem dX8_wiseChance_2 : decode cX8_wiseChance 2 = .ok (.invokevirtual 315, 3) := by decide +kernel
theorem dX8_wiseChance_5 : decode cX8_wiseChance 5 = .ok (.ifCond .ne 10, 3) := by decide +kernel
theorem dX8_wiseChance_8 : decode cX8_wiseChance 8 = .ok (.aload_n 0, 1) := by decide +kernel
theorem dX8_wiseChance_9 : decode cX8_wiseChance 9 = .ok (.iconst 2, 1) := by decide +kernel
theorem dX8_wiseChance_10 : decode cX8_wiseChance 10 = .ok (.invokevirtual 263, 3) := by decide +kernel
theorem dX8_wiseChance_13 : decode cX8_wiseChance 13 = .ok (.i2l, 1) := by decide +kernel
theorem dX8_wiseChance_14 : decode cX8_wiseChance 14 = .ok (.lreturn, 1) := by decide +kernel
theorem dX8_wiseChance_15 : decode cX8_wiseChance 15 = .ok (.aload_n 0, 1) := by decide +kernel
theorem dX8_wiseChance_16 : decode cX8_wiseChance 16 = .ok (.invokevirtual 429, 3) := by decide +kernel
theorem dX8_wiseChance_19 : decode cX8_wiseChance 19 = .ok (.ifCond .eq 10, 3) := by decide +kernel
theorem dX8_wiseChance_22 : decode cX8_wiseChance 22 = .ok (.aload_n 0, 1) := by decide +kernel
theorem dX8_wiseChance_23 : decode cX8_wiseChance 23 = .ok (.iconst 3, 1) := by decide +kernel
theorem dX8_wiseChance_24 : decode cX8_wiseChance 24 = .ok (.invokevirtual 263, 3) := by decide +kernel
theorem dX8_wiseChance_27 : decode cX8_wiseChance 27 = .ok (.i2l, 1) := by decide +kernel
theorem dX8_wiseChance_28 : decode cX8_wiseChance 28 = .ok (.lreturn, 1) := by decide +kernel
theorem dX8_wiseChance_29 : decode cX8_wiseChance 29 = .ok (.aload_n 0, 1) := by decide +kernel
theorem dX8_wiseChance_30 : decode cX8_wiseChance 30 = .ok (.iload_n 1, 1) := by decide +kernel
theorem dX8_wiseChance_31 : decode cX8_wiseChance 31 = .ok (.invokevirtual 457, 3) := by decide +kernel
theorem dX8_wiseChance_34 : decode cX8_wiseChance 34 = .ok (.iconst (-1), 1) := by decide +kernel
theorem dX8_wiseChance_35 : decode cX8_wiseChance 35 = .ok (.if_icmp .ne 12, 3) := by decide +kernel
theorem dX8_wiseChance_38 : decode cX8_wiseChance 38 = .ok (.aload_n 0, 1) := by decide +kernel
theorem dX8_wiseChance_39 : decode cX8_wiseChance 39 = .ok (.iconst 5, 1) := by decide +kernel
theorem dX8_wiseChance_40 : decode cX8_wiseChance 40 = .ok (.invokevirtual 263, 3) := by decide +kernel
theorem dX8_wiseChance_43 : decode cX8_wiseChance 43 = .ok (.i2l, 1) := by decide +kernel
theorem dX8_wiseChance_44 : decode cX8_wiseChance 44 = .ok (.goto 11, 3) := by decide +kernel
theorem dX8_wiseChance_47 : decode cX8_wiseChance 47 = .ok (.aload_n 0, 1) := by decide +kernel
theorem dX8_wiseChance_48 : decode cX8_wiseChance 48 = .ok (.aload_n 0, 1) := by decide +kernel
theorem dX8_wiseChance_49 : decode cX8_wiseChance 49 = .ok (.getfield 454, 3) := by decide +kernel
theorem dX8_wiseChance_52 : decode cX8_wiseChance 52 = .ok (.invokevirtual 438, 3) := by decide +kernel
theorem dX8_wiseChance_55 : decode cX8_wiseChance 55 = .ok (.lreturn, 1) := by decide +kernel
theorem dX8_together_0 : decode cX8_together 0 = .ok (.aload_n 0, 1) := by decide +kernel
theorem dX8_together_1 : decode cX8_together 1 = .ok (.iload_n 1, 1) := by decide +kernel
theorem dX8_together_2 : decode cX8_together 2 = .ok (.invokevirtual 293, 3) := by decide +kernel
theorem dX8_together_5 : decode cX8_together 5 = .ok (.ifCond .eq 11, 3) := by decide +kernel
theorem dX8_together_8 : decode cX8_together 8 = .ok (.aload_n 0, 1) := by decide +kernel
theorem dX8_together_9 : decode cX8_together 9 = .ok (.iload_n 2, 1) := by decide +kernel
theorem dX8_together_10 : decode cX8_together 10 = .ok (.invokevirtual 293, 3) := by decide +kernel
theorem dX8_together_13 : decode cX8_together 13 = .ok (.ifCond .ne 10, 3) := by decide +kernel
theorem dX8_together_16 : decode cX8_together 16 = .ok (.aload_n 0, 1) := by decide +kernel
theorem dX8_together_17 : decode cX8_together 17 = .ok (.iconst 2, 1) := by decide +kernel
theorem dX8_together_18 : decode cX8_together 18 = .ok (.invokevirtual 263, 3) := by decide +kernel
theorem dX8_together_21 : decode cX8_together 21 = .ok (.i2l, 1) := by decide +kernel
theorem dX8_together_22 : decode cX8_together 22 = .ok (.lreturn, 1) := by decide +kernel
theorem dX8_together_23 : decode cX8_together 23 = .ok (.iload_n 1, 1) := by decide +kernel
theorem dX8_together_24 : decode cX8_together 24 = .ok (.iload_n 2, 1) := by decide +kernel
theorem dX8_together_25 : decode cX8_together 25 = .ok (.if_icmp .ne 10, 3) := by decide +kernel
theorem dX8_together_28 : decode cX8_together 28 = .ok (.aload_n 0, 1) := by decide +kernel
theorem dX8_together_29 : decode cX8_together 29 = .ok (.iconst 4, 1) := by decide +kernel
theorem dX8_together_30 : decode cX8_together 30 = .ok (.invokevirtual 263, 3) := by decide +kernel
theorem dX8_together_33 : decode cX8_together 33 = .ok (.i2l, 1) := by decide +kernel
theorem dX8_together_34 : decode cX8_together 34 = .ok (.lreturn, 1) := by decide +kernel
theorem dX8_together_35 : decode cX8_together 35 = .ok (.aload_n 0, 1) := by decide +kernel
theorem dX8_together_36 : decode cX8_together 36 = .ok (.getfield 7, 3) := by decide +kernel
theorem dX8_together_39 : decode cX8_together 39 = .ok (.bipush 10, 2) := by decide +kernel
theorem dX8_together_41 : decode cX8_together 41 = .ok (.iload_n 1, 1) := by decide +kernel
theorem dX8_together_42 : decode cX8_together 42 = .ok (.iadd, 1) := by decide +kernel
theorem dX8_together_43 : decode cX8_together 43 = .ok (.iaload, 1) := by decide +kernel
theorem dX8_together_44 : decode cX8_together 44 = .ok (.iconst (-1), 1) := by decide +kernel
theorem dX8_together_45 : decode cX8_together 45 = .ok (.if_icmp .ne 16, 3) := by decide +kernel
theorem dX8_together_48 : decode cX8_together 48 = .ok (.aload_n 0, 1) := by decide +kernel
theorem dX8_together_49 : decode cX8_together 49 = .ok (.getfield 7, 3) := by decide +kernel
theorem dX8_together_52 : decode cX8_together 52 = .ok (.bipush 10, 2) := by decide +kernel
theorem dX8_together_54 : decode cX8_together 54 = .ok (.iload_n 2, 1) := by decide +kernel
theorem dX8_together_55 : decode cX8_together 55 = .ok (.iadd, 1) := by decide +kernel
theorem dX8_together_56 : decode cX8_together 56 = .ok (.iaload, 1) := by decide +kernel
theorem dX8_together_57 : decode cX8_together 57 = .ok (.iconst (-1), 1) := by decide +kernel
theorem dX8_together_58 : decode cX8_together 58 = .ok (.if_icmp .eq 11, 3) := by decide +kernel
theorem dX8_together_61 : decode cX8_together 61 = .ok (.aload_n 0, 1) := by decide +kernel
theorem dX8_together_62 : decode cX8_together 62 = .ok (.bipush 7, 2) := by decide +kernel
theorem dX8_together_64 : decode cX8_together 64 = .ok (.invokevirtual 263, 3) := by decide +kernel
theorem dX8_together_67 : decode cX8_together 67 = .ok (.i2l, 1) := by decide +kernel
theorem dX8_together_68 : decode cX8_together 68 = .ok (.lreturn, 1) := by decide +kernel
theorem dX8_together_69 : decode cX8_together 69 = .ok (.aload_n 0, 1) := by decide +kernel
theorem dX8_together_70 : decode cX8_together 70 = .ok (.invokevirtual 281, 3) := by decide +kernel
theorem dX8_together_73 : decode cX8_together 73 = .ok (.aload_n 0, 1) := by decide +kernel
theorem dX8_together_74 : decode cX8_together 74 = .ok (.getfield 275, 3) := by decide +kernel
theorem dX8_together_77 : decode cX8_together 77 = .ok (.bipush 8, 2) := by decide +kernel
theorem dX8_together_79 : decode cX8_together 79 = .ok (.if_icmp .le 10, 3) := by decide +kernel
theorem dX8_together_82 : decode cX8_together 82 = .ok (.aload_n 0, 1) := by decide +kernel
theorem dX8_together_83 : decode cX8_together 83 = .ok (.iconst 3, 1) := by decide +kernel
theorem dX8_together_84 : decode cX8_together 84 = .ok (.invokevirtual 263, 3) := by decide +kernel
theorem dX8_together_87 : decode cX8_together 87 = .ok (.i2l, 1) := by decide +kernel
theorem dX8_together_88 : decode cX8_together 88 = .ok (.lreturn, 1) := by decide +kernel
theorem dX8_together_89 : decode cX8_together 89 = .ok (.aload_n 0, 1) := by decide +kernel
theorem dX8_together_90 : decode cX8_together 90 = .ok (.iload_n 1, 1) := by decide +kernel
theorem dX8_together_91 : decode cX8_together 91 = .ok (.iload_n 2, 1) := by decide +kernel
theorem dX8_together_92 : decode cX8_together 92 = .ok (.invokevirtual 460, 3) := by decide +kernel
theorem dX8_together_95 : decode cX8_together 95 = .ok (.istore_n 3, 1) := by decide +kernel
theorem dX8_together_96 : decode cX8_together 96 = .ok (.aload_n 0, 1) := by decide +kernel
theorem dX8_together_97 : decode cX8_together 97 = .ok (.invokevirtual 390, 3) := by decide +kernel
theorem dX8_together_100 : decode cX8_together 100 = .ok (.aload_n 0, 1) := by decide +kernel
theorem dX8_together_101 : decode cX8_together 101 = .ok (.aload_n 0, 1) := by decide +kernel
theorem dX8_together_102 : decode cX8_together 102 = .ok (.iload_n 3, 1) := by decide +kernel
theorem dX8_together_103 : decode cX8_together 103 = .ok (.invokevirtual 435, 3) := by decide +kernel
theorem dX8_together_106 : decode cX8_together 106 = .ok (.invokevirtual 438, 3) := by decide +kernel
theorem dX8_together_109 : decode cX8_together 109 = .ok (.lreturn, 1) := by decide +kernel
theorem dX8_laysJoined_0 : decode cX8_laysJoined 0 = .ok (.iconst 0, 1) := by decide +kernel
theorem dX8_laysJoined_1 : decode cX8_laysJoined 1 = .ok (.istore_n 3, 1) := by decide +kernel
theorem dX8_laysJoined_2 : decode cX8_laysJoined 2 = .ok (.iconst 0, 1) := by decide +kernel
theorem dX8_laysJoined_3 : decode cX8_laysJoined 3 = .ok (.istore 4, 2) := by decide +kernel
theorem dX8_laysJoined_5 : decode cX8_laysJoined 5 = .ok (.iload 4, 2) := by decide +kernel
theorem dX8_laysJoined_7 : decode cX8_laysJoined 7 = .ok (.aload_n 0, 1) := by decide +kernel
theorem dX8_laysJoined_8 : decode cX8_laysJoined 8 = .ok (.getfield 275, 3) := by decide +kernel
theorem dX8_laysJoined_11 : decode cX8_laysJoined 11 = .ok (.if_icmp .ge 80, 3) := by decide +kernel
theorem dX8_laysJoined_14 : decode cX8_laysJoined 14 = .ok (.aload_n 0, 1) := by decide +kernel
theorem dX8_laysJoined_15 : decode cX8_laysJoined 15 = .ok (.getfield 49, 3) := by decide +kernel
theorem dX8_laysJoined_18 : decode cX8_laysJoined 18 = .ok (.iload 4, 2) := by decide +kernel
theorem dX8_laysJoined_20 : decode cX8_laysJoined 20 = .ok (.iaload, 1) := by decide +kernel
theorem dX8_laysJoined_21 : decode cX8_laysJoined 21 = .ok (.iconst 1, 1) := by decide +kernel
theorem dX8_laysJoined_22 : decode cX8_laysJoined 22 = .ok (.iload_n 1, 1) := by decide +kernel
theorem dX8_laysJoined_23 : decode cX8_laysJoined 23 = .ok (.ishl, 1) := by decide +kernel
theorem dX8_laysJoined_24 : decode cX8_laysJoined 24 = .ok (.if_icmp .eq 61, 3) := by decide +kernel
theorem dX8_laysJoined_27 : decode cX8_laysJoined 27 = .ok (.aload_n 0, 1) := by decide +kernel
theorem dX8_laysJoined_28 : decode cX8_laysJoined 28 = .ok (.getfield 49, 3) := by decide +kernel
theorem dX8_laysJoined_31 : decode cX8_laysJoined 31 = .ok (.iload 4, 2) := by decide +kernel
theorem dX8_laysJoined_33 : decode cX8_laysJoined 33 = .ok (.iaload, 1) := by decide +kernel
theorem dX8_laysJoined_34 : decode cX8_laysJoined 34 = .ok (.iconst 1, 1) := by decide +kernel
theorem dX8_laysJoined_35 : decode cX8_laysJoined 35 = .ok (.iload_n 2, 1) := by decide +kernel
theorem dX8_laysJoined_36 : decode cX8_laysJoined 36 = .ok (.ishl, 1) := by decide +kernel
theorem dX8_laysJoined_37 : decode cX8_laysJoined 37 = .ok (.if_icmp .ne 6, 3) := by decide +kernel
theorem dX8_laysJoined_40 : decode cX8_laysJoined 40 = .ok (.goto 45, 3) := by decide +kernel
theorem dX8_laysJoined_43 : decode cX8_laysJoined 43 = .ok (.aload_n 0, 1) := by decide +kernel
theorem dX8_laysJoined_44 : decode cX8_laysJoined 44 = .ok (.getfield 49, 3) := by decide +kernel
theorem dX8_laysJoined_47 : decode cX8_laysJoined 47 = .ok (.iload_n 3, 1) := by decide +kernel
theorem dX8_laysJoined_48 : decode cX8_laysJoined 48 = .ok (.aload_n 0, 1) := by decide +kernel
theorem dX8_laysJoined_49 : decode cX8_laysJoined 49 = .ok (.getfield 49, 3) := by decide +kernel
theorem dX8_laysJoined_52 : decode cX8_laysJoined 52 = .ok (.iload 4, 2) := by decide +kernel
theorem dX8_laysJoined_54 : decode cX8_laysJoined 54 = .ok (.iaload, 1) := by decide +kernel
theorem dX8_laysJoined_55 : decode cX8_laysJoined 55 = .ok (.iastore, 1) := by decide +kernel
theorem dX8_laysJoined_56 : decode cX8_laysJoined 56 = .ok (.aload_n 0, 1) := by decide +kernel
theorem dX8_laysJoined_57 : decode cX8_laysJoined 57 = .ok (.getfield 52, 3) := by decide +kernel
theorem dX8_laysJoined_60 : decode cX8_laysJoined 60 = .ok (.iload_n 3, 1) := by decide +kernel
theorem dX8_laysJoined_61 : decode cX8_laysJoined 61 = .ok (.aload_n 0, 1) := by decide +kernel
theorem dX8_laysJoined_62 : decode cX8_laysJoined 62 = .ok (.getfield 52, 3) := by decide +kernel
theorem dX8_laysJoined_65 : decode cX8_laysJoined 65 = .ok (.iload 4, 2) := by decide +kernel
theorem dX8_laysJoined_67 : decode cX8_laysJoined 67 = .ok (.iaload, 1) := by decide +kernel
theorem dX8_laysJoined_68 : decode cX8_laysJoined 68 = .ok (.iastore, 1) := by decide +kernel
theorem dX8_laysJoined_69 : decode cX8_laysJoined 69 = .ok (.aload_n 0, 1) := by decide +kernel
theorem dX8_laysJoined_70 : decode cX8_laysJoined 70 = .ok (.getfield 55, 3) := by decide +kernel
theorem dX8_laysJoined_73 : decode cX8_laysJoined 73 = .ok (.iload_n 3, 1) := by decide +kernel
theorem dX8_laysJoined_74 : decode cX8_laysJoined 74 = .ok (.aload_n 0, 1) := by decide +kernel
theorem dX8_laysJoined_75 : decode cX8_laysJoined 75 = .ok (.getfield 55, 3) := by decide +kernel
theorem dX8_laysJoined_78 : decode cX8_laysJoined 78 = .ok (.iload 4, 2) := by decide +kernel
theorem dX8_laysJoined_80 : decode cX8_laysJoined 80 = .ok (.iaload, 1) := by decide +kernel
theorem dX8_laysJoined_81 : decode cX8_laysJoined 81 = .ok (.iastore, 1) := by decide +kernel
theorem dX8_laysJoined_82 : decode cX8_laysJoined 82 = .ok (.iinc 3 1, 3) := by decide +kernel
theorem dX8_laysJoined_85 : decode cX8_laysJoined 85 = .ok (.iinc 4 1, 3) := by decide +kernel
theorem dX8_laysJoined_88 : decode cX8_laysJoined 88 = .ok (.goto (-83), 3) := by decide +kernel
theorem dX8_laysJoined_91 : decode cX8_laysJoined 91 = .ok (.aload_n 0, 1) := by decide +kernel
theorem dX8_laysJoined_92 : decode cX8_laysJoined 92 = .ok (.getfield 49, 3) := by decide +kernel
theorem dX8_laysJoined_95 : decode cX8_laysJoined 95 = .ok (.iload_n 3, 1) := by decide +kernel
theorem dX8_laysJoined_96 : decode cX8_laysJoined 96 = .ok (.iconst 1, 1) := by decide +kernel
theorem dX8_laysJoined_97 : decode cX8_laysJoined 97 = .ok (.iload_n 1, 1) := by decide +kernel
theorem dX8_laysJoined_98 : decode cX8_laysJoined 98 = .ok (.ishl, 1) := by decide +kernel
theorem dX8_laysJoined_99 : decode cX8_laysJoined 99 = .ok (.iconst 1, 1) := by decide +kernel
theorem dX8_laysJoined_100 : decode cX8_laysJoined 100 = .ok (.iload_n 2, 1) := by decide +kernel
theorem dX8_laysJoined_101 : decode cX8_laysJoined 101 = .ok (.ishl, 1) := by decide +kernel
theorem dX8_laysJoined_102 : decode cX8_laysJoined 102 = .ok (.ior, 1) := by decide +kernel
theorem dX8_laysJoined_103 : decode cX8_laysJoined 103 = .ok (.iastore, 1) := by decide +kernel
theorem dX8_laysJoined_104 : decode cX8_laysJoined 104 = .ok (.aload_n 0, 1) := by decide +kernel
theorem dX8_laysJoined_105 : decode cX8_laysJoined 105 = .ok (.getfield 52, 3) := by decide +kernel
theorem dX8_laysJoined_108 : decode cX8_laysJoined 108 = .ok (.iload_n 3, 1) := by decide +kernel
theorem dX8_laysJoined_109 : decode cX8_laysJoined 109 = .ok (.iconst (-1), 1) := by decide +kernel
theorem dX8_laysJoined_110 : decode cX8_laysJoined 110 = .ok (.iastore, 1) := by decide +kernel
theorem dX8_laysJoined_111 : decode cX8_laysJoined 111 = .ok (.aload_n 0, 1) := by decide +kernel
theorem dX8_laysJoined_112 : decode cX8_laysJoined 112 = .ok (.getfield 55, 3) := by decide +kernel
theorem dX8_laysJoined_115 : decode cX8_laysJoined 115 = .ok (.iload_n 3, 1) := by decide +kernel
theorem dX8_laysJoined_116 : decode cX8_laysJoined 116 = .ok (.bipush 20, 2) := by decide +kernel
theorem dX8_laysJoined_118 : decode cX8_laysJoined 118 = .ok (.iconst 3, 1) := by decide +kernel
theorem dX8_laysJoined_119 : decode cX8_laysJoined 119 = .ok (.iload_n 1, 1) := by decide +kernel
theorem dX8_laysJoined_120 : decode cX8_laysJoined 120 = .ok (.imul, 1) := by decide +kernel
theorem dX8_laysJoined_121 : decode cX8_laysJoined 121 = .ok (.iadd, 1) := by decide +kernel
theorem dX8_laysJoined_122 : decode cX8_laysJoined 122 = .ok (.iastore, 1) := by decide +kernel
theorem dX8_laysJoined_123 : decode cX8_laysJoined 123 = .ok (.aload_n 0, 1) := by decide +kernel
theorem dX8_laysJoined_124 : decode cX8_laysJoined 124 = .ok (.iload_n 3, 1) := by decide +kernel
theorem dX8_laysJoined_125 : decode cX8_laysJoined 125 = .ok (.iconst 1, 1) := by decide +kernel
theorem dX8_laysJoined_126 : decode cX8_laysJoined 126 = .ok (.iadd, 1) := by decide +kernel
theorem dX8_laysJoined_127 : decode cX8_laysJoined 127 = .ok (.putfield 275, 3) := by decide +kernel
theorem dX8_laysJoined_130 : decode cX8_laysJoined 130 = .ok (.iconst 0, 1) := by decide +kernel
theorem dX8_laysJoined_131 : decode cX8_laysJoined 131 = .ok (.istore 4, 2) := by decide +kernel
theorem dX8_laysJoined_133 : decode cX8_laysJoined 133 = .ok (.iload 4, 2) := by decide +kernel
theorem dX8_laysJoined_135 : decode cX8_laysJoined 135 = .ok (.aload_n 0, 1) := by decide +kernel
theorem dX8_laysJoined_136 : decode cX8_laysJoined 136 = .ok (.getfield 275, 3) := by decide +kernel
theorem dX8_laysJoined_139 : decode cX8_laysJoined 139 = .ok (.if_icmp .ge 15, 3) := by decide +kernel
theorem dX8_laysJoined_142 : decode cX8_laysJoined 142 = .ok (.aload_n 0, 1) := by decide +kernel
theorem dX8_laysJoined_143 : decode cX8_laysJoined 143 = .ok (.iload 4, 2) := by decide +kernel
theorem dX8_laysJoined_145 : decode cX8_laysJoined 145 = .ok (.invokevirtual 278, 3) := by decide +kernel
theorem dX8_laysJoined_148 : decode cX8_laysJoined 148 = .ok (.iinc 4 1, 3) := by decide +kernel
theorem dX8_laysJoined_151 : decode cX8_laysJoined 151 = .ok (.goto (-18), 3) := by decide +kernel
theorem dX8_laysJoined_154 : decode cX8_laysJoined 154 = .ok (.iload_n 3, 1) := by decide +kernel
theorem dX8_laysJoined_155 : decode cX8_laysJoined 155 = .ok (.ireturn, 1) := by decide +kernel
theorem dX8_splits_0 : decode cX8_splits 0 = .ok (.iconst 0, 1) := by decide +kernel
theorem dX8_splits_1 : decode cX8_splits 1 = .ok (.istore_n 2, 1) := by decide +kernel
theorem dX8_splits_2 : decode cX8_splits 2 = .ok (.iload_n 2, 1) := by decide +kernel
theorem dX8_splits_3 : decode cX8_splits 3 = .ok (.aload_n 0, 1) := by decide +kernel
theorem dX8_splits_4 : decode cX8_splits 4 = .ok (.getfield 132, 3) := by decide +kernel
theorem dX8_splits_7 : decode cX8_splits 7 = .ok (.if_icmp .ge 100, 3) := by decide +kernel
theorem dX8_splits_10 : decode cX8_splits 10 = .ok (.aload_n 0, 1) := by decide +kernel
theorem dX8_splits_11 : decode cX8_splits 11 = .ok (.getfield 7, 3) := by decide +kernel
theorem dX8_splits_14 : decode cX8_splits 14 = .ok (.bipush 10, 2) := by decide +kernel
theorem dX8_splits_16 : decode cX8_splits 16 = .ok (.iload_n 2, 1) := by decide +kernel
theorem dX8_splits_17 : decode cX8_splits 17 = .ok (.iadd, 1) := by decide +kernel
theorem dX8_splits_18 : decode cX8_splits 18 = .ok (.iaload, 1) := by decide +kernel
theorem dX8_splits_19 : decode cX8_splits 19 = .ok (.iload_n 1, 1) := by decide +kernel
theorem dX8_splits_20 : decode cX8_splits 20 = .ok (.if_icmp .ne 55, 3) := by decide +kernel
theorem dX8_splits_23 : decode cX8_splits 23 = .ok (.aload_n 0, 1) := by decide +kernel
theorem dX8_splits_24 : decode cX8_splits 24 = .ok (.getfield 7, 3) := by decide +kernel
theorem dX8_splits_27 : decode cX8_splits 27 = .ok (.bipush 10, 2) := by decide +kernel
theorem dX8_splits_29 : decode cX8_splits 29 = .ok (.iload_n 2, 1) := by decide +kernel
theorem dX8_splits_30 : decode cX8_splits 30 = .ok (.iadd, 1) := by decide +kernel
theorem dX8_splits_31 : decode cX8_splits 31 = .ok (.iconst (-1), 1) := by decide +kernel
theorem dX8_splits_32 : decode cX8_splits 32 = .ok (.iastore, 1) := by decide +kernel
theorem dX8_splits_33 : decode cX8_splits 33 = .ok (.iconst 0, 1) := by decide +kernel
theorem dX8_splits_34 : decode cX8_splits 34 = .ok (.istore_n 3, 1) := by decide +kernel
theorem dX8_splits_35 : decode cX8_splits 35 = .ok (.iload_n 3, 1) := by decide +kernel
theorem dX8_splits_36 : decode cX8_splits 36 = .ok (.iconst 3, 1) := by decide +kernel
theorem dX8_splits_37 : decode cX8_splits 37 = .ok (.if_icmp .ge 35, 3) := by decide +kernel
theorem dX8_splits_40 : decode cX8_splits 40 = .ok (.aload_n 0, 1) := by decide +kernel
theorem dX8_splits_41 : decode cX8_splits 41 = .ok (.getfield 7, 3) := by decide +kernel
theorem dX8_splits_44 : decode cX8_splits 44 = .ok (.bipush 20, 2) := by decide +kernel
theorem dX8_splits_46 : decode cX8_splits 46 = .ok (.iconst 3, 1) := by decide +kernel
theorem dX8_splits_47 : decode cX8_splits 47 = .ok (.iload_n 2, 1) := by decide +kernel
theorem dX8_splits_48 : decode cX8_splits 48 = .ok (.imul, 1) := by decide +kernel
theorem dX8_splits_49 : decode cX8_splits 49 = .ok (.iadd, 1) := by decide +kernel
theorem dX8_splits_50 : decode cX8_splits 50 = .ok (.iload_n 3, 1) := by decide +kernel
theorem dX8_splits_51 : decode cX8_splits 51 = .ok (.iadd, 1) := by decide +kernel
theorem dX8_splits_52 : decode cX8_splits 52 = .ok (.aload_n 0, 1) := by decide +kernel
theorem dX8_splits_53 : decode cX8_splits 53 = .ok (.getfield 7, 3) := by decide +kernel
theorem dX8_splits_56 : decode cX8_splits 56 = .ok (.bipush 50, 2) := by decide +kernel
theorem dX8_splits_58 : decode cX8_splits 58 = .ok (.iconst 3, 1) := by decide +kernel
theorem dX8_splits_59 : decode cX8_splits 59 = .ok (.iload_n 1, 1) := by decide +kernel
theorem dX8_splits_60 : decode cX8_splits 60 = .ok (.imul, 1) := by decide +kernel
theorem dX8_splits_61 : decode cX8_splits 61 = .ok (.iadd, 1) := by decide +kernel
theorem dX8_splits_62 : decode cX8_splits 62 = .ok (.iload_n 3, 1) := by decide +kernel
theorem dX8_splits_63 : decode cX8_splits 63 = .ok (.iadd, 1) := by decide +kernel
theorem dX8_splits_64 : decode cX8_splits 64 = .ok (.iaload, 1) := by decide +kernel
theorem dX8_splits_65 : decode cX8_splits 65 = .ok (.iastore, 1) := by decide +kernel
theorem dX8_splits_66 : decode cX8_splits 66 = .ok (.iinc 3 1, 3) := by decide +kernel
theorem dX8_splits_69 : decode cX8_splits 69 = .ok (.goto (-34), 3) := by decide +kernel
theorem dX8_splits_72 : decode cX8_splits 72 = .ok (.goto 29, 3) := by decide +kernel
theorem dX8_splits_75 : decode cX8_splits 75 = .ok (.aload_n 0, 1) := by decide +kernel
theorem dX8_splits_76 : decode cX8_splits 76 = .ok (.getfield 7, 3) := by decide +kernel
theorem dX8_splits_79 : decode cX8_splits 79 = .ok (.bipush 10, 2) := by decide +kernel
theorem dX8_splits_81 : decode cX8_splits 81 = .ok (.iload_n 2, 1) := by decide +kernel
theorem dX8_splits_82 : decode cX8_splits 82 = .ok (.iadd, 1) := by decide +kernel
theorem dX8_splits_83 : decode cX8_splits 83 = .ok (.iaload, 1) := by decide +kernel
theorem dX8_splits_84 : decode cX8_splits 84 = .ok (.iload_n 1, 1) := by decide +kernel
theorem dX8_splits_85 : decode cX8_splits 85 = .ok (.if_icmp .le 16, 3) := by decide +kernel
theorem dX8_splits_88 : decode cX8_splits 88 = .ok (.aload_n 0, 1) := by decide +kernel
theorem dX8_splits_89 : decode cX8_splits 89 = .ok (.getfield 7, 3) := by decide +kernel
theorem dX8_splits_92 : decode cX8_splits 92 = .ok (.bipush 10, 2) := by decide +kernel
theorem dX8_splits_94 : decode cX8_splits 94 = .ok (.iload_n 2, 1) := by decide +kernel
theorem dX8_splits_95 : decode cX8_splits 95 = .ok (.iadd, 1) := by decide +kernel
theorem dX8_splits_96 : decode cX8_splits 96 = .ok (.dup2, 1) := by decide +kernel
theorem dX8_splits_97 : decode cX8_splits 97 = .ok (.iaload, 1) := by decide +kernel
theorem dX8_splits_98 : decode cX8_splits 98 = .ok (.iconst 1, 1) := by decide +kernel
theorem dX8_splits_99 : decode cX8_splits 99 = .ok (.isub, 1) := by decide +kernel
theorem dX8_splits_100 : decode cX8_splits 100 = .ok (.iastore, 1) := by decide +kernel
theorem dX8_splits_101 : decode cX8_splits 101 = .ok (.iinc 2 1, 3) := by decide +kernel
theorem dX8_splits_104 : decode cX8_splits 104 = .ok (.goto (-102), 3) := by decide +kernel
theorem dX8_splits_107 : decode cX8_splits 107 = .ok (.aload_n 0, 1) := by decide +kernel
theorem dX8_splits_108 : decode cX8_splits 108 = .ok (.getfield 7, 3) := by decide +kernel
theorem dX8_splits_111 : decode cX8_splits 111 = .ok (.bipush 70, 2) := by decide +kernel
theorem dX8_splits_113 : decode cX8_splits 113 = .ok (.dup2, 1) := by decide +kernel
theorem dX8_splits_114 : decode cX8_splits 114 = .ok (.iaload, 1) := by decide +kernel
theorem dX8_splits_115 : decode cX8_splits 115 = .ok (.iconst 1, 1) := by decide +kernel
theorem dX8_splits_116 : decode cX8_splits 116 = .ok (.isub, 1) := by decide +kernel
theorem dX8_splits_117 : decode cX8_splits 117 = .ok (.iastore, 1) := by decide +kernel
theorem dX8_splits_118 : decode cX8_splits 118 = .ok (.iconst 3, 1) := by decide +kernel
theorem dX8_splits_119 : decode cX8_splits 119 = .ok (.iload_n 1, 1) := by decide +kernel
theorem dX8_splits_120 : decode cX8_splits 120 = .ok (.imul, 1) := by decide +kernel
theorem dX8_splits_121 : decode cX8_splits 121 = .ok (.istore_n 2, 1) := by decide +kernel
theorem dX8_splits_122 : decode cX8_splits 122 = .ok (.iload_n 2, 1) := by decide +kernel
theorem dX8_splits_123 : decode cX8_splits 123 = .ok (.bipush 12, 2) := by decide +kernel
theorem dX8_splits_125 : decode cX8_splits 125 = .ok (.if_icmp .ge 39, 3) := by decide +kernel
theorem dX8_splits_128 : decode cX8_splits 128 = .ok (.aload_n 0, 1) := by decide +kernel
theorem dX8_splits_129 : decode cX8_splits 129 = .ok (.getfield 7, 3) := by decide +kernel
theorem dX8_splits_132 : decode cX8_splits 132 = .ok (.bipush 50, 2) := by decide +kernel
theorem dX8_splits_134 : decode cX8_splits 134 = .ok (.iload_n 2, 1) := by decide +kernel
theorem dX8_splits_135 : decode cX8_splits 135 = .ok (.iadd, 1) := by decide +kernel
theorem dX8_splits_136 : decode cX8_splits 136 = .ok (.iload_n 2, 1) := by decide +kernel
theorem dX8_splits_137 : decode cX8_splits 137 = .ok (.bipush 9, 2) := by decide +kernel
theorem dX8_splits_139 : decode cX8_splits 139 = .ok (.if_icmp .ge 17, 3) := by decide +kernel
theorem dX8_splits_142 : decode cX8_splits 142 = .ok (.aload_n 0, 1) := by decide +kernel
theorem dX8_splits_143 : decode cX8_splits 143 = .ok (.getfield 7, 3) := by decide +kernel
theorem dX8_splits_146 : decode cX8_splits 146 = .ok (.bipush 50, 2) := by decide +kernel
theorem dX8_splits_148 : decode cX8_splits 148 = .ok (.iload_n 2, 1) := by decide +kernel
theorem dX8_splits_149 : decode cX8_splits 149 = .ok (.iadd, 1) := by decide +kernel
theorem dX8_splits_150 : decode cX8_splits 150 = .ok (.iconst 3, 1) := by decide +kernel
theorem dX8_splits_151 : decode cX8_splits 151 = .ok (.iadd, 1) := by decide +kernel
theorem dX8_splits_152 : decode cX8_splits 152 = .ok (.iaload, 1) := by decide +kernel
theorem dX8_splits_153 : decode cX8_splits 153 = .ok (.goto 4, 3) := by decide +kernel
theorem dX8_splits_156 : decode cX8_splits 156 = .ok (.iconst (-1), 1) := by decide +kernel
theorem dX8_splits_157 : decode cX8_splits 157 = .ok (.iastore, 1) := by decide +kernel
theorem dX8_splits_158 : decode cX8_splits 158 = .ok (.iinc 2 1, 3) := by decide +kernel
theorem dX8_splits_161 : decode cX8_splits 161 = .ok (.goto (-39), 3) := by decide +kernel
theorem dX8_splits_164 : decode cX8_splits 164 = .ok (.return_, 1) := by decide +kernel
theorem dX8_apart_0 : decode cX8_apart 0 = .ok (.aload_n 0, 1) := by decide +kernel
theorem dX8_apart_1 : decode cX8_apart 1 = .ok (.iload_n 1, 1) := by decide +kernel
theorem dX8_apart_2 : decode cX8_apart 2 = .ok (.invokevirtual 463, 3) := by decide +kernel
theorem dX8_apart_5 : decode cX8_apart 5 = .ok (.ifCond .ne 10, 3) := by decide +kernel
theorem dX8_apart_8 : decode cX8_apart 8 = .ok (.aload_n 0, 1) := by decide +kernel
theorem dX8_apart_9 : decode cX8_apart 9 = .ok (.iconst 2, 1) := by decide +kernel
theorem dX8_apart_10 : decode cX8_apart 10 = .ok (.invokevirtual 263, 3) := by decide +kernel
theorem dX8_apart_13 : decode cX8_apart 13 = .ok (.i2l, 1) := by decide +kernel
theorem dX8_apart_14 : decode cX8_apart 14 = .ok (.lreturn, 1) := by decide +kernel
theorem dX8_apart_15 : decode cX8_apart 15 = .ok (.iconst 0, 1) := by decide +kernel
theorem dX8_apart_16 : decode cX8_apart 16 = .ok (.istore_n 2, 1) := by decide +kernel
theorem dX8_apart_17 : decode cX8_apart 17 = .ok (.iconst 0, 1) := by decide +kernel
theorem dX8_apart_18 : decode cX8_apart 18 = .ok (.istore_n 3, 1) := by decide +kernel
theorem dX8_apart_19 : decode cX8_apart 19 = .ok (.iload_n 3, 1) := by decide +kernel
theorem dX8_apart_20 : decode cX8_apart 20 = .ok (.aload_n 0, 1) := by decide +kernel
theorem dX8_apart_21 : decode cX8_apart 21 = .ok (.getfield 132, 3) := by decide +kernel
theorem dX8_apart_24 : decode cX8_apart 24 = .ok (.if_icmp .ge 32, 3) := by decide +kernel
theorem dX8_apart_27 : decode cX8_apart 27 = .ok (.iload_n 2, 1) := by decide +kernel
theorem dX8_apart_28 : decode cX8_apart 28 = .ok (.aload_n 0, 1) := by decide +kernel
theorem dX8_apart_29 : decode cX8_apart 29 = .ok (.getfield 7, 3) := by decide +kernel
theorem dX8_apart_32 : decode cX8_apart 32 = .ok (.bipush 10, 2) := by decide +kernel
theorem dX8_apart_34 : decode cX8_apart 34 = .ok (.iload_n 3, 1) := by decide +kernel
theorem dX8_apart_35 : decode cX8_apart 35 = .ok (.iadd, 1) := by decide +kernel
theorem dX8_apart_36 : decode cX8_apart 36 = .ok (.iaload, 1) := by decide +kernel
theorem dX8_apart_37 : decode cX8_apart 37 = .ok (.iload_n 1, 1) := by decide +kernel
theorem dX8_apart_38 : decode cX8_apart 38 = .ok (.if_icmp .ne 9, 3) := by decide +kernel
theorem dX8_apart_41 : decode cX8_apart 41 = .ok (.iconst 1, 1) := by decide +kernel
theorem dX8_apart_42 : decode cX8_apart 42 = .ok (.iload_n 3, 1) := by decide +kernel
theorem dX8_apart_43 : decode cX8_apart 43 = .ok (.ishl, 1) := by decide +kernel
theorem dX8_apart_44 : decode cX8_apart 44 = .ok (.goto 4, 3) := by decide +kernel
theorem dX8_apart_47 : decode cX8_apart 47 = .ok (.iconst 0, 1) := by decide +kernel
theorem dX8_apart_48 : decode cX8_apart 48 = .ok (.ior, 1) := by decide +kernel
theorem dX8_apart_49 : decode cX8_apart 49 = .ok (.istore_n 2, 1) := by decide +kernel
theorem dX8_apart_50 : decode cX8_apart 50 = .ok (.iinc 3 1, 3) := by decide +kernel
theorem dX8_apart_53 : decode cX8_apart 53 = .ok (.goto (-34), 3) := by decide +kernel
theorem dX8_apart_56 : decode cX8_apart 56 = .ok (.aload_n 0, 1) := by decide +kernel
theorem dX8_apart_57 : decode cX8_apart 57 = .ok (.invokevirtual 444, 3) := by decide +kernel
theorem dX8_apart_60 : decode cX8_apart 60 = .ok (.aload_n 0, 1) := by decide +kernel
theorem dX8_apart_61 : decode cX8_apart 61 = .ok (.iload_n 1, 1) := by decide +kernel
theorem dX8_apart_62 : decode cX8_apart 62 = .ok (.invokevirtual 466, 3) := by decide +kernel
theorem dX8_apart_65 : decode cX8_apart 65 = .ok (.aload_n 0, 1) := by decide +kernel
theorem dX8_apart_66 : decode cX8_apart 66 = .ok (.invokevirtual 429, 3) := by decide +kernel
theorem dX8_apart_69 : decode cX8_apart 69 = .ok (.ifCond .ne 7, 3) := by decide +kernel
theorem dX8_apart_72 : decode cX8_apart 72 = .ok (.iconst 1, 1) := by decide +kernel
theorem dX8_apart_73 : decode cX8_apart 73 = .ok (.goto 4, 3) := by decide +kernel
theorem dX8_apart_76 : decode cX8_apart 76 = .ok (.iconst 0, 1) := by decide +kernel
theorem dX8_apart_77 : decode cX8_apart 77 = .ok (.istore_n 3, 1) := by decide +kernel
theorem dX8_apart_78 : decode cX8_apart 78 = .ok (.iload_n 3, 1) := by decide +kernel
theorem dX8_apart_79 : decode cX8_apart 79 = .ok (.ifCond .eq 59, 3) := by decide +kernel
theorem dX8_apart_82 : decode cX8_apart 82 = .ok (.aload_n 0, 1) := by decide +kernel
theorem dX8_apart_83 : decode cX8_apart 83 = .ok (.iconst 0, 1) := by decide +kernel
theorem dX8_apart_84 : decode cX8_apart 84 = .ok (.putfield 418, 3) := by decide +kernel
theorem dX8_apart_87 : decode cX8_apart 87 = .ok (.iconst 0, 1) := by decide +kernel
theorem dX8_apart_88 : decode cX8_apart 88 = .ok (.istore 4, 2) := by decide +kernel
theorem dX8_apart_90 : decode cX8_apart 90 = .ok (.iload 4, 2) := by decide +kernel
theorem dX8_apart_92 : decode cX8_apart 92 = .ok (.aload_n 0, 1) := by decide +kernel
theorem dX8_apart_93 : decode cX8_apart 93 = .ok (.getfield 275, 3) := by decide +kernel
theorem dX8_apart_96 : decode cX8_apart 96 = .ok (.if_icmp .ge 38, 3) := by decide +kernel
theorem dX8_apart_99 : decode cX8_apart 99 = .ok (.aload_n 0, 1) := by decide +kernel
theorem dX8_apart_100 : decode cX8_apart 100 = .ok (.dup, 1) := by decide +kernel
theorem dX8_apart_101 : decode cX8_apart 101 = .ok (.getfield 418, 3) := by decide +kernel
theorem dX8_apart_104 : decode cX8_apart 104 = .ok (.aload_n 0, 1) := by decide +kernel
theorem dX8_apart_105 : decode cX8_apart 105 = .ok (.getfield 49, 3) := by decide +kernel
theorem dX8_apart_108 : decode cX8_apart 108 = .ok (.iload 4, 2) := by decide +kernel
theorem dX8_apart_110 : decode cX8_apart 110 = .ok (.iaload, 1) := by decide +kernel
theorem dX8_apart_111 : decode cX8_apart 111 = .ok (.iload_n 2, 1) := by decide +kernel
theorem dX8_apart_112 : decode cX8_apart 112 = .ok (.iand, 1) := by decide +kernel
theorem dX8_apart_113 : decode cX8_apart 113 = .ok (.ifCond .eq 10, 3) := by decide +kernel
theorem dX8_apart_116 : decode cX8_apart 116 = .ok (.iconst 1, 1) := by decide +kernel
theorem dX8_apart_117 : decode cX8_apart 117 = .ok (.iload 4, 2) := by decide +kernel
theorem dX8_apart_119 : decode cX8_apart 119 = .ok (.ishl, 1) := by decide +kernel
theorem dX8_apart_120 : decode cX8_apart 120 = .ok (.goto 4, 3) := by decide +kernel
theorem dX8_apart_123 : decode cX8_apart 123 = .ok (.iconst 0, 1) := by decide +kernel
theorem dX8_apart_124 : decode cX8_apart 124 = .ok (.ior, 1) := by decide +kernel
theorem dX8_apart_125 : decode cX8_apart 125 = .ok (.putfield 418, 3) := by decide +kernel
theorem dX8_apart_128 : decode cX8_apart 128 = .ok (.iinc 4 1, 3) := by decide +kernel
theorem dX8_apart_131 : decode cX8_apart 131 = .ok (.goto (-41), 3) := by decide +kernel
theorem dX8_apart_134 : decode cX8_apart 134 = .ok (.aload_n 0, 1) := by decide +kernel
theorem dX8_apart_135 : decode cX8_apart 135 = .ok (.invokevirtual 432, 3) := by decide +kernel
theorem dX8_apart_138 : decode cX8_apart 138 = .ok (.aload_n 0, 1) := by decide +kernel
theorem dX8_apart_139 : decode cX8_apart 139 = .ok (.invokevirtual 449, 3) := by decide +kernel
theorem dX8_apart_142 : decode cX8_apart 142 = .ok (.iload_n 3, 1) := by decide +kernel
theorem dX8_apart_143 : decode cX8_apart 143 = .ok (.ifCond .eq 14, 3) := by decide +kernel
theorem dX8_apart_146 : decode cX8_apart 146 = .ok (.aload_n 0, 1) := by decide +kernel
theorem dX8_apart_147 : decode cX8_apart 147 = .ok (.aload_n 0, 1) := by decide +kernel
theorem dX8_apart_148 : decode cX8_apart 148 = .ok (.getfield 393, 3) := by decide +kernel
theorem dX8_apart_151 : decode cX8_apart 151 = .ok (.invokevirtual 438, 3) := by decide +kernel
theorem dX8_apart_154 : decode cX8_apart 154 = .ok (.goto 9, 3) := by decide +kernel
theorem dX8_apart_157 : decode cX8_apart 157 = .ok (.aload_n 0, 1) := by decide +kernel
theorem dX8_apart_158 : decode cX8_apart 158 = .ok (.iconst 3, 1) := by decide +kernel
theorem dX8_apart_159 : decode cX8_apart 159 = .ok (.invokevirtual 263, 3) := by decide +kernel
theorem dX8_apart_162 : decode cX8_apart 162 = .ok (.i2l, 1) := by decide +kernel
theorem dX8_apart_163 : decode cX8_apart 163 = .ok (.lreturn, 1) := by decide +kernel
theorem dX8_likes_0 : decode cX8_likes 0 = .ok (.aload_n 0, 1) := by decide +kernel
theorem dX8_likes_1 : decode cX8_likes 1 = .ok (.iload_n 1, 1) := by decide +kernel
theorem dX8_likes_2 : decode cX8_likes 2 = .ok (.invokevirtual 315, 3) := by decide +kernel
theorem dX8_likes_5 : decode cX8_likes 5 = .ok (.ifCond .ne 9, 3) := by decide +kernel
theorem dX8_likes_8 : decode cX8_likes 8 = .ok (.aload_n 0, 1) := by decide +kernel
theorem dX8_likes_9 : decode cX8_likes 9 = .ok (.iconst 2, 1) := by decide +kernel
theorem dX8_likes_10 : decode cX8_likes 10 = .ok (.invokevirtual 263, 3) := by decide +kernel
theorem dX8_likes_13 : decode cX8_likes 13 = .ok (.ireturn, 1) := by decide +kernel
theorem dX8_likes_14 : decode cX8_likes 14 = .ok (.aload_n 0, 1) := by decide +kernel
theorem dX8_likes_15 : decode cX8_likes 15 = .ok (.invokevirtual 429, 3) := by decide +kernel
theorem dX8_likes_18 : decode cX8_likes 18 = .ok (.ifCond .eq 9, 3) := by decide +kernel
theorem dX8_likes_21 : decode cX8_likes 21 = .ok (.aload_n 0, 1) := by decide +kernel
theorem dX8_likes_22 : decode cX8_likes 22 = .ok (.iconst 3, 1) := by decide +kernel
theorem dX8_likes_23 : decode cX8_likes 23 = .ok (.invokevirtual 263, 3) := by decide +kernel
theorem dX8_likes_26 : decode cX8_likes 26 = .ok (.ireturn, 1) := by decide +kernel
theorem dX8_likes_27 : decode cX8_likes 27 = .ok (.aload_n 0, 1) := by decide +kernel
theorem dX8_likes_28 : decode cX8_likes 28 = .ok (.invokevirtual 444, 3) := by decide +kernel
theorem dX8_likes_31 : decode cX8_likes 31 = .ok (.iconst (-1), 1) := by decide +kernel
theorem dX8_likes_32 : decode cX8_likes 32 = .ok (.istore_n 2, 1) := by decide +kernel
theorem dX8_likes_33 : decode cX8_likes 33 = .ok (.ldc2_w 452, 3) := by decide +kernel
theorem dX8_likes_36 : decode cX8_likes 36 = .ok (.lstore_n 3, 1) := by decide +kernel
theorem dX8_likes_37 : decode cX8_likes 37 = .ok (.iconst 0, 1) := by decide +kernel
theorem dX8_likes_38 : decode cX8_likes 38 = .ok (.istore 5, 2) := by decide +kernel
theorem dX8_likes_40 : decode cX8_likes 40 = .ok (.iload 5, 2) := by decide +kernel
theorem dX8_likes_42 : decode cX8_likes 42 = .ok (.iconst 3, 1) := by decide +kernel
theorem dX8_likes_43 : decode cX8_likes 43 = .ok (.if_icmp .ge 41, 3) := by decide +kernel
theorem dX8_likes_46 : decode cX8_likes 46 = .ok (.aload_n 0, 1) := by decide +kernel
theorem dX8_likes_47 : decode cX8_likes 47 = .ok (.getfield 7, 3) := by decide +kernel
theorem dX8_likes_50 : decode cX8_likes 50 = .ok (.bipush 67, 2) := by decide +kernel
theorem dX8_likes_52 : decode cX8_likes 52 = .ok (.iload 5, 2) := by decide +kernel
theorem dX8_likes_54 : decode cX8_likes 54 = .ok (.iastore, 1) := by decide +kernel
theorem dX8_likes_55 : decode cX8_likes 55 = .ok (.aload_n 0, 1) := by decide +kernel
theorem dX8_likes_56 : decode cX8_likes 56 = .ok (.invokevirtual 432, 3) := by decide +kernel
theorem dX8_likes_59 : decode cX8_likes 59 = .ok (.aload_n 0, 1) := by decide +kernel
theorem dX8_likes_60 : decode cX8_likes 60 = .ok (.iload_n 1, 1) := by decide +kernel
theorem dX8_likes_61 : decode cX8_likes 61 = .ok (.invokevirtual 435, 3) := by decide +kernel
theorem dX8_likes_64 : decode cX8_likes 64 = .ok (.lload_n 3, 1) := by decide +kernel
theorem dX8_likes_65 : decode cX8_likes 65 = .ok (.lcmp, 1) := by decide +kernel
theorem dX8_likes_66 : decode cX8_likes 66 = .ok (.ifCond .le 12, 3) := by decide +kernel
theorem dX8_likes_69 : decode cX8_likes 69 = .ok (.iload 5, 2) := by decide +kernel
theorem dX8_likes_71 : decode cX8_likes 71 = .ok (.istore_n 2, 1) := by decide +kernel
theorem dX8_likes_72 : decode cX8_likes 72 = .ok (.aload_n 0, 1) := by decide +kernel
theorem dX8_likes_73 : decode cX8_likes 73 = .ok (.iload_n 1, 1) := by decide +kernel
theorem dX8_likes_74 : decode cX8_likes 74 = .ok (.invokevirtual 435, 3) := by decide +kernel
theorem dX8_likes_77 : decode cX8_likes 77 = .ok (.lstore_n 3, 1) := by decide +kernel
theorem dX8_likes_78 : decode cX8_likes 78 = .ok (.iinc 5 1, 3) := by decide +kernel
theorem dX8_likes_81 : decode cX8_likes 81 = .ok (.goto (-41), 3) := by decide +kernel
theorem dX8_likes_84 : decode cX8_likes 84 = .ok (.aload_n 0, 1) := by decide +kernel
theorem dX8_likes_85 : decode cX8_likes 85 = .ok (.invokevirtual 449, 3) := by decide +kernel
theorem dX8_likes_88 : decode cX8_likes 88 = .ok (.aload_n 0, 1) := by decide +kernel
theorem dX8_likes_89 : decode cX8_likes 89 = .ok (.iload_n 2, 1) := by decide +kernel
theorem dX8_likes_90 : decode cX8_likes 90 = .ok (.invokevirtual 272, 3) := by decide +kernel
theorem dX8_likes_93 : decode cX8_likes 93 = .ok (.ireturn, 1) := by decide +kernel
theorem dX8_goesYear_0 : decode cX8_goesYear 0 = .ok (.aload_n 0, 1) := by decide +kernel
theorem dX8_goesYear_1 : decode cX8_goesYear 1 = .ok (.iload_n 1, 1) := by decide +kernel
theorem dX8_goesYear_2 : decode cX8_goesYear 2 = .ok (.invokevirtual 361, 3) := by decide +kernel
theorem dX8_goesYear_5 : decode cX8_goesYear 5 = .ok (.iconst 0, 1) := by decide +kernel
theorem dX8_goesYear_6 : decode cX8_goesYear 6 = .ok (.istore_n 2, 1) := by decide +kernel
theorem dX8_goesYear_7 : decode cX8_goesYear 7 = .ok (.iload_n 2, 1) := by decide +kernel
theorem dX8_goesYear_8 : decode cX8_goesYear 8 = .ok (.aload_n 0, 1) := by decide +kernel
theorem dX8_goesYear_9 : decode cX8_goesYear 9 = .ok (.getfield 132, 3) := by decide +kernel
theorem dX8_goesYear_12 : decode cX8_goesYear 12 = .ok (.if_icmp .ge 20, 3) := by decide +kernel
theorem dX8_goesYear_15 : decode cX8_goesYear 15 = .ok (.aload_n 0, 1) := by decide +kernel
theorem dX8_goesYear_16 : decode cX8_goesYear 16 = .ok (.getfield 106, 3) := by decide +kernel
theorem dX8_goesYear_19 : decode cX8_goesYear 19 = .ok (.iload_n 2, 1) := by decide +kernel
theorem dX8_goesYear_20 : decode cX8_goesYear 20 = .ok (.aload_n 0, 1) := by decide +kernel
theorem dX8_goesYear_21 : decode cX8_goesYear 21 = .ok (.iload_n 2, 1) := by decide +kernel
theorem dX8_goesYear_22 : decode cX8_goesYear 22 = .ok (.invokevirtual 382, 3) := by decide +kernel
theorem dX8_goesYear_25 : decode cX8_goesYear 25 = .ok (.iastore, 1) := by decide +kernel
theorem dX8_goesYear_26 : decode cX8_goesYear 26 = .ok (.iinc 2 1, 3) := by decide +kernel
theorem dX8_goesYear_29 : decode cX8_goesYear 29 = .ok (.goto (-22), 3) := by decide +kernel
theorem dX8_goesYear_32 : decode cX8_goesYear 32 = .ok (.iconst 0, 1) := by decide +kernel
theorem dX8_goesYear_33 : decode cX8_goesYear 33 = .ok (.istore_n 2, 1) := by decide +kernel
theorem dX8_goesYear_34 : decode cX8_goesYear 34 = .ok (.iload_n 2, 1) := by decide +kernel
theorem dX8_goesYear_35 : decode cX8_goesYear 35 = .ok (.aload_n 0, 1) := by decide +kernel
theorem dX8_goesYear_36 : decode cX8_goesYear 36 = .ok (.getfield 132, 3) := by decide +kernel
theorem dX8_goesYear_39 : decode cX8_goesYear 39 = .ok (.if_icmp .ge 23, 3) := by decide +kernel
theorem dX8_goesYear_42 : decode cX8_goesYear 42 = .ok (.aload_n 0, 1) := by decide +kernel
theorem dX8_goesYear_43 : decode cX8_goesYear 43 = .ok (.getfield 7, 3) := by decide +kernel
theorem dX8_goesYear_46 : decode cX8_goesYear 46 = .ok (.iconst 0, 1) := by decide +kernel
theorem dX8_goesYear_47 : decode cX8_goesYear 47 = .ok (.iload_n 2, 1) := by decide +kernel
theorem dX8_goesYear_48 : decode cX8_goesYear 48 = .ok (.iadd, 1) := by decide +kernel
theorem dX8_goesYear_49 : decode cX8_goesYear 49 = .ok (.aload_n 0, 1) := by decide +kernel
theorem dX8_goesYear_50 : decode cX8_goesYear 50 = .ok (.getfield 106, 3) := by decide +kernel
theorem dX8_goesYear_53 : decode cX8_goesYear 53 = .ok (.iload_n 2, 1) := by decide +kernel
theorem dX8_goesYear_54 : decode cX8_goesYear 54 = .ok (.iaload, 1) := by decide +kernel
theorem dX8_goesYear_55 : decode cX8_goesYear 55 = .ok (.iastore, 1) := by decide +kernel
theorem dX8_goesYear_56 : decode cX8_goesYear 56 = .ok (.iinc 2 1, 3) := by decide +kernel
theorem dX8_goesYear_59 : decode cX8_goesYear 59 = .ok (.goto (-25), 3) := by decide +kernel
theorem dX8_goesYear_62 : decode cX8_goesYear 62 = .ok (.return_, 1) := by decide +kernel
theorem dX8_unitNow_0 : decode cX8_unitNow 0 = .ok (.iconst 0, 1) := by decide +kernel
theorem dX8_unitNow_1 : decode cX8_unitNow 1 = .ok (.istore_n 2, 1) := by decide +kernel
theorem dX8_unitNow_2 : decode cX8_unitNow 2 = .ok (.aload_n 0, 1) := by decide +kernel
theorem dX8_unitNow_3 : decode cX8_unitNow 3 = .ok (.getfield 49, 3) := by decide +kernel
theorem dX8_unitNow_6 : decode cX8_unitNow 6 = .ok (.iload_n 2, 1) := by decide +kernel
theorem dX8_unitNow_7 : decode cX8_unitNow 7 = .ok (.iaload, 1) := by decide +kernel
theorem dX8_unitNow_8 : decode cX8_unitNow 8 = .ok (.iload_n 1, 1) := by decide +kernel
theorem dX8_unitNow_9 : decode cX8_unitNow 9 = .ok (.invokestatic 240, 3) := by decide +kernel
theorem dX8_unitNow_12 : decode cX8_unitNow 12 = .ok (.ifCond .ne 9, 3) := by decide +kernel
theorem dX8_unitNow_15 : decode cX8_unitNow 15 = .ok (.iinc 2 1, 3) := by decide +kernel
theorem dX8_unitNow_18 : decode cX8_unitNow 18 = .ok (.goto (-16), 3) := by decide +kernel
theorem dX8_unitNow_21 : decode cX8_unitNow 21 = .ok (.aload_n 0, 1) := by decide +kernel
theorem dX8_unitNow_22 : decode cX8_unitNow 22 = .ok (.getfield 73, 3) := by decide +kernel
theorem dX8_unitNow_25 : decode cX8_unitNow 25 = .ok (.iload_n 2, 1) := by decide +kernel
theorem dX8_unitNow_26 : decode cX8_unitNow 26 = .ok (.iaload, 1) := by decide +kernel
theorem dX8_unitNow_27 : decode cX8_unitNow 27 = .ok (.ireturn, 1) := by decide +kernel
theorem dX8_areYears_0 : decode cX8_areYears 0 = .ok (.iload_n 0, 1) := by decide +kernel
theorem dX8_areYears_1 : decode cX8_areYears 1 = .ok (.invokestatic 358, 3) := by decide +kernel
theorem dX8_areYears_4 : decode cX8_areYears 4 = .ok (.ifCond .eq 34, 3) := by decide +kernel
theorem dX8_areYears_7 : decode cX8_areYears 7 = .ok (.iload_n 1, 1) := by decide +kernel
theorem dX8_areYears_8 : decode cX8_areYears 8 = .ok (.i2l, 1) := by decide +kernel
theorem dX8_areYears_9 : decode cX8_areYears 9 = .ok (.lconst 1, 1) := by decide +kernel
theorem dX8_areYears_10 : decode cX8_areYears 10 = .ok (.ldc2_w 469, 3) := by decide +kernel
theorem dX8_areYears_13 : decode cX8_areYears 13 = .ok (.invokestatic 128, 3) := by decide +kernel
theorem dX8_areYears_16 : decode cX8_areYears 16 = .ok (.ifCond .eq 22, 3) := by decide +kernel
theorem dX8_areYears_19 : decode cX8_areYears 19 = .ok (.iload_n 0, 1) := by decide +kernel
theorem dX8_areYears_20 : decode cX8_areYears 20 = .ok (.i2l, 1) := by decide +kernel
theorem dX8_areYears_21 : decode cX8_areYears 21 = .ok (.iload_n 1, 1) := by decide +kernel
theorem dX8_areYears_22 : decode cX8_areYears 22 = .ok (.i2l, 1) := by decide +kernel
theorem dX8_areYears_23 : decode cX8_areYears 23 = .ok (.ladd, 1) := by decide +kernel
theorem dX8_areYears_24 : decode cX8_areYears 24 = .ok (.lconst 0, 1) := by decide +kernel
theorem dX8_areYears_25 : decode cX8_areYears 25 = .ok (.ldc2_w 135, 3) := by decide +kernel
theorem dX8_areYears_28 : decode cX8_areYears 28 = .ok (.invokestatic 128, 3) := by decide +kernel
theorem dX8_areYears_31 : decode cX8_areYears 31 = .ok (.ifCond .eq 7, 3) := by decide +kernel
theorem dX8_areYears_34 : decode cX8_areYears 34 = .ok (.iconst 1, 1) := by decide +kernel
theorem dX8_areYears_35 : decode cX8_areYears 35 = .ok (.goto 4, 3) := by decide +kernel
theorem dX8_areYears_38 : decode cX8_areYears 38 = .ok (.iconst 0, 1) := by decide +kernel
theorem dX8_areYears_39 : decode cX8_areYears 39 = .ok (.ireturn, 1) := by decide +kernel
theorem dX8_years_0 : decode cX8_years 0 = .ok (.iload_n 1, 1) := by decide +kernel
theorem dX8_years_1 : decode cX8_years 1 = .ok (.iload_n 2, 1) := by decide +kernel
theorem dX8_years_2 : decode cX8_years 2 = .ok (.invokestatic 471, 3) := by decide +kernel
theorem dX8_years_5 : decode cX8_years 5 = .ok (.ifCond .eq 15, 3) := by decide +kernel
theorem dX8_years_8 : decode cX8_years 8 = .ok (.iload_n 3, 1) := by decide +kernel
theorem dX8_years_9 : decode cX8_years 9 = .ok (.i2l, 1) := by decide +kernel
theorem dX8_years_10 : decode cX8_years 10 = .ok (.lconst 0, 1) := by decide +kernel
theorem dX8_years_11 : decode cX8_years 11 = .ok (.ldc2_w 427, 3) := by decide +kernel
theorem dX8_years_14 : decode cX8_years 14 = .ok (.invokestatic 128, 3) := by decide +kernel
theorem dX8_years_17 : decode cX8_years 17 = .ok (.ifCond .ne 9, 3) := by decide +kernel
theorem dX8_years_20 : decode cX8_years 20 = .ok (.aload_n 0, 1) := by decide +kernel
theorem dX8_years_21 : decode cX8_years 21 = .ok (.iconst 1, 1) := by decide +kernel
theorem dX8_years_22 : decode cX8_years 22 = .ok (.invokevirtual 263, 3) := by decide +kernel
theorem dX8_years_25 : decode cX8_years 25 = .ok (.ireturn, 1) := by decide +kernel
theorem dX8_years_26 : decode cX8_years 26 = .ok (.aload_n 0, 1) := by decide +kernel
theorem dX8_years_27 : decode cX8_years 27 = .ok (.invokevirtual 444, 3) := by decide +kernel
theorem dX8_years_30 : decode cX8_years 30 = .ok (.iconst 0, 1) := by decide +kernel
theorem dX8_years_31 : decode cX8_years 31 = .ok (.istore 4, 2) := by decide +kernel
theorem dX8_years_33 : decode cX8_years 33 = .ok (.iconst 1, 1) := by decide +kernel
theorem dX8_years_34 : decode cX8_years 34 = .ok (.aload_n 0, 1) := by decide +kernel
theorem dX8_years_35 : decode cX8_years 35 = .ok (.getfield 132, 3) := by decide +kernel
theorem dX8_years_38 : decode cX8_years 38 = .ok (.ishl, 1) := by decide +kernel
theorem dX8_years_39 : decode cX8_years 39 = .ok (.iconst 1, 1) := by decide +kernel
theorem dX8_years_40 : decode cX8_years 40 = .ok (.isub, 1) := by decide +kernel
