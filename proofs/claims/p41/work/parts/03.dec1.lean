theorem dX5_secondRound_46 : decode cX5_secondRound 46 = .ok (.istore 5, 2) := by decide +kernel
theorem dX5_secondRound_48 : decode cX5_secondRound 48 = .ok (.iload 5, 2) := by decide +kernel
theorem dX5_secondRound_50 : decode cX5_secondRound 50 = .ok (.iload 4, 2) := by decide +kernel
theorem dX5_secondRound_52 : decode cX5_secondRound 52 = .ok (.if_icmp .ge 56, 3) := by decide +kernel
theorem dX5_secondRound_55 : decode cX5_secondRound 55 = .ok (.aload_n 1, 1) := by decide +kernel
theorem dX5_secondRound_56 : decode cX5_secondRound 56 = .ok (.iload_n 3, 1) := by decide +kernel
theorem dX5_secondRound_57 : decode cX5_secondRound 57 = .ok (.iload 5, 2) := by decide +kernel
theorem dX5_secondRound_59 : decode cX5_secondRound 59 = .ok (.invokevirtual 98, 3) := by decide +kernel
theorem dX5_secondRound_62 : decode cX5_secondRound 62 = .ok (.istore 6, 2) := by decide +kernel
theorem dX5_secondRound_64 : decode cX5_secondRound 64 = .ok (.aload_n 1, 1) := by decide +kernel
theorem dX5_secondRound_65 : decode cX5_secondRound 65 = .ok (.iload_n 3, 1) := by decide +kernel
theorem dX5_secondRound_66 : decode cX5_secondRound 66 = .ok (.aload_n 0, 1) := by decide +kernel
theorem dX5_secondRound_67 : decode cX5_secondRound 67 = .ok (.getfield 21, 3) := by decide +kernel
theorem dX5_secondRound_70 : decode cX5_secondRound 70 = .ok (.iload 6, 2) := by decide +kernel
theorem dX5_secondRound_72 : decode cX5_secondRound 72 = .ok (.invokestatic 69, 3) := by decide +kernel
theorem dX5_secondRound_75 : decode cX5_secondRound 75 = .ok (.aload_n 0, 1) := by decide +kernel
theorem dX5_secondRound_76 : decode cX5_secondRound 76 = .ok (.getfield 24, 3) := by decide +kernel
theorem dX5_secondRound_79 : decode cX5_secondRound 79 = .ok (.iload 6, 2) := by decide +kernel
theorem dX5_secondRound_81 : decode cX5_secondRound 81 = .ok (.invokestatic 69, 3) := by decide +kernel
theorem dX5_secondRound_84 : decode cX5_secondRound 84 = .ok (.invokevirtual 102, 3) := by decide +kernel
theorem dX5_secondRound_87 : decode cX5_secondRound 87 = .ok (.ifCond .eq 15, 3) := by decide +kernel
theorem dX5_secondRound_90 : decode cX5_secondRound 90 = .ok (.aload_n 0, 1) := by decide +kernel
theorem dX5_secondRound_91 : decode cX5_secondRound 91 = .ok (.aload_n 1, 1) := by decide +kernel
theorem dX5_secondRound_92 : decode cX5_secondRound 92 = .ok (.iload_n 3, 1) := by decide +kernel
theorem dX5_secondRound_93 : decode cX5_secondRound 93 = .ok (.iload 6, 2) := by decide +kernel
theorem dX5_secondRound_95 : decode cX5_secondRound 95 = .ok (.iconst 2, 1) := by decide +kernel
theorem dX5_secondRound_96 : decode cX5_secondRound 96 = .ok (.invokevirtual 112, 3) := by decide +kernel
theorem dX5_secondRound_99 : decode cX5_secondRound 99 = .ok (.goto 9, 3) := by decide +kernel
theorem dX5_secondRound_102 : decode cX5_secondRound 102 = .ok (.iinc 5 1, 3) := by decide +kernel
theorem dX5_secondRound_105 : decode cX5_secondRound 105 = .ok (.goto (-57), 3) := by decide +kernel
theorem dX5_secondRound_108 : decode cX5_secondRound 108 = .ok (.iinc 2 1, 3) := by decide +kernel
theorem dX5_secondRound_111 : decode cX5_secondRound 111 = .ok (.goto (-109), 3) := by decide +kernel
theorem dX5_secondRound_114 : decode cX5_secondRound 114 = .ok (.return_, 1) := by decide +kernel
theorem dX5_hold_0 : decode cX5_hold 0 = .ok (.aload_n 0, 1) := by decide +kernel
theorem dX5_hold_1 : decode cX5_hold 1 = .ok (.getfield 15, 3) := by decide +kernel
theorem dX5_hold_4 : decode cX5_hold 4 = .ok (.iload_n 2, 1) := by decide +kernel
theorem dX5_hold_5 : decode cX5_hold 5 = .ok (.iload_n 3, 1) := by decide +kernel
theorem dX5_hold_6 : decode cX5_hold 6 = .ok (.invokestatic 62, 3) := by decide +kernel
theorem dX5_hold_9 : decode cX5_hold 9 = .ok (.aload_n 0, 1) := by decide +kernel
theorem dX5_hold_10 : decode cX5_hold 10 = .ok (.getfield 18, 3) := by decide +kernel
theorem dX5_hold_13 : decode cX5_hold 13 = .ok (.iload_n 2, 1) := by decide +kernel
theorem dX5_hold_14 : decode cX5_hold 14 = .ok (.iload 4, 2) := by decide +kernel
theorem dX5_hold_16 : decode cX5_hold 16 = .ok (.invokestatic 62, 3) := by decide +kernel
theorem dX5_hold_19 : decode cX5_hold 19 = .ok (.aload_n 0, 1) := by decide +kernel
theorem dX5_hold_20 : decode cX5_hold 20 = .ok (.getfield 21, 3) := by decide +kernel
theorem dX5_hold_23 : decode cX5_hold 23 = .ok (.iload_n 3, 1) := by decide +kernel
theorem dX5_hold_24 : decode cX5_hold 24 = .ok (.aload_n 1, 1) := by decide +kernel
theorem dX5_hold_25 : decode cX5_hold 25 = .ok (.getfield 106, 3) := by decide +kernel
theorem dX5_hold_28 : decode cX5_hold 28 = .ok (.iload_n 2, 1) := by decide +kernel
theorem dX5_hold_29 : decode cX5_hold 29 = .ok (.invokestatic 69, 3) := by decide +kernel
theorem dX5_hold_32 : decode cX5_hold 32 = .ok (.ineg, 1) := by decide +kernel
theorem dX5_hold_33 : decode cX5_hold 33 = .ok (.invokestatic 109, 3) := by decide +kernel
theorem dX5_hold_36 : decode cX5_hold 36 = .ok (.aload_n 0, 1) := by decide +kernel
theorem dX5_hold_37 : decode cX5_hold 37 = .ok (.getfield 24, 3) := by decide +kernel
theorem dX5_hold_40 : decode cX5_hold 40 = .ok (.iload_n 3, 1) := by decide +kernel
theorem dX5_hold_41 : decode cX5_hold 41 = .ok (.aload_n 1, 1) := by decide +kernel
theorem dX5_hold_42 : decode cX5_hold 42 = .ok (.getfield 122, 3) := by decide +kernel
theorem dX5_hold_45 : decode cX5_hold 45 = .ok (.iload_n 2, 1) := by decide +kernel
theorem dX5_hold_46 : decode cX5_hold 46 = .ok (.invokestatic 69, 3) := by decide +kernel
theorem dX5_hold_49 : decode cX5_hold 49 = .ok (.ineg, 1) := by decide +kernel
theorem dX5_hold_50 : decode cX5_hold 50 = .ok (.invokestatic 109, 3) := by decide +kernel
theorem dX5_hold_53 : decode cX5_hold 53 = .ok (.return_, 1) := by decide +kernel
theorem dX5_hasFirst_0 : decode cX5_hasFirst 0 = .ok (.aload_n 0, 1) := by decide +kernel
theorem dX5_hasFirst_1 : decode cX5_hasFirst 1 = .ok (.getfield 15, 3) := by decide +kernel
theorem dX5_hasFirst_4 : decode cX5_hasFirst 4 = .ok (.iload_n 2, 1) := by decide +kernel
theorem dX5_hasFirst_5 : decode cX5_hasFirst 5 = .ok (.invokestatic 69, 3) := by decide +kernel
theorem dX5_hasFirst_8 : decode cX5_hasFirst 8 = .ok (.iconst (-1), 1) := by decide +kernel
theorem dX5_hasFirst_9 : decode cX5_hasFirst 9 = .ok (.if_icmp .eq 24, 3) := by decide +kernel
theorem dX5_hasFirst_12 : decode cX5_hasFirst 12 = .ok (.aload_n 0, 1) := by decide +kernel
theorem dX5_hasFirst_13 : decode cX5_hasFirst 13 = .ok (.getfield 15, 3) := by decide +kernel
theorem dX5_hasFirst_16 : decode cX5_hasFirst 16 = .ok (.iload_n 2, 1) := by decide +kernel
theorem dX5_hasFirst_17 : decode cX5_hasFirst 17 = .ok (.invokestatic 69, 3) := by decide +kernel
theorem dX5_hasFirst_20 : decode cX5_hasFirst 20 = .ok (.aload_n 1, 1) := by decide +kernel
theorem dX5_hasFirst_21 : decode cX5_hasFirst 21 = .ok (.iload_n 2, 1) := by decide +kernel
theorem dX5_hasFirst_22 : decode cX5_hasFirst 22 = .ok (.iconst 0, 1) := by decide +kernel
theorem dX5_hasFirst_23 : decode cX5_hasFirst 23 = .ok (.invokevirtual 98, 3) := by decide +kernel
theorem dX5_hasFirst_26 : decode cX5_hasFirst 26 = .ok (.if_icmp .ne 7, 3) := by decide +kernel
theorem dX5_hasFirst_29 : decode cX5_hasFirst 29 = .ok (.iconst 1, 1) := by decide +kernel
theorem dX5_hasFirst_30 : decode cX5_hasFirst 30 = .ok (.goto 4, 3) := by decide +kernel
theorem dX5_hasFirst_33 : decode cX5_hasFirst 33 = .ok (.iconst 0, 1) := by decide +kernel
theorem dX5_hasFirst_34 : decode cX5_hasFirst 34 = .ok (.ireturn, 1) := by decide +kernel
theorem dX5_rankHeld_0 : decode cX5_rankHeld 0 = .ok (.aload_n 1, 1) := by decide +kernel
theorem dX5_rankHeld_1 : decode cX5_rankHeld 1 = .ok (.iload_n 2, 1) := by decide +kernel
theorem dX5_rankHeld_2 : decode cX5_rankHeld 2 = .ok (.aload_n 0, 1) := by decide +kernel
theorem dX5_rankHeld_3 : decode cX5_rankHeld 3 = .ok (.getfield 15, 3) := by decide +kernel
theorem dX5_rankHeld_6 : decode cX5_rankHeld 6 = .ok (.iload_n 2, 1) := by decide +kernel
theorem dX5_rankHeld_7 : decode cX5_rankHeld 7 = .ok (.invokestatic 69, 3) := by decide +kernel
theorem dX5_rankHeld_10 : decode cX5_rankHeld 10 = .ok (.invokevirtual 125, 3) := by decide +kernel
theorem dX5_rankHeld_13 : decode cX5_rankHeld 13 = .ok (.istore_n 3, 1) := by decide +kernel
theorem dX5_rankHeld_14 : decode cX5_rankHeld 14 = .ok (.iload_n 3, 1) := by decide +kernel
theorem dX5_rankHeld_15 : decode cX5_rankHeld 15 = .ok (.iconst (-1), 1) := by decide +kernel
theorem dX5_rankHeld_16 : decode cX5_rankHeld 16 = .ok (.if_icmp .ne 7, 3) := by decide +kernel
theorem dX5_rankHeld_19 : decode cX5_rankHeld 19 = .ok (.iconst 3, 1) := by decide +kernel
theorem dX5_rankHeld_20 : decode cX5_rankHeld 20 = .ok (.goto 4, 3) := by decide +kernel
theorem dX5_rankHeld_23 : decode cX5_rankHeld 23 = .ok (.iload_n 3, 1) := by decide +kernel
theorem dX5_rankHeld_24 : decode cX5_rankHeld 24 = .ok (.ireturn, 1) := by decide +kernel
theorem dX5_isWaiting_0 : decode cX5_isWaiting 0 = .ok (.aload_n 0, 1) := by decide +kernel
theorem dX5_isWaiting_1 : decode cX5_isWaiting 1 = .ok (.getfield 15, 3) := by decide +kernel
theorem dX5_isWaiting_4 : decode cX5_isWaiting 4 = .ok (.iload_n 2, 1) := by decide +kernel
theorem dX5_isWaiting_5 : decode cX5_isWaiting 5 = .ok (.invokestatic 69, 3) := by decide +kernel
theorem dX5_isWaiting_8 : decode cX5_isWaiting 8 = .ok (.iconst (-1), 1) := by decide +kernel
theorem dX5_isWaiting_9 : decode cX5_isWaiting 9 = .ok (.if_icmp .ne 17, 3) := by decide +kernel
theorem dX5_isWaiting_12 : decode cX5_isWaiting 12 = .ok (.aload_n 1, 1) := by decide +kernel
theorem dX5_isWaiting_13 : decode cX5_isWaiting 13 = .ok (.iload_n 2, 1) := by decide +kernel
theorem dX5_isWaiting_14 : decode cX5_isWaiting 14 = .ok (.iload_n 3, 1) := by decide +kernel
theorem dX5_isWaiting_15 : decode cX5_isWaiting 15 = .ok (.invokevirtual 125, 3) := by decide +kernel
theorem dX5_isWaiting_18 : decode cX5_isWaiting 18 = .ok (.iconst (-1), 1) := by decide +kernel
theorem dX5_isWaiting_19 : decode cX5_isWaiting 19 = .ok (.if_icmp .eq 7, 3) := by decide +kernel
theorem dX5_isWaiting_22 : decode cX5_isWaiting 22 = .ok (.iconst 1, 1) := by decide +kernel
theorem dX5_isWaiting_23 : decode cX5_isWaiting 23 = .ok (.goto 4, 3) := by decide +kernel
theorem dX5_isWaiting_26 : decode cX5_isWaiting 26 = .ok (.iconst 0, 1) := by decide +kernel
theorem dX5_isWaiting_27 : decode cX5_isWaiting 27 = .ok (.ireturn, 1) := by decide +kernel
theorem dX5_holders_0 : decode cX5_holders 0 = .ok (.iconst 0, 1) := by decide +kernel
theorem dX5_holders_1 : decode cX5_holders 1 = .ok (.istore_n 3, 1) := by decide +kernel
theorem dX5_holders_2 : decode cX5_holders 2 = .ok (.iconst 0, 1) := by decide +kernel
theorem dX5_holders_3 : decode cX5_holders 3 = .ok (.istore 4, 2) := by decide +kernel
theorem dX5_holders_5 : decode cX5_holders 5 = .ok (.iload 4, 2) := by decide +kernel
theorem dX5_holders_7 : decode cX5_holders 7 = .ok (.aload_n 1, 1) := by decide +kernel
theorem dX5_holders_8 : decode cX5_holders 8 = .ok (.getfield 47, 3) := by decide +kernel
theorem dX5_holders_11 : decode cX5_holders 11 = .ok (.if_icmp .ge 30, 3) := by decide +kernel
theorem dX5_holders_14 : decode cX5_holders 14 = .ok (.iload_n 3, 1) := by decide +kernel
theorem dX5_holders_15 : decode cX5_holders 15 = .ok (.aload_n 0, 1) := by decide +kernel
theorem dX5_holders_16 : decode cX5_holders 16 = .ok (.getfield 15, 3) := by decide +kernel
theorem dX5_holders_19 : decode cX5_holders 19 = .ok (.iload 4, 2) := by decide +kernel
theorem dX5_holders_21 : decode cX5_holders 21 = .ok (.invokestatic 69, 3) := by decide +kernel
theorem dX5_holders_24 : decode cX5_holders 24 = .ok (.iload_n 2, 1) := by decide +kernel
theorem dX5_holders_25 : decode cX5_holders 25 = .ok (.if_icmp .ne 7, 3) := by decide +kernel
theorem dX5_holders_28 : decode cX5_holders 28 = .ok (.iconst 1, 1) := by decide +kernel
theorem dX5_holders_29 : decode cX5_holders 29 = .ok (.goto 4, 3) := by decide +kernel
theorem dX5_holders_32 : decode cX5_holders 32 = .ok (.iconst 0, 1) := by decide +kernel
theorem dX5_holders_33 : decode cX5_holders 33 = .ok (.iadd, 1) := by decide +kernel
theorem dX5_holders_34 : decode cX5_holders 34 = .ok (.istore_n 3, 1) := by decide +kernel
theorem dX5_holders_35 : decode cX5_holders 35 = .ok (.iinc 4 1, 3) := by decide +kernel
theorem dX5_holders_38 : decode cX5_holders 38 = .ok (.goto (-33), 3) := by decide +kernel
theorem dX5_holders_41 : decode cX5_holders 41 = .ok (.iload_n 3, 1) := by decide +kernel
theorem dX5_holders_42 : decode cX5_holders 42 = .ok (.ireturn, 1) := by decide +kernel
theorem dX5_fewestPoints_0 : decode cX5_fewestPoints 0 = .ok (.iconst (-1), 1) := by decide +kernel
theorem dX5_fewestPoints_1 : decode cX5_fewestPoints 1 = .ok (.istore_n 3, 1) := by decide +kernel
theorem dX5_fewestPoints_2 : decode cX5_fewestPoints 2 = .ok (.iconst 0, 1) := by decide +kernel
theorem dX5_fewestPoints_3 : decode cX5_fewestPoints 3 = .ok (.istore 4, 2) := by decide +kernel
theorem dX5_fewestPoints_5 : decode cX5_fewestPoints 5 = .ok (.iload 4, 2) := by decide +kernel
theorem dX5_fewestPoints_7 : decode cX5_fewestPoints 7 = .ok (.aload_n 1, 1) := by decide +kernel
theorem dX5_fewestPoints_8 : decode cX5_fewestPoints 8 = .ok (.getfield 47, 3) := by decide +kernel
theorem dX5_fewestPoints_11 : decode cX5_fewestPoints 11 = .ok (.if_icmp .ge 50, 3) := by decide +kernel
theorem dX5_fewestPoints_14 : decode cX5_fewestPoints 14 = .ok (.aload_n 0, 1) := by decide +kernel
theorem dX5_fewestPoints_15 : decode cX5_fewestPoints 15 = .ok (.getfield 15, 3) := by decide +kernel
theorem dX5_fewestPoints_18 : decode cX5_fewestPoints 18 = .ok (.iload 4, 2) := by decide +kernel
theorem dX5_fewestPoints_20 : decode cX5_fewestPoints 20 = .ok (.invokestatic 69, 3) := by decide +kernel
theorem dX5_fewestPoints_23 : decode cX5_fewestPoints 23 = .ok (.iload_n 2, 1) := by decide +kernel
theorem dX5_fewestPoints_24 : decode cX5_fewestPoints 24 = .ok (.if_icmp .ne 31, 3) := by decide +kernel
theorem dX5_fewestPoints_27 : decode cX5_fewestPoints 27 = .ok (.iload_n 3, 1) := by decide +kernel
theorem dX5_fewestPoints_28 : decode cX5_fewestPoints 28 = .ok (.iconst (-1), 1) := by decide +kernel
theorem dX5_fewestPoints_29 : decode cX5_fewestPoints 29 = .ok (.if_icmp .eq 16, 3) := by decide +kernel
theorem dX5_fewestPoints_32 : decode cX5_fewestPoints 32 = .ok (.aload_n 1, 1) := by decide +kernel
theorem dX5_fewestPoints_33 : decode cX5_fewestPoints 33 = .ok (.getfield 116, 3) := by decide +kernel
theorem dX5_fewestPoints_36 : decode cX5_fewestPoints 36 = .ok (.iload 4, 2) := by decide +kernel
theorem dX5_fewestPoints_38 : decode cX5_fewestPoints 38 = .ok (.invokestatic 69, 3) := by decide +kernel
theorem dX5_fewestPoints_41 : decode cX5_fewestPoints 41 = .ok (.iload_n 3, 1) := by decide +kernel
theorem dX5_fewestPoints_42 : decode cX5_fewestPoints 42 = .ok (.if_icmp .ge 13, 3) := by decide +kernel
theorem dX5_fewestPoints_45 : decode cX5_fewestPoints 45 = .ok (.aload_n 1, 1) := by decide +kernel
theorem dX5_fewestPoints_46 : decode cX5_fewestPoints 46 = .ok (.getfield 116, 3) := by decide +kernel
theorem dX5_fewestPoints_49 : decode cX5_fewestPoints 49 = .ok (.iload 4, 2) := by decide +kernel
theorem dX5_fewestPoints_51 : decode cX5_fewestPoints 51 = .ok (.invokestatic 69, 3) := by decide +kernel
theorem dX5_fewestPoints_54 : decode cX5_fewestPoints 54 = .ok (.istore_n 3, 1) := by decide +kernel
theorem dX5_fewestPoints_55 : decode cX5_fewestPoints 55 = .ok (.iinc 4 1, 3) := by decide +kernel
theorem dX5_fewestPoints_58 : decode cX5_fewestPoints 58 = .ok (.goto (-53), 3) := by decide +kernel
theorem dX5_fewestPoints_61 : decode cX5_fewestPoints 61 = .ok (.iload_n 3, 1) := by decide +kernel
theorem dX5_fewestPoints_62 : decode cX5_fewestPoints 62 = .ok (.ireturn, 1) := by decide +kernel
theorem dX5_tagsGiven_0 : decode cX5_tagsGiven 0 = .ok (.iconst 0, 1) := by decide +kernel
theorem dX5_tagsGiven_1 : decode cX5_tagsGiven 1 = .ok (.istore_n 2, 1) := by decide +kernel
theorem dX5_tagsGiven_2 : decode cX5_tagsGiven 2 = .ok (.iconst 0, 1) := by decide +kernel
theorem dX5_tagsGiven_3 : decode cX5_tagsGiven 3 = .ok (.istore_n 3, 1) := by decide +kernel
theorem dX5_tagsGiven_4 : decode cX5_tagsGiven 4 = .ok (.iload_n 3, 1) := by decide +kernel
theorem dX5_tagsGiven_5 : decode cX5_tagsGiven 5 = .ok (.aload_n 1, 1) := by decide +kernel
theorem dX5_tagsGiven_6 : decode cX5_tagsGiven 6 = .ok (.getfield 47, 3) := by decide +kernel
theorem dX5_tagsGiven_9 : decode cX5_tagsGiven 9 = .ok (.if_icmp .ge 36, 3) := by decide +kernel
theorem dX5_tagsGiven_12 : decode cX5_tagsGiven 12 = .ok (.iload_n 2, 1) := by decide +kernel
theorem dX5_tagsGiven_13 : decode cX5_tagsGiven 13 = .ok (.aload_n 0, 1) := by decide +kernel
theorem dX5_tagsGiven_14 : decode cX5_tagsGiven 14 = .ok (.getfield 15, 3) := by decide +kernel
theorem dX5_tagsGiven_17 : decode cX5_tagsGiven 17 = .ok (.iload_n 3, 1) := by decide +kernel
theorem dX5_tagsGiven_18 : decode cX5_tagsGiven 18 = .ok (.invokestatic 69, 3) := by decide +kernel
theorem dX5_tagsGiven_21 : decode cX5_tagsGiven 21 = .ok (.iconst (-1), 1) := by decide +kernel
theorem dX5_tagsGiven_22 : decode cX5_tagsGiven 22 = .ok (.if_icmp .ne 7, 3) := by decide +kernel
theorem dX5_tagsGiven_25 : decode cX5_tagsGiven 25 = .ok (.iconst 0, 1) := by decide +kernel
theorem dX5_tagsGiven_26 : decode cX5_tagsGiven 26 = .ok (.goto 11, 3) := by decide +kernel
theorem dX5_tagsGiven_29 : decode cX5_tagsGiven 29 = .ok (.aload_n 1, 1) := by decide +kernel
theorem dX5_tagsGiven_30 : decode cX5_tagsGiven 30 = .ok (.getfield 106, 3) := by decide +kernel
theorem dX5_tagsGiven_33 : decode cX5_tagsGiven 33 = .ok (.iload_n 3, 1) := by decide +kernel
theorem dX5_tagsGiven_34 : decode cX5_tagsGiven 34 = .ok (.invokestatic 69, 3) := by decide +kernel
theorem dX5_tagsGiven_37 : decode cX5_tagsGiven 37 = .ok (.iadd, 1) := by decide +kernel
theorem dX5_tagsGiven_38 : decode cX5_tagsGiven 38 = .ok (.istore_n 2, 1) := by decide +kernel
theorem dX5_tagsGiven_39 : decode cX5_tagsGiven 39 = .ok (.iinc 3 1, 3) := by decide +kernel
theorem dX5_tagsGiven_42 : decode cX5_tagsGiven 42 = .ok (.goto (-38), 3) := by decide +kernel
theorem dX5_tagsGiven_45 : decode cX5_tagsGiven 45 = .ok (.iload_n 2, 1) := by decide +kernel
theorem dX5_tagsGiven_46 : decode cX5_tagsGiven 46 = .ok (.ireturn, 1) := by decide +kernel
theorem dX5_scoreBehind_0 : decode cX5_scoreBehind 0 = .ok (.aload_n 1, 1) := by decide +kernel
theorem dX5_scoreBehind_1 : decode cX5_scoreBehind 1 = .ok (.getfield 119, 3) := by decide +kernel
theorem dX5_scoreBehind_4 : decode cX5_scoreBehind 4 = .ok (.iload_n 2, 1) := by decide +kernel
theorem dX5_scoreBehind_5 : decode cX5_scoreBehind 5 = .ok (.invokestatic 69, 3) := by decide +kernel
theorem dX5_scoreBehind_8 : decode cX5_scoreBehind 8 = .ok (.ifCond .ne 5, 3) := by decide +kernel
theorem dX5_scoreBehind_11 : decode cX5_scoreBehind 11 = .ok (.iload_n 3, 1) := by decide +kernel
theorem dX5_scoreBehind_12 : decode cX5_scoreBehind 12 = .ok (.ireturn, 1) := by decide +kernel
theorem dX5_scoreBehind_13 : decode cX5_scoreBehind 13 = .ok (.aload_n 0, 1) := by decide +kernel
theorem dX5_scoreBehind_14 : decode cX5_scoreBehind 14 = .ok (.getfield 15, 3) := by decide +kernel
theorem dX5_scoreBehind_17 : decode cX5_scoreBehind 17 = .ok (.iload_n 2, 1) := by decide +kernel
theorem dX5_scoreBehind_18 : decode cX5_scoreBehind 18 = .ok (.invokestatic 69, 3) := by decide +kernel
theorem dX5_scoreBehind_21 : decode cX5_scoreBehind 21 = .ok (.iconst (-1), 1) := by decide +kernel
theorem dX5_scoreBehind_22 : decode cX5_scoreBehind 22 = .ok (.if_icmp .ne 12, 3) := by decide +kernel
theorem dX5_scoreBehind_25 : decode cX5_scoreBehind 25 = .ok (.iload_n 3, 1) := by decide +kernel
theorem dX5_scoreBehind_26 : decode cX5_scoreBehind 26 = .ok (.iconst 1, 1) := by decide +kernel
theorem dX5_scoreBehind_27 : decode cX5_scoreBehind 27 = .ok (.iadd, 1) := by decide +kernel
theorem dX5_scoreBehind_28 : decode cX5_scoreBehind 28 = .ok (.bipush 20, 2) := by decide +kernel
theorem dX5_scoreBehind_30 : decode cX5_scoreBehind 30 = .ok (.invokestatic 128, 3) := by decide +kernel
theorem dX5_scoreBehind_33 : decode cX5_scoreBehind 33 = .ok (.ireturn, 1) := by decide +kernel
theorem dX5_scoreBehind_34 : decode cX5_scoreBehind 34 = .ok (.aload_n 0, 1) := by decide +kernel
theorem dX5_scoreBehind_35 : decode cX5_scoreBehind 35 = .ok (.aload_n 1, 1) := by decide +kernel
theorem dX5_scoreBehind_36 : decode cX5_scoreBehind 36 = .ok (.iload_n 2, 1) := by decide +kernel
theorem dX5_scoreBehind_37 : decode cX5_scoreBehind 37 = .ok (.invokevirtual 133, 3) := by decide +kernel
theorem dX5_scoreBehind_40 : decode cX5_scoreBehind 40 = .ok (.ifCond .eq 7, 3) := by decide +kernel
theorem dX5_scoreBehind_43 : decode cX5_scoreBehind 43 = .ok (.iconst 0, 1) := by decide +kernel
theorem dX5_scoreBehind_44 : decode cX5_scoreBehind 44 = .ok (.goto 4, 3) := by decide +kernel
theorem dX5_scoreBehind_47 : decode cX5_scoreBehind 47 = .ok (.iload_n 3, 1) := by decide +kernel
theorem dX5_scoreBehind_48 : decode cX5_scoreBehind 48 = .ok (.ireturn, 1) := by decide +kernel
theorem dX6_init_0 : decode cX6_init 0 = .ok (.aload_n 0, 1) := by decide +kernel
theorem dX6_init_1 : decode cX6_init 1 = .ok (.invokespecial 3, 3) := by decide +kernel
theorem dX6_init_4 : decode cX6_init 4 = .ok (.aload_n 0, 1) := by decide +kernel
theorem dX6_init_5 : decode cX6_init 5 = .ok (.bipush 10, 2) := by decide +kernel
theorem dX6_init_7 : decode cX6_init 7 = .ok (.newarray .int, 2) := by decide +kernel
theorem dX6_init_9 : decode cX6_init 9 = .ok (.putfield 9, 3) := by decide +kernel
theorem dX6_init_12 : decode cX6_init 12 = .ok (.aload_n 0, 1) := by decide +kernel
theorem dX6_init_13 : decode cX6_init 13 = .ok (.bipush 10, 2) := by decide +kernel
theorem dX6_init_15 : decode cX6_init 15 = .ok (.newarray .int, 2) := by decide +kernel
theorem dX6_init_17 : decode cX6_init 17 = .ok (.putfield 15, 3) := by decide +kernel
theorem dX6_init_20 : decode cX6_init 20 = .ok (.aload_n 0, 1) := by decide +kernel
theorem dX6_init_21 : decode cX6_init 21 = .ok (.bipush 10, 2) := by decide +kernel
theorem dX6_init_23 : decode cX6_init 23 = .ok (.newarray .int, 2) := by decide +kernel
theorem dX6_init_25 : decode cX6_init 25 = .ok (.putfield 18, 3) := by decide +kernel
theorem dX6_init_28 : decode cX6_init 28 = .ok (.aload_n 0, 1) := by decide +kernel
theorem dX6_init_29 : decode cX6_init 29 = .ok (.new 21, 3) := by decide +kernel
theorem dX6_init_32 : decode cX6_init 32 = .ok (.dup, 1) := by decide +kernel
theorem dX6_init_33 : decode cX6_init 33 = .ok (.invokespecial 23, 3) := by decide +kernel
theorem dX6_init_36 : decode cX6_init 36 = .ok (.putfield 24, 3) := by decide +kernel
theorem dX6_init_39 : decode cX6_init 39 = .ok (.aload_n 0, 1) := by decide +kernel
theorem dX6_init_40 : decode cX6_init 40 = .ok (.new 28, 3) := by decide +kernel
theorem dX6_init_43 : decode cX6_init 43 = .ok (.dup, 1) := by decide +kernel
theorem dX6_init_44 : decode cX6_init 44 = .ok (.invokespecial 30, 3) := by decide +kernel
theorem dX6_init_47 : decode cX6_init 47 = .ok (.putfield 31, 3) := by decide +kernel
theorem dX6_init_50 : decode cX6_init 50 = .ok (.aload_n 0, 1) := by decide +kernel
theorem dX6_init_51 : decode cX6_init 51 = .ok (.new 35, 3) := by decide +kernel
theorem dX6_init_54 : decode cX6_init 54 = .ok (.dup, 1) := by decide +kernel
theorem dX6_init_55 : decode cX6_init 55 = .ok (.invokespecial 37, 3) := by decide +kernel
theorem dX6_init_58 : decode cX6_init 58 = .ok (.putfield 38, 3) := by decide +kernel
theorem dX6_init_61 : decode cX6_init 61 = .ok (.return_, 1) := by decide +kernel
theorem dX6_pass_0 : decode cX6_pass 0 = .ok (.aload_n 0, 1) := by decide +kernel
theorem dX6_pass_1 : decode cX6_pass 1 = .ok (.iconst 0, 1) := by decide +kernel
theorem dX6_pass_2 : decode cX6_pass 2 = .ok (.putfield 42, 3) := by decide +kernel
theorem dX6_pass_5 : decode cX6_pass 5 = .ok (.aload_n 0, 1) := by decide +kernel
theorem dX6_pass_6 : decode cX6_pass 6 = .ok (.iconst 0, 1) := by decide +kernel
theorem dX6_pass_7 : decode cX6_pass 7 = .ok (.putfield 46, 3) := by decide +kernel
theorem dX6_pass_10 : decode cX6_pass 10 = .ok (.aload_n 0, 1) := by decide +kernel
theorem dX6_pass_11 : decode cX6_pass 11 = .ok (.getfield 9, 3) := by decide +kernel
theorem dX6_pass_14 : decode cX6_pass 14 = .ok (.iconst 0, 1) := by decide +kernel
theorem dX6_pass_15 : decode cX6_pass 15 = .ok (.invokestatic 49, 3) := by decide +kernel
theorem dX6_pass_18 : decode cX6_pass 18 = .ok (.aload_n 0, 1) := by decide +kernel
theorem dX6_pass_19 : decode cX6_pass 19 = .ok (.getfield 15, 3) := by decide +kernel
theorem dX6_pass_22 : decode cX6_pass 22 = .ok (.iconst 0, 1) := by decide +kernel
theorem dX6_pass_23 : decode cX6_pass 23 = .ok (.invokestatic 49, 3) := by decide +kernel
theorem dX6_pass_26 : decode cX6_pass 26 = .ok (.aload_n 0, 1) := by decide +kernel
theorem dX6_pass_27 : decode cX6_pass 27 = .ok (.getfield 18, 3) := by decide +kernel
theorem dX6_pass_30 : decode cX6_pass 30 = .ok (.iconst 0, 1) := by decide +kernel
theorem dX6_pass_31 : decode cX6_pass 31 = .ok (.invokestatic 49, 3) := by decide +kernel
theorem dX6_pass_34 : decode cX6_pass 34 = .ok (.aload_n 0, 1) := by decide +kernel
theorem dX6_pass_35 : decode cX6_pass 35 = .ok (.getfield 24, 3) := by decide +kernel
theorem dX6_pass_38 : decode cX6_pass 38 = .ok (.aload_n 1, 1) := by decide +kernel
theorem dX6_pass_39 : decode cX6_pass 39 = .ok (.invokevirtual 53, 3) := by decide +kernel
theorem dX6_pass_42 : decode cX6_pass 42 = .ok (.iconst 1, 1) := by decide +kernel
theorem dX6_pass_43 : decode cX6_pass 43 = .ok (.istore 4, 2) := by decide +kernel
theorem dX6_pass_45 : decode cX6_pass 45 = .ok (.iload 4, 2) := by decide +kernel
theorem dX6_pass_47 : decode cX6_pass 47 = .ok (.iload_n 3, 1) := by decide +kernel
theorem dX6_pass_48 : decode cX6_pass 48 = .ok (.if_icmp .gt 101, 3) := by decide +kernel
theorem dX6_pass_51 : decode cX6_pass 51 = .ok (.aload_n 0, 1) := by decide +kernel
theorem dX6_pass_52 : decode cX6_pass 52 = .ok (.getfield 31, 3) := by decide +kernel
theorem dX6_pass_55 : decode cX6_pass 55 = .ok (.aload_n 0, 1) := by decide +kernel
theorem dX6_pass_56 : decode cX6_pass 56 = .ok (.getfield 24, 3) := by decide +kernel
theorem dX6_pass_59 : decode cX6_pass 59 = .ok (.invokevirtual 57, 3) := by decide +kernel
theorem dX6_pass_62 : decode cX6_pass 62 = .ok (.aload_n 0, 1) := by decide +kernel
theorem dX6_pass_63 : decode cX6_pass 63 = .ok (.getfield 38, 3) := by decide +kernel
theorem dX6_pass_66 : decode cX6_pass 66 = .ok (.aload_n 0, 1) := by decide +kernel
theorem dX6_pass_67 : decode cX6_pass 67 = .ok (.getfield 31, 3) := by decide +kernel
theorem dX6_pass_70 : decode cX6_pass 70 = .ok (.iload_n 2, 1) := by decide +kernel
theorem dX6_pass_71 : decode cX6_pass 71 = .ok (.iload 4, 2) := by decide +kernel
theorem dX6_pass_73 : decode cX6_pass 73 = .ok (.iadd, 1) := by decide +kernel
theorem dX6_pass_74 : decode cX6_pass 74 = .ok (.iconst 1, 1) := by decide +kernel
theorem dX6_pass_75 : decode cX6_pass 75 = .ok (.isub, 1) := by decide +kernel
theorem dX6_pass_76 : decode cX6_pass 76 = .ok (.invokevirtual 60, 3) := by decide +kernel
theorem dX6_pass_79 : decode cX6_pass 79 = .ok (.aload_n 0, 1) := by decide +kernel
theorem dX6_pass_80 : decode cX6_pass 80 = .ok (.dup, 1) := by decide +kernel
theorem dX6_pass_81 : decode cX6_pass 81 = .ok (.getfield 42, 3) := by decide +kernel
theorem dX6_pass_84 : decode cX6_pass 84 = .ok (.aload_n 0, 1) := by decide +kernel
theorem dX6_pass_85 : decode cX6_pass 85 = .ok (.getfield 38, 3) := by decide +kernel
theorem dX6_pass_88 : decode cX6_pass 88 = .ok (.aload_n 0, 1) := by decide +kernel
theorem dX6_pass_89 : decode cX6_pass 89 = .ok (.getfield 31, 3) := by decide +kernel
theorem dX6_pass_92 : decode cX6_pass 92 = .ok (.invokevirtual 64, 3) := by decide +kernel
theorem dX6_pass_95 : decode cX6_pass 95 = .ok (.iadd, 1) := by decide +kernel
theorem dX6_pass_96 : decode cX6_pass 96 = .ok (.putfield 42, 3) := by decide +kernel
theorem dX6_pass_99 : decode cX6_pass 99 = .ok (.iconst 0, 1) := by decide +kernel
theorem dX6_pass_100 : decode cX6_pass 100 = .ok (.istore 5, 2) := by decide +kernel
theorem dX6_pass_102 : decode cX6_pass 102 = .ok (.iload 5, 2) := by decide +kernel
theorem dX6_pass_104 : decode cX6_pass 104 = .ok (.aload_n 0, 1) := by decide +kernel
theorem dX6_pass_105 : decode cX6_pass 105 = .ok (.getfield 24, 3) := by decide +kernel
theorem dX6_pass_108 : decode cX6_pass 108 = .ok (.getfield 68, 3) := by decide +kernel
theorem dX6_pass_111 : decode cX6_pass 111 = .ok (.if_icmp .ge 17, 3) := by decide +kernel
theorem dX6_pass_114 : decode cX6_pass 114 = .ok (.aload_n 0, 1) := by decide +kernel
theorem dX6_pass_115 : decode cX6_pass 115 = .ok (.iload 5, 2) := by decide +kernel
theorem dX6_pass_117 : decode cX6_pass 117 = .ok (.iload 4, 2) := by decide +kernel
theorem dX6_pass_119 : decode cX6_pass 119 = .ok (.invokevirtual 71, 3) := by decide +kernel
theorem dX6_pass_122 : decode cX6_pass 122 = .ok (.iinc 5 1, 3) := by decide +kernel
theorem dX6_pass_125 : decode cX6_pass 125 = .ok (.goto (-23), 3) := by decide +kernel
theorem dX6_pass_128 : decode cX6_pass 128 = .ok (.aload_n 0, 1) := by decide +kernel
theorem dX6_pass_129 : decode cX6_pass 129 = .ok (.getfield 24, 3) := by decide +kernel
theorem dX6_pass_132 : decode cX6_pass 132 = .ok (.aload_n 0, 1) := by decide +kernel
theorem dX6_pass_133 : decode cX6_pass 133 = .ok (.getfield 31, 3) := by decide +kernel
theorem dX6_pass_136 : decode cX6_pass 136 = .ok (.aload_n 0, 1) := by decide +kernel
theorem dX6_pass_137 : decode cX6_pass 137 = .ok (.getfield 38, 3) := by decide +kernel
theorem dX6_pass_140 : decode cX6_pass 140 = .ok (.invokevirtual 75, 3) := by decide +kernel
theorem dX6_pass_143 : decode cX6_pass 143 = .ok (.iinc 4 1, 3) := by decide +kernel
theorem dX6_pass_146 : decode cX6_pass 146 = .ok (.goto (-101), 3) := by decide +kernel
theorem dX6_pass_149 : decode cX6_pass 149 = .ok (.return_, 1) := by decide +kernel
theorem dX6_note_0 : decode cX6_note 0 = .ok (.aload_n 0, 1) := by decide +kernel
theorem dX6_note_1 : decode cX6_note 1 = .ok (.getfield 31, 3) := by decide +kernel
theorem dX6_note_4 : decode cX6_note 4 = .ok (.getfield 79, 3) := by decide +kernel
theorem dX6_note_7 : decode cX6_note 7 = .ok (.iload_n 1, 1) := by decide +kernel
theorem dX6_note_8 : decode cX6_note 8 = .ok (.invokestatic 82, 3) := by decide +kernel
theorem dX6_note_11 : decode cX6_note 11 = .ok (.istore_n 3, 1) := by decide +kernel
theorem dX6_note_12 : decode cX6_note 12 = .ok (.aload_n 0, 1) := by decide +kernel
theorem dX6_note_13 : decode cX6_note 13 = .ok (.getfield 38, 3) := by decide +kernel
theorem dX6_note_16 : decode cX6_note 16 = .ok (.getfield 86, 3) := by decide +kernel
theorem dX6_note_19 : decode cX6_note 19 = .ok (.iload_n 3, 1) := by decide +kernel
theorem dX6_note_20 : decode cX6_note 20 = .ok (.invokestatic 82, 3) := by decide +kernel
theorem dX6_note_23 : decode cX6_note 23 = .ok (.iconst (-1), 1) := by decide +kernel
theorem dX6_note_24 : decode cX6_note 24 = .ok (.if_icmp .ne 32, 3) := by decide +kernel
theorem dX6_note_27 : decode cX6_note 27 = .ok (.aload_n 0, 1) := by decide +kernel
theorem dX6_note_28 : decode cX6_note 28 = .ok (.getfield 18, 3) := by decide +kernel
theorem dX6_note_31 : decode cX6_note 31 = .ok (.iload_n 1, 1) := by decide +kernel
theorem dX6_note_32 : decode cX6_note 32 = .ok (.iconst 1, 1) := by decide +kernel
theorem dX6_note_33 : decode cX6_note 33 = .ok (.invokestatic 89, 3) := by decide +kernel
theorem dX6_note_36 : decode cX6_note 36 = .ok (.aload_n 0, 1) := by decide +kernel
theorem dX6_note_37 : decode cX6_note 37 = .ok (.aload_n 0, 1) := by decide +kernel
theorem dX6_note_38 : decode cX6_note 38 = .ok (.getfield 46, 3) := by decide +kernel
theorem dX6_note_41 : decode cX6_note 41 = .ok (.aload_n 0, 1) := by decide +kernel
theorem dX6_note_42 : decode cX6_note 42 = .ok (.getfield 18, 3) := by decide +kernel
theorem dX6_note_45 : decode cX6_note 45 = .ok (.iload_n 1, 1) := by decide +kernel
theorem dX6_note_46 : decode cX6_note 46 = .ok (.invokestatic 82, 3) := by decide +kernel
theorem dX6_note_49 : decode cX6_note 49 = .ok (.invokestatic 93, 3) := by decide +kernel
theorem dX6_note_52 : decode cX6_note 52 = .ok (.putfield 46, 3) := by decide +kernel
theorem dX6_note_55 : decode cX6_note 55 = .ok (.return_, 1) := by decide +kernel
theorem dX6_note_56 : decode cX6_note 56 = .ok (.aload_n 0, 1) := by decide +kernel
theorem dX6_note_57 : decode cX6_note 57 = .ok (.getfield 18, 3) := by decide +kernel
theorem dX6_note_60 : decode cX6_note 60 = .ok (.iload_n 1, 1) := by decide +kernel
theorem dX6_note_61 : decode cX6_note 61 = .ok (.iconst 0, 1) := by decide +kernel
theorem dX6_note_62 : decode cX6_note 62 = .ok (.invokestatic 99, 3) := by decide +kernel
theorem dX6_note_65 : decode cX6_note 65 = .ok (.aload_n 0, 1) := by decide +kernel
theorem dX6_note_66 : decode cX6_note 66 = .ok (.getfield 9, 3) := by decide +kernel
theorem dX6_note_69 : decode cX6_note 69 = .ok (.iload_n 1, 1) := by decide +kernel
theorem dX6_note_70 : decode cX6_note 70 = .ok (.iconst 1, 1) := by decide +kernel
theorem dX6_note_71 : decode cX6_note 71 = .ok (.invokestatic 89, 3) := by decide +kernel
theorem dX6_note_74 : decode cX6_note 74 = .ok (.aload_n 0, 1) := by decide +kernel
theorem dX6_note_75 : decode cX6_note 75 = .ok (.getfield 38, 3) := by decide +kernel
theorem dX6_note_78 : decode cX6_note 78 = .ok (.aload_n 0, 1) := by decide +kernel
theorem dX6_note_79 : decode cX6_note 79 = .ok (.getfield 31, 3) := by decide +kernel
theorem dX6_note_82 : decode cX6_note 82 = .ok (.iload_n 3, 1) := by decide +kernel
theorem dX6_note_83 : decode cX6_note 83 = .ok (.invokevirtual 102, 3) := by decide +kernel
theorem dX6_note_86 : decode cX6_note 86 = .ok (.ifCond .eq 23, 3) := by decide +kernel
theorem dX6_note_89 : decode cX6_note 89 = .ok (.aload_n 0, 1) := by decide +kernel
theorem dX6_note_90 : decode cX6_note 90 = .ok (.getfield 15, 3) := by decide +kernel
theorem dX6_note_93 : decode cX6_note 93 = .ok (.iload_n 1, 1) := by decide +kernel
theorem dX6_note_94 : decode cX6_note 94 = .ok (.invokestatic 82, 3) := by decide +kernel
theorem dX6_note_97 : decode cX6_note 97 = .ok (.ifCond .ne 12, 3) := by decide +kernel
theorem dX6_note_100 : decode cX6_note 100 = .ok (.aload_n 0, 1) := by decide +kernel
theorem dX6_note_101 : decode cX6_note 101 = .ok (.getfield 15, 3) := by decide +kernel
theorem dX6_note_104 : decode cX6_note 104 = .ok (.iload_n 1, 1) := by decide +kernel
theorem dX6_note_105 : decode cX6_note 105 = .ok (.iload_n 2, 1) := by decide +kernel
theorem dX6_note_106 : decode cX6_note 106 = .ok (.invokestatic 99, 3) := by decide +kernel
theorem dX6_note_109 : decode cX6_note 109 = .ok (.return_, 1) := by decide +kernel
theorem dX6_unserved_0 : decode cX6_unserved 0 = .ok (.iconst 0, 1) := by decide +kernel
theorem dX6_unserved_1 : decode cX6_unserved 1 = .ok (.istore_n 2, 1) := by decide +kernel
theorem dX6_unserved_2 : decode cX6_unserved 2 = .ok (.iconst 0, 1) := by decide +kernel
theorem dX6_unserved_3 : decode cX6_unserved 3 = .ok (.istore_n 3, 1) := by decide +kernel
theorem dX6_unserved_4 : decode cX6_unserved 4 = .ok (.iload_n 3, 1) := by decide +kernel
theorem dX6_unserved_5 : decode cX6_unserved 5 = .ok (.iload_n 1, 1) := by decide +kernel
theorem dX6_unserved_6 : decode cX6_unserved 6 = .ok (.if_icmp .ge 30, 3) := by decide +kernel
theorem dX6_unserved_9 : decode cX6_unserved 9 = .ok (.iload_n 2, 1) := by decide +kernel
theorem dX6_unserved_10 : decode cX6_unserved 10 = .ok (.aload_n 0, 1) := by decide +kernel
theorem dX6_unserved_11 : decode cX6_unserved 11 = .ok (.getfield 9, 3) := by decide +kernel
theorem dX6_unserved_14 : decode cX6_unserved 14 = .ok (.iload_n 3, 1) := by decide +kernel
theorem dX6_unserved_15 : decode cX6_unserved 15 = .ok (.invokestatic 82, 3) := by decide +kernel
theorem dX6_unserved_18 : decode cX6_unserved 18 = .ok (.ifCond .ne 9, 3) := by decide +kernel
theorem dX6_unserved_21 : decode cX6_unserved 21 = .ok (.iconst 1, 1) := by decide +kernel
theorem dX6_unserved_22 : decode cX6_unserved 22 = .ok (.iload_n 3, 1) := by decide +kernel
theorem dX6_unserved_23 : decode cX6_unserved 23 = .ok (.ishl, 1) := by decide +kernel
theorem dX6_unserved_24 : decode cX6_unserved 24 = .ok (.goto 4, 3) := by decide +kernel
theorem dX6_unserved_27 : decode cX6_unserved 27 = .ok (.iconst 0, 1) := by decide +kernel
theorem dX6_unserved_28 : decode cX6_unserved 28 = .ok (.ior, 1) := by decide +kernel
theorem dX6_unserved_29 : decode cX6_unserved 29 = .ok (.istore_n 2, 1) := by decide +kernel
theorem dX6_unserved_30 : decode cX6_unserved 30 = .ok (.iinc 3 1, 3) := by decide +kernel
theorem dX6_unserved_33 : decode cX6_unserved 33 = .ok (.goto (-29), 3) := by decide +kernel
theorem dX6_unserved_36 : decode cX6_unserved 36 = .ok (.iload_n 2, 1) := by decide +kernel
theorem dX6_unserved_37 : decode cX6_unserved 37 = .ok (.ireturn, 1) := by decide +kernel
theorem dX7_init_0 : decode cX7_init 0 = .ok (.aload_n 0, 1) := by decide +kernel
theorem dX7_init_1 : decode cX7_init 1 = .ok (.invokespecial 1, 3) := by decide +kernel
theorem dX7_init_4 : decode cX7_init 4 = .ok (.aload_n 0, 1) := by decide +kernel
theorem dX7_init_5 : decode cX7_init 5 = .ok (.sipush 700, 3) := by decide +kernel
theorem dX7_init_8 : decode cX7_init 8 = .ok (.newarray .int, 2) := by decide +kernel
theorem dX7_init_10 : decode cX7_init 10 = .ok (.putfield 9, 3) := by decide +kernel
theorem dX7_init_13 : decode cX7_init 13 = .ok (.aload_n 0, 1) := by decide +kernel
theorem dX7_init_14 : decode cX7_init 14 = .ok (.bipush 50, 2) := by decide +kernel
theorem dX7_init_16 : decode cX7_init 16 = .ok (.newarray .int, 2) := by decide +kernel
theorem dX7_init_18 : decode cX7_init 18 = .ok (.putfield 13, 3) := by decide +kernel
theorem dX7_init_21 : decode cX7_init 21 = .ok (.aload_n 0, 1) := by decide +kernel
theorem dX7_init_22 : decode cX7_init 22 = .ok (.new 16, 3) := by decide +kernel
theorem dX7_init_25 : decode cX7_init 25 = .ok (.dup, 1) := by decide +kernel
theorem dX7_init_26 : decode cX7_init 26 = .ok (.invokespecial 18, 3) := by decide +kernel
theorem dX7_init_29 : decode cX7_init 29 = .ok (.putfield 19, 3) := by decide +kernel
theorem dX7_init_32 : decode cX7_init 32 = .ok (.aload_n 0, 1) := by decide +kernel
theorem dX7_init_33 : decode cX7_init 33 = .ok (.new 23, 3) := by decide +kernel
theorem dX7_init_36 : decode cX7_init 36 = .ok (.dup, 1) := by decide +kernel
theorem dX7_init_37 : decode cX7_init 37 = .ok (.invokespecial 25, 3) := by decide +kernel
theorem dX7_init_40 : decode cX7_init 40 = .ok (.putfield 26, 3) := by decide +kernel
theorem dX7_init_43 : decode cX7_init 43 = .ok (.aload_n 0, 1) := by decide +kernel
theorem dX7_init_44 : decode cX7_init 44 = .ok (.new 30, 3) := by decide +kernel
theorem dX7_init_47 : decode cX7_init 47 = .ok (.dup, 1) := by decide +kernel
theorem dX7_init_48 : decode cX7_init 48 = .ok (.invokespecial 32, 3) := by decide +kernel
theorem dX7_init_51 : decode cX7_init 51 = .ok (.putfield 33, 3) := by decide +kernel
theorem dX7_init_54 : decode cX7_init 54 = .ok (.aload_n 0, 1) := by decide +kernel
theorem dX7_init_55 : decode cX7_init 55 = .ok (.new 37, 3) := by decide +kernel
theorem dX7_init_58 : decode cX7_init 58 = .ok (.dup, 1) := by decide +kernel
theorem dX7_init_59 : decode cX7_init 59 = .ok (.invokespecial 39, 3) := by decide +kernel
theorem dX7_init_62 : decode cX7_init 62 = .ok (.putfield 40, 3) := by decide +kernel
theorem dX7_init_65 : decode cX7_init 65 = .ok (.aload_n 0, 1) := by decide +kernel
theorem dX7_init_66 : decode cX7_init 66 = .ok (.new 44, 3) := by decide +kernel
theorem dX7_init_69 : decode cX7_init 69 = .ok (.dup, 1) := by decide +kernel
theorem dX7_init_70 : decode cX7_init 70 = .ok (.invokespecial 46, 3) := by decide +kernel
theorem dX7_init_73 : decode cX7_init 73 = .ok (.putfield 47, 3) := by decide +kernel
theorem dX7_init_76 : decode cX7_init 76 = .ok (.aload_n 0, 1) := by decide +kernel
theorem dX7_init_77 : decode cX7_init 77 = .ok (.new 51, 3) := by decide +kernel
theorem dX7_init_80 : decode cX7_init 80 = .ok (.dup, 1) := by decide +kernel
theorem dX7_init_81 : decode cX7_init 81 = .ok (.invokespecial 53, 3) := by decide +kernel
theorem dX7_init_84 : decode cX7_init 84 = .ok (.putfield 54, 3) := by decide +kernel
theorem dX7_init_87 : decode cX7_init 87 = .ok (.aload_n 0, 1) := by decide +kernel
theorem dX7_init_88 : decode cX7_init 88 = .ok (.new 58, 3) := by decide +kernel
theorem dX7_init_91 : decode cX7_init 91 = .ok (.dup, 1) := by decide +kernel
theorem dX7_init_92 : decode cX7_init 92 = .ok (.invokespecial 60, 3) := by decide +kernel
theorem dX7_init_95 : decode cX7_init 95 = .ok (.putfield 61, 3) := by decide +kernel
theorem dX7_init_98 : decode cX7_init 98 = .ok (.aload_n 0, 1) := by decide +kernel
theorem dX7_init_99 : decode cX7_init 99 = .ok (.new 23, 3) := by decide +kernel
theorem dX7_init_102 : decode cX7_init 102 = .ok (.dup, 1) := by decide +kernel
theorem dX7_init_103 : decode cX7_init 103 = .ok (.invokespecial 25, 3) := by decide +kernel
theorem dX7_init_106 : decode cX7_init 106 = .ok (.putfield 65, 3) := by decide +kernel
theorem dX7_init_109 : decode cX7_init 109 = .ok (.aload_n 0, 1) := by decide +kernel
theorem dX7_init_110 : decode cX7_init 110 = .ok (.new 37, 3) := by decide +kernel
theorem dX7_init_113 : decode cX7_init 113 = .ok (.dup, 1) := by decide +kernel
theorem dX7_init_114 : decode cX7_init 114 = .ok (.invokespecial 39, 3) := by decide +kernel
theorem dX7_init_117 : decode cX7_init 117 = .ok (.putfield 68, 3) := by decide +kernel
theorem dX7_init_120 : decode cX7_init 120 = .ok (.aload_n 0, 1) := by decide +kernel
theorem dX7_init_121 : decode cX7_init 121 = .ok (.new 44, 3) := by decide +kernel
theorem dX7_init_124 : decode cX7_init 124 = .ok (.dup, 1) := by decide +kernel
theorem dX7_init_125 : decode cX7_init 125 = .ok (.invokespecial 46, 3) := by decide +kernel
theorem dX7_init_128 : decode cX7_init 128 = .ok (.putfield 71, 3) := by decide +kernel
theorem dX7_init_131 : decode cX7_init 131 = .ok (.aload_n 0, 1) := by decide +kernel
theorem dX7_init_132 : decode cX7_init 132 = .ok (.new 51, 3) := by decide +kernel
theorem dX7_init_135 : decode cX7_init 135 = .ok (.dup, 1) := by decide +kernel
theorem dX7_init_136 : decode cX7_init 136 = .ok (.invokespecial 53, 3) := by decide +kernel
theorem dX7_init_139 : decode cX7_init 139 = .ok (.putfield 74, 3) := by decide +kernel
theorem dX7_init_142 : decode cX7_init 142 = .ok (.aload_n 0, 1) := by decide +kernel
theorem dX7_init_143 : decode cX7_init 143 = .ok (.getfield 26, 3) := by decide +kernel
theorem dX7_init_146 : decode cX7_init 146 = .ok (.invokevirtual 77, 3) := by decide +kernel
theorem dX7_init_149 : decode cX7_init 149 = .ok (.aload_n 0, 1) := by decide +kernel
theorem dX7_init_150 : decode cX7_init 150 = .ok (.getfield 40, 3) := by decide +kernel
theorem dX7_init_153 : decode cX7_init 153 = .ok (.aload_n 0, 1) := by decide +kernel
theorem dX7_init_154 : decode cX7_init 154 = .ok (.getfield 26, 3) := by decide +kernel
theorem dX7_init_157 : decode cX7_init 157 = .ok (.invokevirtual 80, 3) := by decide +kernel
theorem dX7_init_160 : decode cX7_init 160 = .ok (.aload_n 0, 1) := by decide +kernel
theorem dX7_init_161 : decode cX7_init 161 = .ok (.iconst (-1), 1) := by decide +kernel
theorem dX7_init_162 : decode cX7_init 162 = .ok (.putfield 84, 3) := by decide +kernel
theorem dX7_init_165 : decode cX7_init 165 = .ok (.return_, 1) := by decide +kernel
theorem dX7_status_0 : decode cX7_status 0 = .ok (.aload_n 0, 1) := by decide +kernel
theorem dX7_status_1 : decode cX7_status 1 = .ok (.getfield 88, 3) := by decide +kernel
theorem dX7_status_4 : decode cX7_status 4 = .ok (.ireturn, 1) := by decide +kernel
theorem dX7_feed_0 : decode cX7_feed 0 = .ok (.aload_n 0, 1) := by decide +kernel
theorem dX7_feed_1 : decode cX7_feed 1 = .ok (.getfield 91, 3) := by decide +kernel
theorem dX7_feed_4 : decode cX7_feed 4 = .ok (.bipush 20, 2) := by decide +kernel
theorem dX7_feed_6 : decode cX7_feed 6 = .ok (.iadd, 1) := by decide +kernel
theorem dX7_feed_7 : decode cX7_feed 7 = .ok (.sipush 700, 3) := by decide +kernel
theorem dX7_feed_10 : decode cX7_feed 10 = .ok (.if_icmp .le 5, 3) := by decide +kernel
theorem dX7_feed_13 : decode cX7_feed 13 = .ok (.iconst (-1), 1) := by decide +kernel
theorem dX7_feed_14 : decode cX7_feed 14 = .ok (.ireturn, 1) := by decide +kernel
theorem dX7_feed_15 : decode cX7_feed 15 = .ok (.aload_n 0, 1) := by decide +kernel
theorem dX7_feed_16 : decode cX7_feed 16 = .ok (.iload_n 1, 1) := by decide +kernel
theorem dX7_feed_17 : decode cX7_feed 17 = .ok (.invokevirtual 94, 3) := by decide +kernel
theorem dX7_feed_20 : decode cX7_feed 20 = .ok (.aload_n 0, 1) := by decide +kernel
theorem dX7_feed_21 : decode cX7_feed 21 = .ok (.iload_n 2, 1) := by decide +kernel
theorem dX7_feed_22 : decode cX7_feed 22 = .ok (.invokevirtual 94, 3) := by decide +kernel
theorem dX7_feed_25 : decode cX7_feed 25 = .ok (.aload_n 0, 1) := by decide +kernel
theorem dX7_feed_26 : decode cX7_feed 26 = .ok (.iload_n 3, 1) := by decide +kernel
theorem dX7_feed_27 : decode cX7_feed 27 = .ok (.invokevirtual 94, 3) := by decide +kernel
theorem dX7_feed_30 : decode cX7_feed 30 = .ok (.aload_n 0, 1) := by decide +kernel
theorem dX7_feed_31 : decode cX7_feed 31 = .ok (.iload 4, 2) := by decide +kernel
theorem dX7_feed_33 : decode cX7_feed 33 = .ok (.invokevirtual 94, 3) := by decide +kernel
theorem dX7_feed_36 : decode cX7_feed 36 = .ok (.aload_n 0, 1) := by decide +kernel
theorem dX7_feed_37 : decode cX7_feed 37 = .ok (.iload 5, 2) := by decide +kernel
theorem dX7_feed_39 : decode cX7_feed 39 = .ok (.invokevirtual 94, 3) := by decide +kernel
theorem dX7_feed_42 : decode cX7_feed 42 = .ok (.aload_n 0, 1) := by decide +kernel
theorem dX7_feed_43 : decode cX7_feed 43 = .ok (.getfield 91, 3) := by decide +kernel
theorem dX7_feed_46 : decode cX7_feed 46 = .ok (.ireturn, 1) := by decide +kernel
theorem dX7_append_0 : decode cX7_append 0 = .ok (.bipush 24, 2) := by decide +kernel
theorem dX7_append_2 : decode cX7_append 2 = .ok (.istore_n 2, 1) := by decide +kernel
theorem dX7_append_3 : decode cX7_append 3 = .ok (.iload_n 2, 1) := by decide +kernel
theorem dX7_append_4 : decode cX7_append 4 = .ok (.ifCond .lt 37, 3) := by decide +kernel
theorem dX7_append_7 : decode cX7_append 7 = .ok (.aload_n 0, 1) := by decide +kernel
theorem dX7_append_8 : decode cX7_append 8 = .ok (.getfield 9, 3) := by decide +kernel
theorem dX7_append_11 : decode cX7_append 11 = .ok (.aload_n 0, 1) := by decide +kernel
theorem dX7_append_12 : decode cX7_append 12 = .ok (.getfield 91, 3) := by decide +kernel
theorem dX7_append_15 : decode cX7_append 15 = .ok (.iload_n 1, 1) := by decide +kernel
theorem dX7_append_16 : decode cX7_append 16 = .ok (.iload_n 2, 1) := by decide +kernel
theorem dX7_append_17 : decode cX7_append 17 = .ok (.iushr, 1) := by decide +kernel
theorem dX7_append_18 : decode cX7_append 18 = .ok (.sipush 255, 3) := by decide +kernel
theorem dX7_append_21 : decode cX7_append 21 = .ok (.iand, 1) := by decide +kernel
theorem dX7_append_22 : decode cX7_append 22 = .ok (.invokestatic 98, 3) := by decide +kernel
theorem dX7_append_25 : decode cX7_append 25 = .ok (.aload_n 0, 1) := by decide +kernel
theorem dX7_append_26 : decode cX7_append 26 = .ok (.dup, 1) := by decide +kernel
theorem dX7_append_27 : decode cX7_append 27 = .ok (.getfield 91, 3) := by decide +kernel
theorem dX7_append_30 : decode cX7_append 30 = .ok (.iconst 1, 1) := by decide +kernel
theorem dX7_append_31 : decode cX7_append 31 = .ok (.iadd, 1) := by decide +kernel
theorem dX7_append_32 : decode cX7_append 32 = .ok (.putfield 91, 3) := by decide +kernel
theorem dX7_append_35 : decode cX7_append 35 = .ok (.iinc 2 (-8), 3) := by decide +kernel
theorem dX7_append_38 : decode cX7_append 38 = .ok (.goto (-35), 3) := by decide +kernel
theorem dX7_append_41 : decode cX7_append 41 = .ok (.return_, 1) := by decide +kernel
theorem dX7_load_0 : decode cX7_load 0 = .ok (.iload_n 1, 1) := by decide +kernel
theorem dX7_load_1 : decode cX7_load 1 = .ok (.ifCond .lt 11, 3) := by decide +kernel
theorem dX7_load_4 : decode cX7_load 4 = .ok (.iload_n 1, 1) := by decide +kernel
theorem dX7_load_5 : decode cX7_load 5 = .ok (.aload_n 0, 1) := by decide +kernel
theorem dX7_load_6 : decode cX7_load 6 = .ok (.getfield 91, 3) := by decide +kernel
theorem dX7_load_9 : decode cX7_load 9 = .ok (.if_icmp .le 9, 3) := by decide +kernel
theorem dX7_load_12 : decode cX7_load 12 = .ok (.aload_n 0, 1) := by decide +kernel
theorem dX7_load_13 : decode cX7_load 13 = .ok (.iconst 1, 1) := by decide +kernel
theorem dX7_load_14 : decode cX7_load 14 = .ok (.invokevirtual 102, 3) := by decide +kernel
theorem dX7_load_17 : decode cX7_load 17 = .ok (.ireturn, 1) := by decide +kernel
theorem dX7_load_18 : decode cX7_load 18 = .ok (.aload_n 0, 1) := by decide +kernel
theorem dX7_load_19 : decode cX7_load 19 = .ok (.getfield 19, 3) := by decide +kernel
theorem dX7_load_22 : decode cX7_load 22 = .ok (.aload_n 0, 1) := by decide +kernel
theorem dX7_load_23 : decode cX7_load 23 = .ok (.getfield 9, 3) := by decide +kernel
theorem dX7_load_26 : decode cX7_load 26 = .ok (.iload_n 1, 1) := by decide +kernel
theorem dX7_load_27 : decode cX7_load 27 = .ok (.invokevirtual 106, 3) := by decide +kernel
theorem dX7_load_30 : decode cX7_load 30 = .ok (.istore_n 2, 1) := by decide +kernel
theorem dX7_load_31 : decode cX7_load 31 = .ok (.aload_n 0, 1) := by decide +kernel
theorem dX7_load_32 : decode cX7_load 32 = .ok (.iconst 0, 1) := by decide +kernel
theorem dX7_load_33 : decode cX7_load 33 = .ok (.putfield 91, 3) := by decide +kernel
theorem dX7_load_36 : decode cX7_load 36 = .ok (.iload_n 2, 1) := by decide +kernel
theorem dX7_load_37 : decode cX7_load 37 = .ok (.ifCond .ne 10, 3) := by decide +kernel
theorem dX7_load_40 : decode cX7_load 40 = .ok (.aload_n 0, 1) := by decide +kernel
theorem dX7_load_41 : decode cX7_load 41 = .ok (.bipush 9, 2) := by decide +kernel
theorem dX7_load_43 : decode cX7_load 43 = .ok (.invokevirtual 102, 3) := by decide +kernel
theorem dX7_load_46 : decode cX7_load 46 = .ok (.ireturn, 1) := by decide +kernel
theorem dX7_load_47 : decode cX7_load 47 = .ok (.aload_n 0, 1) := by decide +kernel
theorem dX7_load_48 : decode cX7_load 48 = .ok (.getfield 26, 3) := by decide +kernel
theorem dX7_load_51 : decode cX7_load 51 = .ok (.aload_n 0, 1) := by decide +kernel
theorem dX7_load_52 : decode cX7_load 52 = .ok (.getfield 19, 3) := by decide +kernel
theorem dX7_load_55 : decode cX7_load 55 = .ok (.getfield 110, 3) := by decide +kernel
theorem dX7_load_58 : decode cX7_load 58 = .ok (.invokevirtual 113, 3) := by decide +kernel
theorem dX7_load_61 : decode cX7_load 61 = .ok (.aload_n 0, 1) := by decide +kernel
theorem dX7_load_62 : decode cX7_load 62 = .ok (.getfield 33, 3) := by decide +kernel
theorem dX7_load_65 : decode cX7_load 65 = .ok (.invokevirtual 116, 3) := by decide +kernel
theorem dX7_load_68 : decode cX7_load 68 = .ok (.aload_n 0, 1) := by decide +kernel
theorem dX7_load_69 : decode cX7_load 69 = .ok (.aload_n 0, 1) := by decide +kernel
theorem dX7_load_70 : decode cX7_load 70 = .ok (.getfield 26, 3) := by decide +kernel
theorem dX7_load_73 : decode cX7_load 73 = .ok (.getfield 119, 3) := by decide +kernel
theorem dX7_load_76 : decode cX7_load 76 = .ok (.invokevirtual 122, 3) := by decide +kernel
theorem dX7_load_79 : decode cX7_load 79 = .ok (.ireturn, 1) := by decide +kernel
theorem dX7_fault_0 : decode cX7_fault 0 = .ok (.iload_n 1, 1) := by decide +kernel
theorem dX7_fault_1 : decode cX7_fault 1 = .ok (.ifCond .ne 11, 3) := by decide +kernel
theorem dX7_fault_4 : decode cX7_fault 4 = .ok (.aload_n 0, 1) := by decide +kernel
theorem dX7_fault_5 : decode cX7_fault 5 = .ok (.getfield 19, 3) := by decide +kernel
theorem dX7_fault_8 : decode cX7_fault 8 = .ok (.getfield 125, 3) := by decide +kernel
theorem dX7_fault_11 : decode cX7_fault 11 = .ok (.ireturn, 1) := by decide +kernel
theorem dX7_fault_12 : decode cX7_fault 12 = .ok (.iload_n 1, 1) := by decide +kernel
theorem dX7_fault_13 : decode cX7_fault 13 = .ok (.iconst 1, 1) := by decide +kernel
theorem dX7_fault_14 : decode cX7_fault 14 = .ok (.if_icmp .ne 13, 3) := by decide +kernel
theorem dX7_fault_17 : decode cX7_fault 17 = .ok (.aload_n 0, 1) := by decide +kernel
theorem dX7_fault_18 : decode cX7_fault 18 = .ok (.getfield 19, 3) := by decide +kernel
theorem dX7_fault_21 : decode cX7_fault 21 = .ok (.getfield 128, 3) := by decide +kernel
theorem dX7_fault_24 : decode cX7_fault 24 = .ok (.goto 4, 3) := by decide +kernel
theorem dX7_fault_27 : decode cX7_fault 27 = .ok (.iconst (-1), 1) := by decide +kernel
theorem dX7_fault_28 : decode cX7_fault 28 = .ok (.ireturn, 1) := by decide +kernel
theorem dX7_many_0 : decode cX7_many 0 = .ok (.iload_n 1, 1) := by decide +kernel
theorem dX7_many_1 : decode cX7_many 1 = .ok (.tableswitch 197 0 10 #[59, 71, 83, 95, 107, 119, 131, 143, 155, 167, 182], 59) := by decide +kernel
theorem dX7_many_60 : decode cX7_many 60 = .ok (.aload_n 0, 1) := by decide +kernel
theorem dX7_many_61 : decode cX7_many 61 = .ok (.aload_n 0, 1) := by decide +kernel
theorem dX7_many_62 : decode cX7_many 62 = .ok (.getfield 26, 3) := by decide +kernel
theorem dX7_many_65 : decode cX7_many 65 = .ok (.getfield 131, 3) := by decide +kernel
theorem dX7_many_68 : decode cX7_many 68 = .ok (.invokevirtual 134, 3) := by decide +kernel
theorem dX7_many_71 : decode cX7_many 71 = .ok (.ireturn, 1) := by decide +kernel
theorem dX7_many_72 : decode cX7_many 72 = .ok (.aload_n 0, 1) := by decide +kernel
theorem dX7_many_73 : decode cX7_many 73 = .ok (.aload_n 0, 1) := by decide +kernel
theorem dX7_many_74 : decode cX7_many 74 = .ok (.getfield 26, 3) := by decide +kernel
theorem dX7_many_77 : decode cX7_many 77 = .ok (.getfield 119, 3) := by decide +kernel
theorem dX7_many_80 : decode cX7_many 80 = .ok (.invokevirtual 134, 3) := by decide +kernel
theorem dX7_many_83 : decode cX7_many 83 = .ok (.ireturn, 1) := by decide +kernel
theorem dX7_many_84 : decode cX7_many 84 = .ok (.aload_n 0, 1) := by decide +kernel
theorem dX7_many_85 : decode cX7_many 85 = .ok (.aload_n 0, 1) := by decide +kernel
theorem dX7_many_86 : decode cX7_many 86 = .ok (.getfield 26, 3) := by decide +kernel
theorem dX7_many_89 : decode cX7_many 89 = .ok (.getfield 137, 3) := by decide +kernel
theorem dX7_many_92 : decode cX7_many 92 = .ok (.invokevirtual 134, 3) := by decide +kernel
theorem dX7_many_95 : decode cX7_many 95 = .ok (.ireturn, 1) := by decide +kernel
theorem dX7_many_96 : decode cX7_many 96 = .ok (.aload_n 0, 1) := by decide +kernel
theorem dX7_many_97 : decode cX7_many 97 = .ok (.aload_n 0, 1) := by decide +kernel
theorem dX7_many_98 : decode cX7_many 98 = .ok (.getfield 40, 3) := by decide +kernel
theorem dX7_many_101 : decode cX7_many 101 = .ok (.getfield 140, 3) := by decide +kernel
theorem dX7_many_104 : decode cX7_many 104 = .ok (.invokevirtual 134, 3) := by decide +kernel
theorem dX7_many_107 : decode cX7_many 107 = .ok (.ireturn, 1) := by decide +kernel
theorem dX7_many_108 : decode cX7_many 108 = .ok (.aload_n 0, 1) := by decide +kernel
theorem dX7_many_109 : decode cX7_many 109 = .ok (.aload_n 0, 1) := by decide +kernel
theorem dX7_many_110 : decode cX7_many 110 = .ok (.getfield 26, 3) := by decide +kernel
theorem dX7_many_113 : decode cX7_many 113 = .ok (.getfield 143, 3) := by decide +kernel
theorem dX7_many_116 : decode cX7_many 116 = .ok (.invokevirtual 134, 3) := by decide +kernel
theorem dX7_many_119 : decode cX7_many 119 = .ok (.ireturn, 1) := by decide +kernel
theorem dX7_many_120 : decode cX7_many 120 = .ok (.aload_n 0, 1) := by decide +kernel
theorem dX7_many_121 : decode cX7_many 121 = .ok (.aload_n 0, 1) := by decide +kernel
theorem dX7_many_122 : decode cX7_many 122 = .ok (.getfield 26, 3) := by decide +kernel
theorem dX7_many_125 : decode cX7_many 125 = .ok (.getfield 146, 3) := by decide +kernel
theorem dX7_many_128 : decode cX7_many 128 = .ok (.invokevirtual 134, 3) := by decide +kernel
theorem dX7_many_131 : decode cX7_many 131 = .ok (.ireturn, 1) := by decide +kernel
theorem dX7_many_132 : decode cX7_many 132 = .ok (.aload_n 0, 1) := by decide +kernel
theorem dX7_many_133 : decode cX7_many 133 = .ok (.aload_n 0, 1) := by decide +kernel
theorem dX7_many_134 : decode cX7_many 134 = .ok (.getfield 26, 3) := by decide +kernel
theorem dX7_many_137 : decode cX7_many 137 = .ok (.getfield 149, 3) := by decide +kernel
theorem dX7_many_140 : decode cX7_many 140 = .ok (.invokevirtual 134, 3) := by decide +kernel
theorem dX7_many_143 : decode cX7_many 143 = .ok (.ireturn, 1) := by decide +kernel
theorem dX7_many_144 : decode cX7_many 144 = .ok (.aload_n 0, 1) := by decide +kernel
theorem dX7_many_145 : decode cX7_many 145 = .ok (.aload_n 0, 1) := by decide +kernel
theorem dX7_many_146 : decode cX7_many 146 = .ok (.getfield 26, 3) := by decide +kernel
theorem dX7_many_149 : decode cX7_many 149 = .ok (.getfield 152, 3) := by decide +kernel
theorem dX7_many_152 : decode cX7_many 152 = .ok (.invokevirtual 134, 3) := by decide +kernel
theorem dX7_many_155 : decode cX7_many 155 = .ok (.ireturn, 1) := by decide +kernel
theorem dX7_many_156 : decode cX7_many 156 = .ok (.aload_n 0, 1) := by decide +kernel
theorem dX7_many_157 : decode cX7_many 157 = .ok (.aload_n 0, 1) := by decide +kernel
theorem dX7_many_158 : decode cX7_many 158 = .ok (.getfield 33, 3) := by decide +kernel
theorem dX7_many_161 : decode cX7_many 161 = .ok (.getfield 155, 3) := by decide +kernel
theorem dX7_many_164 : decode cX7_many 164 = .ok (.invokevirtual 134, 3) := by decide +kernel
theorem dX7_many_167 : decode cX7_many 167 = .ok (.ireturn, 1) := by decide +kernel
theorem dX7_many_168 : decode cX7_many 168 = .ok (.aload_n 0, 1) := by decide +kernel
theorem dX7_many_169 : decode cX7_many 169 = .ok (.aload_n 0, 1) := by decide +kernel
theorem dX7_many_170 : decode cX7_many 170 = .ok (.getfield 26, 3) := by decide +kernel
theorem dX7_many_173 : decode cX7_many 173 = .ok (.getfield 158, 3) := by decide +kernel
theorem dX7_many_176 : decode cX7_many 176 = .ok (.invokestatic 161, 3) := by decide +kernel
theorem dX7_many_179 : decode cX7_many 179 = .ok (.invokevirtual 134, 3) := by decide +kernel
theorem dX7_many_182 : decode cX7_many 182 = .ok (.ireturn, 1) := by decide +kernel
theorem dX7_many_183 : decode cX7_many 183 = .ok (.aload_n 0, 1) := by decide +kernel
theorem dX7_many_184 : decode cX7_many 184 = .ok (.aload_n 0, 1) := by decide +kernel
theorem dX7_many_185 : decode cX7_many 185 = .ok (.getfield 26, 3) := by decide +kernel
theorem dX7_many_188 : decode cX7_many 188 = .ok (.getfield 165, 3) := by decide +kernel
theorem dX7_many_191 : decode cX7_many 191 = .ok (.invokestatic 161, 3) := by decide +kernel
theorem dX7_many_194 : decode cX7_many 194 = .ok (.invokevirtual 134, 3) := by decide +kernel
theorem dX7_many_197 : decode cX7_many 197 = .ok (.ireturn, 1) := by decide +kernel
theorem dX7_many_198 : decode cX7_many 198 = .ok (.aload_n 0, 1) := by decide +kernel
theorem dX7_many_199 : decode cX7_many 199 = .ok (.iconst 1, 1) := by decide +kernel
theorem dX7_many_200 : decode cX7_many 200 = .ok (.invokevirtual 102, 3) := by decide +kernel
theorem dX7_many_203 : decode cX7_many 203 = .ok (.ireturn, 1) := by decide +kernel
theorem dX7_hunter_0 : decode cX7_hunter 0 = .ok (.iload_n 2, 1) := by decide +kernel
theorem dX7_hunter_1 : decode cX7_hunter 1 = .ok (.ifCond .lt 8, 3) := by decide +kernel
theorem dX7_hunter_4 : decode cX7_hunter 4 = .ok (.iload_n 2, 1) := by decide +kernel
theorem dX7_hunter_5 : decode cX7_hunter 5 = .ok (.iconst 4, 1) := by decide +kernel
theorem dX7_hunter_6 : decode cX7_hunter 6 = .ok (.if_icmp .le 9, 3) := by decide +kernel
theorem dX7_hunter_9 : decode cX7_hunter 9 = .ok (.aload_n 0, 1) := by decide +kernel
theorem dX7_hunter_10 : decode cX7_hunter 10 = .ok (.iconst 1, 1) := by decide +kernel
theorem dX7_hunter_11 : decode cX7_hunter 11 = .ok (.invokevirtual 102, 3) := by decide +kernel
theorem dX7_hunter_14 : decode cX7_hunter 14 = .ok (.ireturn, 1) := by decide +kernel
theorem dX7_hunter_15 : decode cX7_hunter 15 = .ok (.aload_n 0, 1) := by decide +kernel
theorem dX7_hunter_16 : decode cX7_hunter 16 = .ok (.iload_n 1, 1) := by decide +kernel
theorem dX7_hunter_17 : decode cX7_hunter 17 = .ok (.invokevirtual 168, 3) := by decide +kernel
theorem dX7_hunter_20 : decode cX7_hunter 20 = .ok (.ifCond .ne 9, 3) := by decide +kernel
theorem dX7_hunter_23 : decode cX7_hunter 23 = .ok (.aload_n 0, 1) := by decide +kernel
theorem dX7_hunter_24 : decode cX7_hunter 24 = .ok (.iconst 2, 1) := by decide +kernel
theorem dX7_hunter_25 : decode cX7_hunter 25 = .ok (.invokevirtual 102, 3) := by decide +kernel
theorem dX7_hunter_28 : decode cX7_hunter 28 = .ok (.ireturn, 1) := by decide +kernel
theorem dX7_hunter_29 : decode cX7_hunter 29 = .ok (.iload_n 2, 1) := by decide +kernel
theorem dX7_hunter_30 : decode cX7_hunter 30 = .ok (.tableswitch 94 0 3 #[30, 46, 62, 78], 30) := by decide +kernel
theorem dX7_hunter_60 : decode cX7_hunter 60 = .ok (.aload_n 0, 1) := by decide +kernel
theorem dX7_hunter_61 : decode cX7_hunter 61 = .ok (.aload_n 0, 1) := by decide +kernel
theorem dX7_hunter_62 : decode cX7_hunter 62 = .ok (.getfield 26, 3) := by decide +kernel
theorem dX7_hunter_65 : decode cX7_hunter 65 = .ok (.getfield 172, 3) := by decide +kernel
theorem dX7_hunter_68 : decode cX7_hunter 68 = .ok (.iload_n 1, 1) := by decide +kernel
theorem dX7_hunter_69 : decode cX7_hunter 69 = .ok (.invokestatic 175, 3) := by decide +kernel
theorem dX7_hunter_72 : decode cX7_hunter 72 = .ok (.invokevirtual 134, 3) := by decide +kernel
theorem dX7_hunter_75 : decode cX7_hunter 75 = .ok (.ireturn, 1) := by decide +kernel
theorem dX7_hunter_76 : decode cX7_hunter 76 = .ok (.aload_n 0, 1) := by decide +kernel
theorem dX7_hunter_77 : decode cX7_hunter 77 = .ok (.aload_n 0, 1) := by decide +kernel
theorem dX7_hunter_78 : decode cX7_hunter 78 = .ok (.getfield 26, 3) := by decide +kernel
theorem dX7_hunter_81 : decode cX7_hunter 81 = .ok (.getfield 165, 3) := by decide +kernel
theorem dX7_hunter_84 : decode cX7_hunter 84 = .ok (.iload_n 1, 1) := by decide +kernel
theorem dX7_hunter_85 : decode cX7_hunter 85 = .ok (.invokestatic 175, 3) := by decide +kernel
theorem dX7_hunter_88 : decode cX7_hunter 88 = .ok (.invokevirtual 134, 3) := by decide +kernel
theorem dX7_hunter_91 : decode cX7_hunter 91 = .ok (.ireturn, 1) := by decide +kernel
theorem dX7_hunter_92 : decode cX7_hunter 92 = .ok (.aload_n 0, 1) := by decide +kernel
theorem dX7_hunter_93 : decode cX7_hunter 93 = .ok (.aload_n 0, 1) := by decide +kernel
theorem dX7_hunter_94 : decode cX7_hunter 94 = .ok (.getfield 26, 3) := by decide +kernel
theorem dX7_hunter_97 : decode cX7_hunter 97 = .ok (.getfield 179, 3) := by decide +kernel
theorem dX7_hunter_100 : decode cX7_hunter 100 = .ok (.iload_n 1, 1) := by decide +kernel
theorem dX7_hunter_101 : decode cX7_hunter 101 = .ok (.invokestatic 175, 3) := by decide +kernel
theorem dX7_hunter_104 : decode cX7_hunter 104 = .ok (.invokevirtual 134, 3) := by decide +kernel
theorem dX7_hunter_107 : decode cX7_hunter 107 = .ok (.ireturn, 1) := by decide +kernel
theorem dX7_hunter_108 : decode cX7_hunter 108 = .ok (.aload_n 0, 1) := by decide +kernel
theorem dX7_hunter_109 : decode cX7_hunter 109 = .ok (.aload_n 0, 1) := by decide +kernel
theorem dX7_hunter_110 : decode cX7_hunter 110 = .ok (.getfield 40, 3) := by decide +kernel
theorem dX7_hunter_113 : decode cX7_hunter 113 = .ok (.getfield 182, 3) := by decide +kernel
theorem dX7_hunter_116 : decode cX7_hunter 116 = .ok (.iload_n 1, 1) := by decide +kernel
theorem dX7_hunter_117 : decode cX7_hunter 117 = .ok (.invokestatic 175, 3) := by decide +kernel
theorem dX7_hunter_120 : decode cX7_hunter 120 = .ok (.invokevirtual 134, 3) := by decide +kernel
theorem dX7_hunter_123 : decode cX7_hunter 123 = .ok (.ireturn, 1) := by decide +kernel
theorem dX7_hunter_124 : decode cX7_hunter 124 = .ok (.aload_n 0, 1) := by decide +kernel
theorem dX7_hunter_125 : decode cX7_hunter 125 = .ok (.aload_n 0, 1) := by decide +kernel
theorem dX7_hunter_126 : decode cX7_hunter 126 = .ok (.getfield 26, 3) := by decide +kernel
theorem dX7_hunter_129 : decode cX7_hunter 129 = .ok (.getfield 185, 3) := by decide +kernel
theorem dX7_hunter_132 : decode cX7_hunter 132 = .ok (.iload_n 1, 1) := by decide +kernel
theorem dX7_hunter_133 : decode cX7_hunter 133 = .ok (.invokestatic 175, 3) := by decide +kernel
theorem dX7_hunter_136 : decode cX7_hunter 136 = .ok (.invokevirtual 134, 3) := by decide +kernel
theorem dX7_hunter_139 : decode cX7_hunter 139 = .ok (.ireturn, 1) := by decide +kernel
theorem dX7_unit_0 : decode cX7_unit 0 = .ok (.iload_n 2, 1) := by decide +kernel
theorem dX7_unit_1 : decode cX7_unit 1 = .ok (.ifCond .lt 8, 3) := by decide +kernel
theorem dX7_unit_4 : decode cX7_unit 4 = .ok (.iload_n 2, 1) := by decide +kernel
theorem dX7_unit_5 : decode cX7_unit 5 = .ok (.iconst 5, 1) := by decide +kernel
theorem dX7_unit_6 : decode cX7_unit 6 = .ok (.if_icmp .le 9, 3) := by decide +kernel
theorem dX7_unit_9 : decode cX7_unit 9 = .ok (.aload_n 0, 1) := by decide +kernel
theorem dX7_unit_10 : decode cX7_unit 10 = .ok (.iconst 1, 1) := by decide +kernel
theorem dX7_unit_11 : decode cX7_unit 11 = .ok (.invokevirtual 102, 3) := by decide +kernel
theorem dX7_unit_14 : decode cX7_unit 14 = .ok (.ireturn, 1) := by decide +kernel
theorem dX7_unit_15 : decode cX7_unit 15 = .ok (.aload_n 0, 1) := by decide +kernel
theorem dX7_unit_16 : decode cX7_unit 16 = .ok (.iload_n 1, 1) := by decide +kernel
theorem dX7_unit_17 : decode cX7_unit 17 = .ok (.invokevirtual 188, 3) := by decide +kernel
theorem dX7_unit_20 : decode cX7_unit 20 = .ok (.ifCond .ne 9, 3) := by decide +kernel
theorem dX7_unit_23 : decode cX7_unit 23 = .ok (.aload_n 0, 1) := by decide +kernel
theorem dX7_unit_24 : decode cX7_unit 24 = .ok (.iconst 2, 1) := by decide +kernel
theorem dX7_unit_25 : decode cX7_unit 25 = .ok (.invokevirtual 102, 3) := by decide +kernel
theorem dX7_unit_28 : decode cX7_unit 28 = .ok (.ireturn, 1) := by decide +kernel
theorem dX7_unit_29 : decode cX7_unit 29 = .ok (.iload_n 2, 1) := by decide +kernel
theorem dX7_unit_30 : decode cX7_unit 30 = .ok (.tableswitch 108 0 4 #[34, 50, 66, 82, 95], 34) := by decide +kernel
theorem dX7_unit_64 : decode cX7_unit 64 = .ok (.aload_n 0, 1) := by decide +kernel
theorem dX7_unit_65 : decode cX7_unit 65 = .ok (.aload_n 0, 1) := by decide +kernel
theorem dX7_unit_66 : decode cX7_unit 66 = .ok (.getfield 26, 3) := by decide +kernel
theorem dX7_unit_69 : decode cX7_unit 69 = .ok (.getfield 158, 3) := by decide +kernel
theorem dX7_unit_72 : decode cX7_unit 72 = .ok (.iload_n 1, 1) := by decide +kernel
theorem dX7_unit_73 : decode cX7_unit 73 = .ok (.invokestatic 175, 3) := by decide +kernel
theorem dX7_unit_76 : decode cX7_unit 76 = .ok (.invokevirtual 134, 3) := by decide +kernel
theorem dX7_unit_79 : decode cX7_unit 79 = .ok (.ireturn, 1) := by decide +kernel
theorem dX7_unit_80 : decode cX7_unit 80 = .ok (.aload_n 0, 1) := by decide +kernel
theorem dX7_unit_81 : decode cX7_unit 81 = .ok (.aload_n 0, 1) := by decide +kernel
theorem dX7_unit_82 : decode cX7_unit 82 = .ok (.getfield 40, 3) := by decide +kernel
theorem dX7_unit_85 : decode cX7_unit 85 = .ok (.getfield 191, 3) := by decide +kernel
theorem dX7_unit_88 : decode cX7_unit 88 = .ok (.iload_n 1, 1) := by decide +kernel
theorem dX7_unit_89 : decode cX7_unit 89 = .ok (.invokestatic 175, 3) := by decide +kernel
theorem dX7_unit_92 : decode cX7_unit 92 = .ok (.invokevirtual 134, 3) := by decide +kernel
theorem dX7_unit_95 : decode cX7_unit 95 = .ok (.ireturn, 1) := by decide +kernel
theorem dX7_unit_96 : decode cX7_unit 96 = .ok (.aload_n 0, 1) := by decide +kernel
theorem dX7_unit_97 : decode cX7_unit 97 = .ok (.aload_n 0, 1) := by decide +kernel
theorem dX7_unit_98 : decode cX7_unit 98 = .ok (.getfield 40, 3) := by decide +kernel
theorem dX7_unit_101 : decode cX7_unit 101 = .ok (.getfield 194, 3) := by decide +kernel
theorem dX7_unit_104 : decode cX7_unit 104 = .ok (.iload_n 1, 1) := by decide +kernel
theorem dX7_unit_105 : decode cX7_unit 105 = .ok (.invokestatic 175, 3) := by decide +kernel
theorem dX7_unit_108 : decode cX7_unit 108 = .ok (.invokevirtual 134, 3) := by decide +kernel
theorem dX7_unit_111 : decode cX7_unit 111 = .ok (.ireturn, 1) := by decide +kernel
theorem dX7_unit_112 : decode cX7_unit 112 = .ok (.aload_n 0, 1) := by decide +kernel
theorem dX7_unit_113 : decode cX7_unit 113 = .ok (.aload_n 0, 1) := by decide +kernel
theorem dX7_unit_114 : decode cX7_unit 114 = .ok (.getfield 40, 3) := by decide +kernel
theorem dX7_unit_117 : decode cX7_unit 117 = .ok (.iload_n 1, 1) := by decide +kernel
theorem dX7_unit_118 : decode cX7_unit 118 = .ok (.invokevirtual 197, 3) := by decide +kernel
theorem dX7_unit_121 : decode cX7_unit 121 = .ok (.invokevirtual 134, 3) := by decide +kernel
theorem dX7_unit_124 : decode cX7_unit 124 = .ok (.ireturn, 1) := by decide +kernel
theorem dX7_unit_125 : decode cX7_unit 125 = .ok (.aload_n 0, 1) := by decide +kernel
theorem dX7_unit_126 : decode cX7_unit 126 = .ok (.aload_n 0, 1) := by decide +kernel
theorem dX7_unit_127 : decode cX7_unit 127 = .ok (.getfield 40, 3) := by decide +kernel
theorem dX7_unit_130 : decode cX7_unit 130 = .ok (.iload_n 1, 1) := by decide +kernel
theorem dX7_unit_131 : decode cX7_unit 131 = .ok (.invokevirtual 200, 3) := by decide +kernel
theorem dX7_unit_134 : decode cX7_unit 134 = .ok (.invokevirtual 134, 3) := by decide +kernel
theorem dX7_unit_137 : decode cX7_unit 137 = .ok (.ireturn, 1) := by decide +kernel
theorem dX7_unit_138 : decode cX7_unit 138 = .ok (.aload_n 0, 1) := by decide +kernel
theorem dX7_unit_139 : decode cX7_unit 139 = .ok (.aload_n 0, 1) := by decide +kernel
theorem dX7_unit_140 : decode cX7_unit 140 = .ok (.getfield 40, 3) := by decide +kernel
theorem dX7_unit_143 : decode cX7_unit 143 = .ok (.iload_n 1, 1) := by decide +kernel
theorem dX7_unit_144 : decode cX7_unit 144 = .ok (.invokevirtual 203, 3) := by decide +kernel
theorem dX7_unit_147 : decode cX7_unit 147 = .ok (.invokevirtual 134, 3) := by decide +kernel
theorem dX7_unit_150 : decode cX7_unit 150 = .ok (.ireturn, 1) := by decide +kernel
theorem dX7_applicant_0 : decode cX7_applicant 0 = .ok (.iload_n 2, 1) := by decide +kernel
theorem dX7_applicant_1 : decode cX7_applicant 1 = .ok (.ifCond .lt 9, 3) := by decide +kernel
theorem dX7_applicant_4 : decode cX7_applicant 4 = .ok (.iload_n 2, 1) := by decide +kernel
theorem dX7_applicant_5 : decode cX7_applicant 5 = .ok (.bipush 6, 2) := by decide +kernel
theorem dX7_applicant_7 : decode cX7_applicant 7 = .ok (.if_icmp .le 9, 3) := by decide +kernel
theorem dX7_applicant_10 : decode cX7_applicant 10 = .ok (.aload_n 0, 1) := by decide +kernel
theorem dX7_applicant_11 : decode cX7_applicant 11 = .ok (.iconst 1, 1) := by decide +kernel
theorem dX7_applicant_12 : decode cX7_applicant 12 = .ok (.invokevirtual 102, 3) := by decide +kernel
theorem dX7_applicant_15 : decode cX7_applicant 15 = .ok (.ireturn, 1) := by decide +kernel
theorem dX7_applicant_16 : decode cX7_applicant 16 = .ok (.aload_n 0, 1) := by decide +kernel
theorem dX7_applicant_17 : decode cX7_applicant 17 = .ok (.iload_n 1, 1) := by decide +kernel
theorem dX7_applicant_18 : decode cX7_applicant 18 = .ok (.invokevirtual 206, 3) := by decide +kernel
theorem dX7_applicant_21 : decode cX7_applicant 21 = .ok (.ifCond .ne 9, 3) := by decide +kernel
theorem dX7_applicant_24 : decode cX7_applicant 24 = .ok (.aload_n 0, 1) := by decide +kernel
theorem dX7_applicant_25 : decode cX7_applicant 25 = .ok (.iconst 2, 1) := by decide +kernel
theorem dX7_applicant_26 : decode cX7_applicant 26 = .ok (.invokevirtual 102, 3) := by decide +kernel
theorem dX7_applicant_29 : decode cX7_applicant 29 = .ok (.ireturn, 1) := by decide +kernel
theorem dX7_applicant_30 : decode cX7_applicant 30 = .ok (.iload_n 2, 1) := by decide +kernel
theorem dX7_applicant_31 : decode cX7_applicant 31 = .ok (.tableswitch 133 0 5 #[37, 53, 69, 85, 101, 117], 37) := by decide +kernel
theorem dX7_applicant_68 : decode cX7_applicant 68 = .ok (.aload_n 0, 1) := by decide +kernel
theorem dX7_applicant_69 : decode cX7_applicant 69 = .ok (.aload_n 0, 1) := by decide +kernel
theorem dX7_applicant_70 : decode cX7_applicant 70 = .ok (.getfield 40, 3) := by decide +kernel
theorem dX7_applicant_73 : decode cX7_applicant 73 = .ok (.getfield 209, 3) := by decide +kernel
theorem dX7_applicant_76 : decode cX7_applicant 76 = .ok (.iload_n 1, 1) := by decide +kernel
theorem dX7_applicant_77 : decode cX7_applicant 77 = .ok (.invokestatic 175, 3) := by decide +kernel
theorem dX7_applicant_80 : decode cX7_applicant 80 = .ok (.invokevirtual 134, 3) := by decide +kernel
theorem dX7_applicant_83 : decode cX7_applicant 83 = .ok (.ireturn, 1) := by decide +kernel
theorem dX7_applicant_84 : decode cX7_applicant 84 = .ok (.aload_n 0, 1) := by decide +kernel
theorem dX7_applicant_85 : decode cX7_applicant 85 = .ok (.aload_n 0, 1) := by decide +kernel
theorem dX7_applicant_86 : decode cX7_applicant 86 = .ok (.getfield 40, 3) := by decide +kernel
theorem dX7_applicant_89 : decode cX7_applicant 89 = .ok (.getfield 212, 3) := by decide +kernel
theorem dX7_applicant_92 : decode cX7_applicant 92 = .ok (.iload_n 1, 1) := by decide +kernel
theorem dX7_applicant_93 : decode cX7_applicant 93 = .ok (.invokestatic 175, 3) := by decide +kernel
theorem dX7_applicant_96 : decode cX7_applicant 96 = .ok (.invokevirtual 134, 3) := by decide +kernel
theorem dX7_applicant_99 : decode cX7_applicant 99 = .ok (.ireturn, 1) := by decide +kernel
theorem dX7_applicant_100 : decode cX7_applicant 100 = .ok (.aload_n 0, 1) := by decide +kernel
theorem dX7_applicant_101 : decode cX7_applicant 101 = .ok (.aload_n 0, 1) := by decide +kernel
theorem dX7_applicant_102 : decode cX7_applicant 102 = .ok (.getfield 40, 3) := by decide +kernel
theorem dX7_applicant_105 : decode cX7_applicant 105 = .ok (.getfield 215, 3) := by decide +kernel
theorem dX7_applicant_108 : decode cX7_applicant 108 = .ok (.iload_n 1, 1) := by decide +kernel
theorem dX7_applicant_109 : decode cX7_applicant 109 = .ok (.invokestatic 175, 3) := by decide +kernel
theorem dX7_applicant_112 : decode cX7_applicant 112 = .ok (.invokevirtual 134, 3) := by decide +kernel
theorem dX7_applicant_115 : decode cX7_applicant 115 = .ok (.ireturn, 1) := by decide +kernel
theorem dX7_applicant_116 : decode cX7_applicant 116 = .ok (.aload_n 0, 1) := by decide +kernel
theorem dX7_applicant_117 : decode cX7_applicant 117 = .ok (.aload_n 0, 1) := by decide +kernel
theorem dX7_applicant_118 : decode cX7_applicant 118 = .ok (.getfield 40, 3) := by decide +kernel
theorem dX7_applicant_121 : decode cX7_applicant 121 = .ok (.getfield 216, 3) := by decide +kernel
theorem dX7_applicant_124 : decode cX7_applicant 124 = .ok (.iload_n 1, 1) := by decide +kernel
theorem dX7_applicant_125 : decode cX7_applicant 125 = .ok (.invokestatic 175, 3) := by decide +kernel
theorem dX7_applicant_128 : decode cX7_applicant 128 = .ok (.invokevirtual 134, 3) := by decide +kernel
theorem dX7_applicant_131 : decode cX7_applicant 131 = .ok (.ireturn, 1) := by decide +kernel
theorem dX7_applicant_132 : decode cX7_applicant 132 = .ok (.aload_n 0, 1) := by decide +kernel
theorem dX7_applicant_133 : decode cX7_applicant 133 = .ok (.aload_n 0, 1) := by decide +kernel
theorem dX7_applicant_134 : decode cX7_applicant 134 = .ok (.getfield 40, 3) := by decide +kernel
theorem dX7_applicant_137 : decode cX7_applicant 137 = .ok (.getfield 219, 3) := by decide +kernel
theorem dX7_applicant_140 : decode cX7_applicant 140 = .ok (.iload_n 1, 1) := by decide +kernel
theorem dX7_applicant_141 : decode cX7_applicant 141 = .ok (.invokestatic 175, 3) := by decide +kernel
theorem dX7_applicant_144 : decode cX7_applicant 144 = .ok (.invokevirtual 134, 3) := by decide +kernel
theorem dX7_applicant_147 : decode cX7_applicant 147 = .ok (.ireturn, 1) := by decide +kernel
theorem dX7_applicant_148 : decode cX7_applicant 148 = .ok (.aload_n 0, 1) := by decide +kernel
theorem dX7_applicant_149 : decode cX7_applicant 149 = .ok (.aload_n 0, 1) := by decide +kernel
theorem dX7_applicant_150 : decode cX7_applicant 150 = .ok (.getfield 40, 3) := by decide +kernel
theorem dX7_applicant_153 : decode cX7_applicant 153 = .ok (.getfield 222, 3) := by decide +kernel
theorem dX7_applicant_156 : decode cX7_applicant 156 = .ok (.iload_n 1, 1) := by decide +kernel
theorem dX7_applicant_157 : decode cX7_applicant 157 = .ok (.invokestatic 175, 3) := by decide +kernel
theorem dX7_applicant_160 : decode cX7_applicant 160 = .ok (.invokevirtual 134, 3) := by decide +kernel
theorem dX7_applicant_163 : decode cX7_applicant 163 = .ok (.ireturn, 1) := by decide +kernel
theorem dX7_applicant_164 : decode cX7_applicant 164 = .ok (.aload_n 0, 1) := by decide +kernel
theorem dX7_applicant_165 : decode cX7_applicant 165 = .ok (.aload_n 0, 1) := by decide +kernel
theorem dX7_applicant_166 : decode cX7_applicant 166 = .ok (.getfield 40, 3) := by decide +kernel
theorem dX7_applicant_169 : decode cX7_applicant 169 = .ok (.getfield 225, 3) := by decide +kernel
theorem dX7_applicant_172 : decode cX7_applicant 172 = .ok (.iload_n 1, 1) := by decide +kernel
theorem dX7_applicant_173 : decode cX7_applicant 173 = .ok (.invokestatic 175, 3) := by decide +kernel
theorem dX7_applicant_176 : decode cX7_applicant 176 = .ok (.invokevirtual 134, 3) := by decide +kernel
theorem dX7_applicant_179 : decode cX7_applicant 179 = .ok (.ireturn, 1) := by decide +kernel
theorem dX7_choice_0 : decode cX7_choice 0 = .ok (.iload_n 2, 1) := by decide +kernel
theorem dX7_choice_1 : decode cX7_choice 1 = .ok (.ifCond .ge 9, 3) := by decide +kernel
theorem dX7_choice_4 : decode cX7_choice 4 = .ok (.aload_n 0, 1) := by decide +kernel
theorem dX7_choice_5 : decode cX7_choice 5 = .ok (.iconst 1, 1) := by decide +kernel
theorem dX7_choice_6 : decode cX7_choice 6 = .ok (.invokevirtual 102, 3) := by decide +kernel
theorem dX7_choice_9 : decode cX7_choice 9 = .ok (.ireturn, 1) := by decide +kernel
theorem dX7_choice_10 : decode cX7_choice 10 = .ok (.aload_n 0, 1) := by decide +kernel
theorem dX7_choice_11 : decode cX7_choice 11 = .ok (.iload_n 1, 1) := by decide +kernel
theorem dX7_choice_12 : decode cX7_choice 12 = .ok (.invokevirtual 206, 3) := by decide +kernel
theorem dX7_choice_15 : decode cX7_choice 15 = .ok (.ifCond .ne 9, 3) := by decide +kernel
theorem dX7_choice_18 : decode cX7_choice 18 = .ok (.aload_n 0, 1) := by decide +kernel
theorem dX7_choice_19 : decode cX7_choice 19 = .ok (.iconst 2, 1) := by decide +kernel
theorem dX7_choice_20 : decode cX7_choice 20 = .ok (.invokevirtual 102, 3) := by decide +kernel
theorem dX7_choice_23 : decode cX7_choice 23 = .ok (.ireturn, 1) := by decide +kernel
theorem dX7_choice_24 : decode cX7_choice 24 = .ok (.iload_n 2, 1) := by decide +kernel
theorem dX7_choice_25 : decode cX7_choice 25 = .ok (.aload_n 0, 1) := by decide +kernel
theorem dX7_choice_26 : decode cX7_choice 26 = .ok (.getfield 40, 3) := by decide +kernel
theorem dX7_choice_29 : decode cX7_choice 29 = .ok (.getfield 219, 3) := by decide +kernel
theorem dX7_choice_32 : decode cX7_choice 32 = .ok (.iload_n 1, 1) := by decide +kernel
theorem dX7_choice_33 : decode cX7_choice 33 = .ok (.invokestatic 175, 3) := by decide +kernel
theorem dX7_choice_36 : decode cX7_choice 36 = .ok (.if_icmp .lt 9, 3) := by decide +kernel
theorem dX7_choice_39 : decode cX7_choice 39 = .ok (.aload_n 0, 1) := by decide +kernel
theorem dX7_choice_40 : decode cX7_choice 40 = .ok (.iconst 5, 1) := by decide +kernel
theorem dX7_choice_41 : decode cX7_choice 41 = .ok (.invokevirtual 102, 3) := by decide +kernel
theorem dX7_choice_44 : decode cX7_choice 44 = .ok (.ireturn, 1) := by decide +kernel
theorem dX7_choice_45 : decode cX7_choice 45 = .ok (.aload_n 0, 1) := by decide +kernel
theorem dX7_choice_46 : decode cX7_choice 46 = .ok (.aload_n 0, 1) := by decide +kernel
theorem dX7_choice_47 : decode cX7_choice 47 = .ok (.getfield 40, 3) := by decide +kernel
theorem dX7_choice_50 : decode cX7_choice 50 = .ok (.iload_n 1, 1) := by decide +kernel
theorem dX7_choice_51 : decode cX7_choice 51 = .ok (.iload_n 2, 1) := by decide +kernel
theorem dX7_choice_52 : decode cX7_choice 52 = .ok (.invokevirtual 226, 3) := by decide +kernel
theorem dX7_choice_55 : decode cX7_choice 55 = .ok (.invokevirtual 134, 3) := by decide +kernel
theorem dX7_choice_58 : decode cX7_choice 58 = .ok (.ireturn, 1) := by decide +kernel
theorem dX7_demand_0 : decode cX7_demand 0 = .ok (.iload_n 2, 1) := by decide +kernel
theorem dX7_demand_1 : decode cX7_demand 1 = .ok (.ifCond .lt 8, 3) := by decide +kernel
theorem dX7_demand_4 : decode cX7_demand 4 = .ok (.iload_n 2, 1) := by decide +kernel
theorem dX7_demand_5 : decode cX7_demand 5 = .ok (.iconst 1, 1) := by decide +kernel
theorem dX7_demand_6 : decode cX7_demand 6 = .ok (.if_icmp .le 9, 3) := by decide +kernel
theorem dX7_demand_9 : decode cX7_demand 9 = .ok (.aload_n 0, 1) := by decide +kernel
theorem dX7_demand_10 : decode cX7_demand 10 = .ok (.iconst 1, 1) := by decide +kernel
theorem dX7_demand_11 : decode cX7_demand 11 = .ok (.invokevirtual 102, 3) := by decide +kernel
theorem dX7_demand_14 : decode cX7_demand 14 = .ok (.ireturn, 1) := by decide +kernel
theorem dX7_demand_15 : decode cX7_demand 15 = .ok (.aload_n 0, 1) := by decide +kernel
theorem dX7_demand_16 : decode cX7_demand 16 = .ok (.iload_n 1, 1) := by decide +kernel
theorem dX7_demand_17 : decode cX7_demand 17 = .ok (.invokevirtual 188, 3) := by decide +kernel
theorem dX7_demand_20 : decode cX7_demand 20 = .ok (.ifCond .ne 9, 3) := by decide +kernel
theorem dX7_demand_23 : decode cX7_demand 23 = .ok (.aload_n 0, 1) := by decide +kernel
theorem dX7_demand_24 : decode cX7_demand 24 = .ok (.iconst 2, 1) := by decide +kernel
theorem dX7_demand_25 : decode cX7_demand 25 = .ok (.invokevirtual 102, 3) := by decide +kernel
theorem dX7_demand_28 : decode cX7_demand 28 = .ok (.ireturn, 1) := by decide +kernel
theorem dX7_demand_29 : decode cX7_demand 29 = .ok (.aload_n 0, 1) := by decide +kernel
theorem dX7_demand_30 : decode cX7_demand 30 = .ok (.getfield 26, 3) := by decide +kernel
theorem dX7_demand_33 : decode cX7_demand 33 = .ok (.getfield 158, 3) := by decide +kernel
theorem dX7_demand_36 : decode cX7_demand 36 = .ok (.iload_n 1, 1) := by decide +kernel
theorem dX7_demand_37 : decode cX7_demand 37 = .ok (.invokestatic 175, 3) := by decide +kernel
theorem dX7_demand_40 : decode cX7_demand 40 = .ok (.ifCond .ne 9, 3) := by decide +kernel
theorem dX7_demand_43 : decode cX7_demand 43 = .ok (.aload_n 0, 1) := by decide +kernel
theorem dX7_demand_44 : decode cX7_demand 44 = .ok (.iconst 5, 1) := by decide +kernel
theorem dX7_demand_45 : decode cX7_demand 45 = .ok (.invokevirtual 102, 3) := by decide +kernel
theorem dX7_demand_48 : decode cX7_demand 48 = .ok (.ireturn, 1) := by decide +kernel
theorem dX7_demand_49 : decode cX7_demand 49 = .ok (.aload_n 0, 1) := by decide +kernel
theorem dX7_demand_50 : decode cX7_demand 50 = .ok (.aload_n 0, 1) := by decide +kernel
theorem dX7_demand_51 : decode cX7_demand 51 = .ok (.getfield 40, 3) := by decide +kernel
theorem dX7_demand_54 : decode cX7_demand 54 = .ok (.iload_n 1, 1) := by decide +kernel
theorem dX7_demand_55 : decode cX7_demand 55 = .ok (.invokevirtual 200, 3) := by decide +kernel
theorem dX7_demand_58 : decode cX7_demand 58 = .ok (.aload_n 0, 1) := by decide +kernel
theorem dX7_demand_59 : decode cX7_demand 59 = .ok (.getfield 26, 3) := by decide +kernel
theorem dX7_demand_62 : decode cX7_demand 62 = .ok (.getfield 158, 3) := by decide +kernel
theorem dX7_demand_65 : decode cX7_demand 65 = .ok (.iload_n 1, 1) := by decide +kernel
theorem dX7_demand_66 : decode cX7_demand 66 = .ok (.invokestatic 175, 3) := by decide +kernel
theorem dX7_demand_69 : decode cX7_demand 69 = .ok (.iload_n 2, 1) := by decide +kernel
theorem dX7_demand_70 : decode cX7_demand 70 = .ok (.invokestatic 230, 3) := by decide +kernel
theorem dX7_demand_73 : decode cX7_demand 73 = .ok (.invokevirtual 134, 3) := by decide +kernel
theorem dX7_demand_76 : decode cX7_demand 76 = .ok (.ireturn, 1) := by decide +kernel
theorem dX7_share_0 : decode cX7_share 0 = .ok (.iload_n 2, 1) := by decide +kernel
theorem dX7_share_1 : decode cX7_share 1 = .ok (.ifCond .lt 8, 3) := by decide +kernel
theorem dX7_share_4 : decode cX7_share 4 = .ok (.iload_n 2, 1) := by decide +kernel
theorem dX7_share_5 : decode cX7_share 5 = .ok (.iconst 1, 1) := by decide +kernel
theorem dX7_share_6 : decode cX7_share 6 = .ok (.if_icmp .le 9, 3) := by decide +kernel
theorem dX7_share_9 : decode cX7_share 9 = .ok (.aload_n 0, 1) := by decide +kernel
theorem dX7_share_10 : decode cX7_share 10 = .ok (.iconst 1, 1) := by decide +kernel
theorem dX7_share_11 : decode cX7_share 11 = .ok (.invokevirtual 102, 3) := by decide +kernel
theorem dX7_share_14 : decode cX7_share 14 = .ok (.ireturn, 1) := by decide +kernel
theorem dX7_share_15 : decode cX7_share 15 = .ok (.aload_n 0, 1) := by decide +kernel
theorem dX7_share_16 : decode cX7_share 16 = .ok (.iload_n 1, 1) := by decide +kernel
theorem dX7_share_17 : decode cX7_share 17 = .ok (.invokevirtual 206, 3) := by decide +kernel
theorem dX7_share_20 : decode cX7_share 20 = .ok (.ifCond .ne 9, 3) := by decide +kernel
theorem dX7_share_23 : decode cX7_share 23 = .ok (.aload_n 0, 1) := by decide +kernel
theorem dX7_share_24 : decode cX7_share 24 = .ok (.iconst 2, 1) := by decide +kernel
theorem dX7_share_25 : decode cX7_share 25 = .ok (.invokevirtual 102, 3) := by decide +kernel
theorem dX7_share_28 : decode cX7_share 28 = .ok (.ireturn, 1) := by decide +kernel
theorem dX7_share_29 : decode cX7_share 29 = .ok (.aload_n 0, 1) := by decide +kernel
theorem dX7_share_30 : decode cX7_share 30 = .ok (.aload_n 0, 1) := by decide +kernel
theorem dX7_share_31 : decode cX7_share 31 = .ok (.getfield 40, 3) := by decide +kernel
theorem dX7_share_34 : decode cX7_share 34 = .ok (.getfield 216, 3) := by decide +kernel
theorem dX7_share_37 : decode cX7_share 37 = .ok (.iload_n 1, 1) := by decide +kernel
theorem dX7_share_38 : decode cX7_share 38 = .ok (.invokestatic 175, 3) := by decide +kernel
theorem dX7_share_41 : decode cX7_share 41 = .ok (.aload_n 0, 1) := by decide +kernel
theorem dX7_share_42 : decode cX7_share 42 = .ok (.getfield 40, 3) := by decide +kernel
theorem dX7_share_45 : decode cX7_share 45 = .ok (.getfield 234, 3) := by decide +kernel
theorem dX7_share_48 : decode cX7_share 48 = .ok (.iload_n 2, 1) := by decide +kernel
theorem dX7_share_49 : decode cX7_share 49 = .ok (.invokestatic 230, 3) := by decide +kernel
theorem dX7_share_52 : decode cX7_share 52 = .ok (.invokevirtual 134, 3) := by decide +kernel
theorem dX7_share_55 : decode cX7_share 55 = .ok (.ireturn, 1) := by decide +kernel
theorem dX7_order_0 : decode cX7_order 0 = .ok (.iload_n 1, 1) := by decide +kernel
theorem dX7_order_1 : decode cX7_order 1 = .ok (.invokestatic 237, 3) := by decide +kernel
theorem dX7_order_4 : decode cX7_order 4 = .ok (.ifCond .eq 7, 3) := by decide +kernel
theorem dX7_order_7 : decode cX7_order 7 = .ok (.iload_n 2, 1) := by decide +kernel
theorem dX7_order_8 : decode cX7_order 8 = .ok (.ifCond .ge 9, 3) := by decide +kernel
theorem dX7_order_11 : decode cX7_order 11 = .ok (.aload_n 0, 1) := by decide +kernel
theorem dX7_order_12 : decode cX7_order 12 = .ok (.iconst 1, 1) := by decide +kernel
theorem dX7_order_13 : decode cX7_order 13 = .ok (.invokevirtual 102, 3) := by decide +kernel
theorem dX7_order_16 : decode cX7_order 16 = .ok (.ireturn, 1) := by decide +kernel
theorem dX7_order_17 : decode cX7_order 17 = .ok (.iload_n 2, 1) := by decide +kernel
theorem dX7_order_18 : decode cX7_order 18 = .ok (.aload_n 0, 1) := by decide +kernel
theorem dX7_order_19 : decode cX7_order 19 = .ok (.getfield 40, 3) := by decide +kernel
theorem dX7_order_22 : decode cX7_order 22 = .ok (.getfield 140, 3) := by decide +kernel
theorem dX7_order_25 : decode cX7_order 25 = .ok (.if_icmp .lt 9, 3) := by decide +kernel
theorem dX7_order_28 : decode cX7_order 28 = .ok (.aload_n 0, 1) := by decide +kernel
theorem dX7_order_29 : decode cX7_order 29 = .ok (.iconst 5, 1) := by decide +kernel
theorem dX7_order_30 : decode cX7_order 30 = .ok (.invokevirtual 102, 3) := by decide +kernel
theorem dX7_order_33 : decode cX7_order 33 = .ok (.ireturn, 1) := by decide +kernel
theorem dX7_order_34 : decode cX7_order 34 = .ok (.aload_n 0, 1) := by decide +kernel
theorem dX7_order_35 : decode cX7_order 35 = .ok (.getfield 47, 3) := by decide +kernel
theorem dX7_order_38 : decode cX7_order 38 = .ok (.aload_n 0, 1) := by decide +kernel
theorem dX7_order_39 : decode cX7_order 39 = .ok (.getfield 40, 3) := by decide +kernel
theorem dX7_order_42 : decode cX7_order 42 = .ok (.iload_n 1, 1) := by decide +kernel
theorem dX7_order_43 : decode cX7_order 43 = .ok (.invokevirtual 240, 3) := by decide +kernel
theorem dX7_order_46 : decode cX7_order 46 = .ok (.aload_n 0, 1) := by decide +kernel
theorem dX7_order_47 : decode cX7_order 47 = .ok (.aload_n 0, 1) := by decide +kernel
theorem dX7_order_48 : decode cX7_order 48 = .ok (.getfield 47, 3) := by decide +kernel
theorem dX7_order_51 : decode cX7_order 51 = .ok (.getfield 244, 3) := by decide +kernel
theorem dX7_order_54 : decode cX7_order 54 = .ok (.iload_n 2, 1) := by decide +kernel
theorem dX7_order_55 : decode cX7_order 55 = .ok (.invokestatic 175, 3) := by decide +kernel
theorem dX7_order_58 : decode cX7_order 58 = .ok (.invokevirtual 134, 3) := by decide +kernel
theorem dX7_order_61 : decode cX7_order 61 = .ok (.ireturn, 1) := by decide +kernel
theorem dX7_drawn_0 : decode cX7_drawn 0 = .ok (.iload_n 1, 1) := by decide +kernel
theorem dX7_drawn_1 : decode cX7_drawn 1 = .ok (.invokestatic 237, 3) := by decide +kernel
theorem dX7_drawn_4 : decode cX7_drawn 4 = .ok (.ifCond .ne 9, 3) := by decide +kernel
theorem dX7_drawn_7 : decode cX7_drawn 7 = .ok (.aload_n 0, 1) := by decide +kernel
theorem dX7_drawn_8 : decode cX7_drawn 8 = .ok (.iconst 1, 1) := by decide +kernel
theorem dX7_drawn_9 : decode cX7_drawn 9 = .ok (.invokevirtual 102, 3) := by decide +kernel
theorem dX7_drawn_12 : decode cX7_drawn 12 = .ok (.ireturn, 1) := by decide +kernel
theorem dX7_drawn_13 : decode cX7_drawn 13 = .ok (.aload_n 0, 1) := by decide +kernel
theorem dX7_drawn_14 : decode cX7_drawn 14 = .ok (.iload_n 2, 1) := by decide +kernel
theorem dX7_drawn_15 : decode cX7_drawn 15 = .ok (.invokevirtual 206, 3) := by decide +kernel
theorem dX7_drawn_18 : decode cX7_drawn 18 = .ok (.ifCond .ne 9, 3) := by decide +kernel
theorem dX7_drawn_21 : decode cX7_drawn 21 = .ok (.aload_n 0, 1) := by decide +kernel
theorem dX7_drawn_22 : decode cX7_drawn 22 = .ok (.iconst 2, 1) := by decide +kernel
theorem dX7_drawn_23 : decode cX7_drawn 23 = .ok (.invokevirtual 102, 3) := by decide +kernel
theorem dX7_drawn_26 : decode cX7_drawn 26 = .ok (.ireturn, 1) := by decide +kernel
theorem dX7_drawn_27 : decode cX7_drawn 27 = .ok (.aload_n 0, 1) := by decide +kernel
theorem dX7_drawn_28 : decode cX7_drawn 28 = .ok (.getfield 47, 3) := by decide +kernel
theorem dX7_drawn_31 : decode cX7_drawn 31 = .ok (.aload_n 0, 1) := by decide +kernel
theorem dX7_drawn_32 : decode cX7_drawn 32 = .ok (.getfield 40, 3) := by decide +kernel
theorem dX7_drawn_35 : decode cX7_drawn 35 = .ok (.iload_n 1, 1) := by decide +kernel
theorem dX7_drawn_36 : decode cX7_drawn 36 = .ok (.invokevirtual 247, 3) := by decide +kernel
theorem dX7_drawn_39 : decode cX7_drawn 39 = .ok (.aload_n 0, 1) := by decide +kernel
theorem dX7_drawn_40 : decode cX7_drawn 40 = .ok (.getfield 47, 3) := by decide +kernel
theorem dX7_drawn_43 : decode cX7_drawn 43 = .ok (.getfield 250, 3) := by decide +kernel
theorem dX7_drawn_46 : decode cX7_drawn 46 = .ok (.iload_n 2, 1) := by decide +kernel
theorem dX7_drawn_47 : decode cX7_drawn 47 = .ok (.invokestatic 175, 3) := by decide +kernel
theorem dX7_drawn_50 : decode cX7_drawn 50 = .ok (.istore_n 3, 1) := by decide +kernel
theorem dX7_drawn_51 : decode cX7_drawn 51 = .ok (.iload_n 3, 1) := by decide +kernel
theorem dX7_drawn_52 : decode cX7_drawn 52 = .ok (.iconst (-1), 1) := by decide +kernel
theorem dX7_drawn_53 : decode cX7_drawn 53 = .ok (.if_icmp .ne 11, 3) := by decide +kernel
theorem dX7_drawn_56 : decode cX7_drawn 56 = .ok (.aload_n 0, 1) := by decide +kernel
theorem dX7_drawn_57 : decode cX7_drawn 57 = .ok (.iconst 5, 1) := by decide +kernel
theorem dX7_drawn_58 : decode cX7_drawn 58 = .ok (.invokevirtual 102, 3) := by decide +kernel
theorem dX7_drawn_61 : decode cX7_drawn 61 = .ok (.goto 8, 3) := by decide +kernel
theorem dX7_drawn_64 : decode cX7_drawn 64 = .ok (.aload_n 0, 1) := by decide +kernel
theorem dX7_drawn_65 : decode cX7_drawn 65 = .ok (.iload_n 3, 1) := by decide +kernel
theorem dX7_drawn_66 : decode cX7_drawn 66 = .ok (.invokevirtual 134, 3) := by decide +kernel
theorem dX7_drawn_69 : decode cX7_drawn 69 = .ok (.ireturn, 1) := by decide +kernel
theorem dX7_round_0 : decode cX7_round 0 = .ok (.iload_n 1, 1) := by decide +kernel
theorem dX7_round_1 : decode cX7_round 1 = .ok (.invokestatic 237, 3) := by decide +kernel
theorem dX7_round_4 : decode cX7_round 4 = .ok (.ifCond .ne 9, 3) := by decide +kernel
theorem dX7_round_7 : decode cX7_round 7 = .ok (.aload_n 0, 1) := by decide +kernel
theorem dX7_round_8 : decode cX7_round 8 = .ok (.iconst 1, 1) := by decide +kernel
theorem dX7_round_9 : decode cX7_round 9 = .ok (.invokevirtual 102, 3) := by decide +kernel
theorem dX7_round_12 : decode cX7_round 12 = .ok (.ireturn, 1) := by decide +kernel
theorem dX7_round_13 : decode cX7_round 13 = .ok (.aload_n 0, 1) := by decide +kernel
theorem dX7_round_14 : decode cX7_round 14 = .ok (.iload_n 2, 1) := by decide +kernel
theorem dX7_round_15 : decode cX7_round 15 = .ok (.invokevirtual 206, 3) := by decide +kernel
theorem dX7_round_18 : decode cX7_round 18 = .ok (.ifCond .ne 9, 3) := by decide +kernel
theorem dX7_round_21 : decode cX7_round 21 = .ok (.aload_n 0, 1) := by decide +kernel
theorem dX7_round_22 : decode cX7_round 22 = .ok (.iconst 2, 1) := by decide +kernel
theorem dX7_round_23 : decode cX7_round 23 = .ok (.invokevirtual 102, 3) := by decide +kernel
theorem dX7_round_26 : decode cX7_round 26 = .ok (.ireturn, 1) := by decide +kernel
theorem dX7_round_27 : decode cX7_round 27 = .ok (.aload_n 0, 1) := by decide +kernel
theorem dX7_round_28 : decode cX7_round 28 = .ok (.getfield 47, 3) := by decide +kernel
theorem dX7_round_31 : decode cX7_round 31 = .ok (.aload_n 0, 1) := by decide +kernel
theorem dX7_round_32 : decode cX7_round 32 = .ok (.getfield 40, 3) := by decide +kernel
theorem dX7_round_35 : decode cX7_round 35 = .ok (.iload_n 1, 1) := by decide +kernel
theorem dX7_round_36 : decode cX7_round 36 = .ok (.invokevirtual 247, 3) := by decide +kernel
theorem dX7_round_39 : decode cX7_round 39 = .ok (.aload_n 0, 1) := by decide +kernel
theorem dX7_round_40 : decode cX7_round 40 = .ok (.getfield 47, 3) := by decide +kernel
theorem dX7_round_43 : decode cX7_round 43 = .ok (.getfield 250, 3) := by decide +kernel
theorem dX7_round_46 : decode cX7_round 46 = .ok (.iload_n 2, 1) := by decide +kernel
theorem dX7_round_47 : decode cX7_round 47 = .ok (.invokestatic 175, 3) := by decide +kernel
theorem dX7_round_50 : decode cX7_round 50 = .ok (.iconst (-1), 1) := by decide +kernel
theorem dX7_round_51 : decode cX7_round 51 = .ok (.if_icmp .ne 11, 3) := by decide +kernel
theorem dX7_round_54 : decode cX7_round 54 = .ok (.aload_n 0, 1) := by decide +kernel
theorem dX7_round_55 : decode cX7_round 55 = .ok (.iconst 5, 1) := by decide +kernel
theorem dX7_round_56 : decode cX7_round 56 = .ok (.invokevirtual 102, 3) := by decide +kernel
theorem dX7_round_59 : decode cX7_round 59 = .ok (.goto 18, 3) := by decide +kernel
theorem dX7_round_62 : decode cX7_round 62 = .ok (.aload_n 0, 1) := by decide +kernel
theorem dX7_round_63 : decode cX7_round 63 = .ok (.aload_n 0, 1) := by decide +kernel
theorem dX7_round_64 : decode cX7_round 64 = .ok (.getfield 47, 3) := by decide +kernel
theorem dX7_round_67 : decode cX7_round 67 = .ok (.getfield 253, 3) := by decide +kernel
theorem dX7_round_70 : decode cX7_round 70 = .ok (.iload_n 2, 1) := by decide +kernel
theorem dX7_round_71 : decode cX7_round 71 = .ok (.invokestatic 175, 3) := by decide +kernel
theorem dX7_round_74 : decode cX7_round 74 = .ok (.invokevirtual 134, 3) := by decide +kernel
theorem dX7_round_77 : decode cX7_round 77 = .ok (.ireturn, 1) := by decide +kernel
theorem dX7_left_0 : decode cX7_left 0 = .ok (.iload_n 1, 1) := by decide +kernel
theorem dX7_left_1 : decode cX7_left 1 = .ok (.invokestatic 237, 3) := by decide +kernel
theorem dX7_left_4 : decode cX7_left 4 = .ok (.ifCond .eq 12, 3) := by decide +kernel
theorem dX7_left_7 : decode cX7_left 7 = .ok (.iload_n 3, 1) := by decide +kernel
theorem dX7_left_8 : decode cX7_left 8 = .ok (.ifCond .lt 8, 3) := by decide +kernel
theorem dX7_left_11 : decode cX7_left 11 = .ok (.iload_n 3, 1) := by decide +kernel
theorem dX7_left_12 : decode cX7_left 12 = .ok (.iconst 3, 1) := by decide +kernel
theorem dX7_left_13 : decode cX7_left 13 = .ok (.if_icmp .le 9, 3) := by decide +kernel
theorem dX7_left_16 : decode cX7_left 16 = .ok (.aload_n 0, 1) := by decide +kernel
theorem dX7_left_17 : decode cX7_left 17 = .ok (.iconst 1, 1) := by decide +kernel
theorem dX7_left_18 : decode cX7_left 18 = .ok (.invokevirtual 102, 3) := by decide +kernel
theorem dX7_left_21 : decode cX7_left 21 = .ok (.ireturn, 1) := by decide +kernel
theorem dX7_left_22 : decode cX7_left 22 = .ok (.aload_n 0, 1) := by decide +kernel
theorem dX7_left_23 : decode cX7_left 23 = .ok (.iload_n 2, 1) := by decide +kernel
theorem dX7_left_24 : decode cX7_left 24 = .ok (.invokevirtual 188, 3) := by decide +kernel
theorem dX7_left_27 : decode cX7_left 27 = .ok (.ifCond .ne 9, 3) := by decide +kernel
theorem dX7_left_30 : decode cX7_left 30 = .ok (.aload_n 0, 1) := by decide +kernel
theorem dX7_left_31 : decode cX7_left 31 = .ok (.iconst 2, 1) := by decide +kernel
theorem dX7_left_32 : decode cX7_left 32 = .ok (.invokevirtual 102, 3) := by decide +kernel
theorem dX7_left_35 : decode cX7_left 35 = .ok (.ireturn, 1) := by decide +kernel
theorem dX7_left_36 : decode cX7_left 36 = .ok (.aload_n 0, 1) := by decide +kernel
theorem dX7_left_37 : decode cX7_left 37 = .ok (.getfield 47, 3) := by decide +kernel
theorem dX7_left_40 : decode cX7_left 40 = .ok (.aload_n 0, 1) := by decide +kernel
theorem dX7_left_41 : decode cX7_left 41 = .ok (.getfield 40, 3) := by decide +kernel
theorem dX7_left_44 : decode cX7_left 44 = .ok (.iload_n 1, 1) := by decide +kernel
theorem dX7_left_45 : decode cX7_left 45 = .ok (.invokevirtual 247, 3) := by decide +kernel
theorem dX7_left_48 : decode cX7_left 48 = .ok (.iload_n 3, 1) := by decide +kernel
theorem dX7_left_49 : decode cX7_left 49 = .ok (.tableswitch 76 0 2 #[27, 43, 59], 27) := by decide +kernel
theorem dX7_left_76 : decode cX7_left 76 = .ok (.aload_n 0, 1) := by decide +kernel
theorem dX7_left_77 : decode cX7_left 77 = .ok (.aload_n 0, 1) := by decide +kernel
theorem dX7_left_78 : decode cX7_left 78 = .ok (.getfield 47, 3) := by decide +kernel
theorem dX7_left_81 : decode cX7_left 81 = .ok (.getfield 256, 3) := by decide +kernel
theorem dX7_left_84 : decode cX7_left 84 = .ok (.iload_n 2, 1) := by decide +kernel
theorem dX7_left_85 : decode cX7_left 85 = .ok (.invokestatic 175, 3) := by decide +kernel
theorem dX7_left_88 : decode cX7_left 88 = .ok (.invokevirtual 134, 3) := by decide +kernel
theorem dX7_left_91 : decode cX7_left 91 = .ok (.ireturn, 1) := by decide +kernel
theorem dX7_left_92 : decode cX7_left 92 = .ok (.aload_n 0, 1) := by decide +kernel
theorem dX7_left_93 : decode cX7_left 93 = .ok (.aload_n 0, 1) := by decide +kernel
theorem dX7_left_94 : decode cX7_left 94 = .ok (.getfield 47, 3) := by decide +kernel
theorem dX7_left_97 : decode cX7_left 97 = .ok (.getfield 259, 3) := by decide +kernel
theorem dX7_left_100 : decode cX7_left 100 = .ok (.iload_n 2, 1) := by decide +kernel
theorem dX7_left_101 : decode cX7_left 101 = .ok (.invokestatic 175, 3) := by decide +kernel
theorem dX7_left_104 : decode cX7_left 104 = .ok (.invokevirtual 134, 3) := by decide +kernel
theorem dX7_left_107 : decode cX7_left 107 = .ok (.ireturn, 1) := by decide +kernel
theorem dX7_left_108 : decode cX7_left 108 = .ok (.aload_n 0, 1) := by decide +kernel
theorem dX7_left_109 : decode cX7_left 109 = .ok (.aload_n 0, 1) := by decide +kernel
theorem dX7_left_110 : decode cX7_left 110 = .ok (.getfield 47, 3) := by decide +kernel
theorem dX7_left_113 : decode cX7_left 113 = .ok (.aload_n 0, 1) := by decide +kernel
theorem dX7_left_114 : decode cX7_left 114 = .ok (.getfield 40, 3) := by decide +kernel
theorem dX7_left_117 : decode cX7_left 117 = .ok (.iload_n 2, 1) := by decide +kernel
theorem dX7_left_118 : decode cX7_left 118 = .ok (.invokevirtual 262, 3) := by decide +kernel
theorem dX7_left_121 : decode cX7_left 121 = .ok (.invokevirtual 134, 3) := by decide +kernel
theorem dX7_left_124 : decode cX7_left 124 = .ok (.ireturn, 1) := by decide +kernel
theorem dX7_left_125 : decode cX7_left 125 = .ok (.aload_n 0, 1) := by decide +kernel
theorem dX7_left_126 : decode cX7_left 126 = .ok (.getfield 47, 3) := by decide +kernel
theorem dX7_left_129 : decode cX7_left 129 = .ok (.aload_n 0, 1) := by decide +kernel
theorem dX7_left_130 : decode cX7_left 130 = .ok (.getfield 40, 3) := by decide +kernel
theorem dX7_left_133 : decode cX7_left 133 = .ok (.iload_n 2, 1) := by decide +kernel
theorem dX7_left_134 : decode cX7_left 134 = .ok (.invokevirtual 266, 3) := by decide +kernel
theorem dX7_left_137 : decode cX7_left 137 = .ok (.istore 4, 2) := by decide +kernel
theorem dX7_left_139 : decode cX7_left 139 = .ok (.iload 4, 2) := by decide +kernel
theorem dX7_left_141 : decode cX7_left 141 = .ok (.iconst (-1), 1) := by decide +kernel
theorem dX7_left_142 : decode cX7_left 142 = .ok (.if_icmp .ne 11, 3) := by decide +kernel
theorem dX7_left_145 : decode cX7_left 145 = .ok (.aload_n 0, 1) := by decide +kernel
theorem dX7_left_146 : decode cX7_left 146 = .ok (.iconst 5, 1) := by decide +kernel
theorem dX7_left_147 : decode cX7_left 147 = .ok (.invokevirtual 102, 3) := by decide +kernel
theorem dX7_left_150 : decode cX7_left 150 = .ok (.goto 9, 3) := by decide +kernel
theorem dX7_left_153 : decode cX7_left 153 = .ok (.aload_n 0, 1) := by decide +kernel
theorem dX7_left_154 : decode cX7_left 154 = .ok (.iload 4, 2) := by decide +kernel
theorem dX7_left_156 : decode cX7_left 156 = .ok (.invokevirtual 134, 3) := by decide +kernel
theorem dX7_left_159 : decode cX7_left 159 = .ok (.ireturn, 1) := by decide +kernel
theorem dX7_winners_0 : decode cX7_winners 0 = .ok (.iload_n 1, 1) := by decide +kernel
theorem dX7_winners_1 : decode cX7_winners 1 = .ok (.invokestatic 237, 3) := by decide +kernel
theorem dX7_winners_4 : decode cX7_winners 4 = .ok (.ifCond .ne 9, 3) := by decide +kernel
theorem dX7_winners_7 : decode cX7_winners 7 = .ok (.aload_n 0, 1) := by decide +kernel
theorem dX7_winners_8 : decode cX7_winners 8 = .ok (.iconst 1, 1) := by decide +kernel
theorem dX7_winners_9 : decode cX7_winners 9 = .ok (.invokevirtual 102, 3) := by decide +kernel
theorem dX7_winners_12 : decode cX7_winners 12 = .ok (.ireturn, 1) := by decide +kernel
theorem dX7_winners_13 : decode cX7_winners 13 = .ok (.aload_n 0, 1) := by decide +kernel
theorem dX7_winners_14 : decode cX7_winners 14 = .ok (.getfield 47, 3) := by decide +kernel
theorem dX7_winners_17 : decode cX7_winners 17 = .ok (.aload_n 0, 1) := by decide +kernel
theorem dX7_winners_18 : decode cX7_winners 18 = .ok (.getfield 40, 3) := by decide +kernel
theorem dX7_winners_21 : decode cX7_winners 21 = .ok (.iload_n 1, 1) := by decide +kernel
theorem dX7_winners_22 : decode cX7_winners 22 = .ok (.invokevirtual 247, 3) := by decide +kernel
theorem dX7_winners_25 : decode cX7_winners 25 = .ok (.iconst 0, 1) := by decide +kernel
theorem dX7_winners_26 : decode cX7_winners 26 = .ok (.istore_n 2, 1) := by decide +kernel
theorem dX7_winners_27 : decode cX7_winners 27 = .ok (.iconst 0, 1) := by decide +kernel
theorem dX7_winners_28 : decode cX7_winners 28 = .ok (.istore_n 3, 1) := by decide +kernel
theorem dX7_winners_29 : decode cX7_winners 29 = .ok (.iload_n 3, 1) := by decide +kernel
theorem dX7_winners_30 : decode cX7_winners 30 = .ok (.aload_n 0, 1) := by decide +kernel
theorem dX7_winners_31 : decode cX7_winners 31 = .ok (.getfield 40, 3) := by decide +kernel
theorem dX7_winners_34 : decode cX7_winners 34 = .ok (.getfield 140, 3) := by decide +kernel
theorem dX7_winners_37 : decode cX7_winners 37 = .ok (.if_icmp .ge 38, 3) := by decide +kernel
theorem dX7_winners_40 : decode cX7_winners 40 = .ok (.aload_n 0, 1) := by decide +kernel
theorem dX7_winners_41 : decode cX7_winners 41 = .ok (.getfield 47, 3) := by decide +kernel
theorem dX7_winners_44 : decode cX7_winners 44 = .ok (.getfield 250, 3) := by decide +kernel
theorem dX7_winners_47 : decode cX7_winners 47 = .ok (.iload_n 3, 1) := by decide +kernel
theorem dX7_winners_48 : decode cX7_winners 48 = .ok (.invokestatic 175, 3) := by decide +kernel
theorem dX7_winners_51 : decode cX7_winners 51 = .ok (.iconst (-1), 1) := by decide +kernel
theorem dX7_winners_52 : decode cX7_winners 52 = .ok (.if_icmp .eq 17, 3) := by decide +kernel
theorem dX7_winners_55 : decode cX7_winners 55 = .ok (.iload_n 2, 1) := by decide +kernel
theorem dX7_winners_56 : decode cX7_winners 56 = .ok (.aload_n 0, 1) := by decide +kernel
theorem dX7_winners_57 : decode cX7_winners 57 = .ok (.getfield 40, 3) := by decide +kernel
theorem dX7_winners_60 : decode cX7_winners 60 = .ok (.getfield 222, 3) := by decide +kernel
theorem dX7_winners_63 : decode cX7_winners 63 = .ok (.iload_n 3, 1) := by decide +kernel
theorem dX7_winners_64 : decode cX7_winners 64 = .ok (.invokestatic 175, 3) := by decide +kernel
theorem dX7_winners_67 : decode cX7_winners 67 = .ok (.ior, 1) := by decide +kernel
theorem dX7_winners_68 : decode cX7_winners 68 = .ok (.istore_n 2, 1) := by decide +kernel
theorem dX7_winners_69 : decode cX7_winners 69 = .ok (.iinc 3 1, 3) := by decide +kernel
theorem dX7_winners_72 : decode cX7_winners 72 = .ok (.goto (-43), 3) := by decide +kernel
theorem dX7_winners_75 : decode cX7_winners 75 = .ok (.aload_n 0, 1) := by decide +kernel
theorem dX7_winners_76 : decode cX7_winners 76 = .ok (.iload_n 2, 1) := by decide +kernel
theorem dX7_winners_77 : decode cX7_winners 77 = .ok (.invokevirtual 134, 3) := by decide +kernel
theorem dX7_winners_80 : decode cX7_winners 80 = .ok (.ireturn, 1) := by decide +kernel
theorem dX7_waits_0 : decode cX7_waits 0 = .ok (.iload_n 1, 1) := by decide +kernel
theorem dX7_waits_1 : decode cX7_waits 1 = .ok (.invokestatic 237, 3) := by decide +kernel
theorem dX7_waits_4 : decode cX7_waits 4 = .ok (.ifCond .eq 8, 3) := by decide +kernel
theorem dX7_waits_7 : decode cX7_waits 7 = .ok (.iload_n 3, 1) := by decide +kernel
theorem dX7_waits_8 : decode cX7_waits 8 = .ok (.iconst (-1), 1) := by decide +kernel
theorem dX7_waits_9 : decode cX7_waits 9 = .ok (.if_icmp .ge 9, 3) := by decide +kernel
theorem dX7_waits_12 : decode cX7_waits 12 = .ok (.aload_n 0, 1) := by decide +kernel
theorem dX7_waits_13 : decode cX7_waits 13 = .ok (.iconst 1, 1) := by decide +kernel
theorem dX7_waits_14 : decode cX7_waits 14 = .ok (.invokevirtual 102, 3) := by decide +kernel
theorem dX7_waits_17 : decode cX7_waits 17 = .ok (.ireturn, 1) := by decide +kernel
theorem dX7_waits_18 : decode cX7_waits 18 = .ok (.aload_n 0, 1) := by decide +kernel
theorem dX7_waits_19 : decode cX7_waits 19 = .ok (.iload_n 2, 1) := by decide +kernel
theorem dX7_waits_20 : decode cX7_waits 20 = .ok (.invokevirtual 188, 3) := by decide +kernel
theorem dX7_waits_23 : decode cX7_waits 23 = .ok (.ifCond .ne 9, 3) := by decide +kernel
theorem dX7_waits_26 : decode cX7_waits 26 = .ok (.aload_n 0, 1) := by decide +kernel
theorem dX7_waits_27 : decode cX7_waits 27 = .ok (.iconst 2, 1) := by decide +kernel
theorem dX7_waits_28 : decode cX7_waits 28 = .ok (.invokevirtual 102, 3) := by decide +kernel
theorem dX7_waits_31 : decode cX7_waits 31 = .ok (.ireturn, 1) := by decide +kernel
theorem dX7_waits_32 : decode cX7_waits 32 = .ok (.aload_n 0, 1) := by decide +kernel
theorem dX7_waits_33 : decode cX7_waits 33 = .ok (.getfield 47, 3) := by decide +kernel
theorem dX7_waits_36 : decode cX7_waits 36 = .ok (.aload_n 0, 1) := by decide +kernel
theorem dX7_waits_37 : decode cX7_waits 37 = .ok (.getfield 40, 3) := by decide +kernel
theorem dX7_waits_40 : decode cX7_waits 40 = .ok (.iload_n 1, 1) := by decide +kernel
theorem dX7_waits_41 : decode cX7_waits 41 = .ok (.invokevirtual 247, 3) := by decide +kernel
theorem dX7_waits_44 : decode cX7_waits 44 = .ok (.iconst 0, 1) := by decide +kernel
theorem dX7_waits_45 : decode cX7_waits 45 = .ok (.istore 4, 2) := by decide +kernel
theorem dX7_waits_47 : decode cX7_waits 47 = .ok (.iconst 0, 1) := by decide +kernel
theorem dX7_waits_48 : decode cX7_waits 48 = .ok (.istore 5, 2) := by decide +kernel
theorem dX7_waits_50 : decode cX7_waits 50 = .ok (.iload 5, 2) := by decide +kernel
theorem dX7_waits_52 : decode cX7_waits 52 = .ok (.aload_n 0, 1) := by decide +kernel
theorem dX7_waits_53 : decode cX7_waits 53 = .ok (.getfield 40, 3) := by decide +kernel
theorem dX7_waits_56 : decode cX7_waits 56 = .ok (.getfield 140, 3) := by decide +kernel
theorem dX7_waits_59 : decode cX7_waits 59 = .ok (.if_icmp .ge 59, 3) := by decide +kernel
theorem dX7_waits_62 : decode cX7_waits 62 = .ok (.aload_n 0, 1) := by decide +kernel
theorem dX7_waits_63 : decode cX7_waits 63 = .ok (.getfield 47, 3) := by decide +kernel
theorem dX7_waits_66 : decode cX7_waits 66 = .ok (.getfield 244, 3) := by decide +kernel
theorem dX7_waits_69 : decode cX7_waits 69 = .ok (.iload 5, 2) := by decide +kernel
theorem dX7_waits_71 : decode cX7_waits 71 = .ok (.invokestatic 175, 3) := by decide +kernel
theorem dX7_waits_74 : decode cX7_waits 74 = .ok (.istore 6, 2) := by decide +kernel
theorem dX7_waits_76 : decode cX7_waits 76 = .ok (.aload_n 0, 1) := by decide +kernel
theorem dX7_waits_77 : decode cX7_waits 77 = .ok (.getfield 47, 3) := by decide +kernel
theorem dX7_waits_80 : decode cX7_waits 80 = .ok (.aload_n 0, 1) := by decide +kernel
theorem dX7_waits_81 : decode cX7_waits 81 = .ok (.getfield 40, 3) := by decide +kernel
theorem dX7_waits_84 : decode cX7_waits 84 = .ok (.iload 6, 2) := by decide +kernel
theorem dX7_waits_86 : decode cX7_waits 86 = .ok (.iload_n 2, 1) := by decide +kernel
theorem dX7_waits_87 : decode cX7_waits 87 = .ok (.invokevirtual 269, 3) := by decide +kernel
theorem dX7_waits_90 : decode cX7_waits 90 = .ok (.ifCond .ne 6, 3) := by decide +kernel
theorem dX7_waits_93 : decode cX7_waits 93 = .ok (.goto 19, 3) := by decide +kernel
theorem dX7_waits_96 : decode cX7_waits 96 = .ok (.iload 4, 2) := by decide +kernel
theorem dX7_waits_98 : decode cX7_waits 98 = .ok (.iload_n 3, 1) := by decide +kernel
theorem dX7_waits_99 : decode cX7_waits 99 = .ok (.if_icmp .ne 10, 3) := by decide +kernel
theorem dX7_waits_102 : decode cX7_waits 102 = .ok (.aload_n 0, 1) := by decide +kernel
theorem dX7_waits_103 : decode cX7_waits 103 = .ok (.iload 6, 2) := by decide +kernel
theorem dX7_waits_105 : decode cX7_waits 105 = .ok (.invokevirtual 134, 3) := by decide +kernel
theorem dX7_waits_108 : decode cX7_waits 108 = .ok (.ireturn, 1) := by decide +kernel
theorem dX7_waits_109 : decode cX7_waits 109 = .ok (.iinc 4 1, 3) := by decide +kernel
theorem dX7_waits_112 : decode cX7_waits 112 = .ok (.iinc 5 1, 3) := by decide +kernel
theorem dX7_waits_115 : decode cX7_waits 115 = .ok (.goto (-65), 3) := by decide +kernel
theorem dX7_waits_118 : decode cX7_waits 118 = .ok (.iload_n 3, 1) := by decide +kernel
theorem dX7_waits_119 : decode cX7_waits 119 = .ok (.iconst (-1), 1) := by decide +kernel
theorem dX7_waits_120 : decode cX7_waits 120 = .ok (.if_icmp .ne 12, 3) := by decide +kernel
theorem dX7_waits_123 : decode cX7_waits 123 = .ok (.aload_n 0, 1) := by decide +kernel
theorem dX7_waits_124 : decode cX7_waits 124 = .ok (.iload 4, 2) := by decide +kernel
theorem dX7_waits_126 : decode cX7_waits 126 = .ok (.invokevirtual 134, 3) := by decide +kernel
theorem dX7_waits_129 : decode cX7_waits 129 = .ok (.goto 8, 3) := by decide +kernel
theorem dX7_waits_132 : decode cX7_waits 132 = .ok (.aload_n 0, 1) := by decide +kernel
theorem dX7_waits_133 : decode cX7_waits 133 = .ok (.iconst 5, 1) := by decide +kernel
theorem dX7_waits_134 : decode cX7_waits 134 = .ok (.invokevirtual 102, 3) := by decide +kernel
theorem dX7_waits_137 : decode cX7_waits 137 = .ok (.ireturn, 1) := by decide +kernel
theorem dX7_next_0 : decode cX7_next 0 = .ok (.iload_n 1, 1) := by decide +kernel
theorem dX7_next_1 : decode cX7_next 1 = .ok (.invokestatic 237, 3) := by decide +kernel
theorem dX7_next_4 : decode cX7_next 4 = .ok (.ifCond .eq 13, 3) := by decide +kernel
theorem dX7_next_7 : decode cX7_next 7 = .ok (.iload_n 3, 1) := by decide +kernel
theorem dX7_next_8 : decode cX7_next 8 = .ok (.ifCond .lt 9, 3) := by decide +kernel
theorem dX7_next_11 : decode cX7_next 11 = .ok (.iload_n 3, 1) := by decide +kernel
theorem dX7_next_12 : decode cX7_next 12 = .ok (.bipush 20, 2) := by decide +kernel
theorem dX7_next_14 : decode cX7_next 14 = .ok (.if_icmp .le 9, 3) := by decide +kernel
theorem dX7_next_17 : decode cX7_next 17 = .ok (.aload_n 0, 1) := by decide +kernel
theorem dX7_next_18 : decode cX7_next 18 = .ok (.iconst 1, 1) := by decide +kernel
theorem dX7_next_19 : decode cX7_next 19 = .ok (.invokevirtual 102, 3) := by decide +kernel
theorem dX7_next_22 : decode cX7_next 22 = .ok (.ireturn, 1) := by decide +kernel
theorem dX7_next_23 : decode cX7_next 23 = .ok (.aload_n 0, 1) := by decide +kernel
theorem dX7_next_24 : decode cX7_next 24 = .ok (.iload_n 2, 1) := by decide +kernel
theorem dX7_next_25 : decode cX7_next 25 = .ok (.invokevirtual 188, 3) := by decide +kernel
theorem dX7_next_28 : decode cX7_next 28 = .ok (.ifCond .ne 9, 3) := by decide +kernel
theorem dX7_next_31 : decode cX7_next 31 = .ok (.aload_n 0, 1) := by decide +kernel
theorem dX7_next_32 : decode cX7_next 32 = .ok (.iconst 2, 1) := by decide +kernel
theorem dX7_next_33 : decode cX7_next 33 = .ok (.invokevirtual 102, 3) := by decide +kernel
theorem dX7_next_36 : decode cX7_next 36 = .ok (.ireturn, 1) := by decide +kernel
theorem dX7_next_37 : decode cX7_next 37 = .ok (.aload_n 0, 1) := by decide +kernel
theorem dX7_next_38 : decode cX7_next 38 = .ok (.getfield 47, 3) := by decide +kernel
theorem dX7_next_41 : decode cX7_next 41 = .ok (.aload_n 0, 1) := by decide +kernel
theorem dX7_next_42 : decode cX7_next 42 = .ok (.getfield 40, 3) := by decide +kernel
theorem dX7_next_45 : decode cX7_next 45 = .ok (.iload_n 1, 1) := by decide +kernel
theorem dX7_next_46 : decode cX7_next 46 = .ok (.invokevirtual 247, 3) := by decide +kernel
theorem dX7_next_49 : decode cX7_next 49 = .ok (.aload_n 0, 1) := by decide +kernel
theorem dX7_next_50 : decode cX7_next 50 = .ok (.getfield 47, 3) := by decide +kernel
theorem dX7_next_53 : decode cX7_next 53 = .ok (.getfield 256, 3) := by decide +kernel
theorem dX7_next_56 : decode cX7_next 56 = .ok (.iload_n 2, 1) := by decide +kernel
theorem dX7_next_57 : decode cX7_next 57 = .ok (.invokestatic 175, 3) := by decide +kernel
theorem dX7_next_60 : decode cX7_next 60 = .ok (.iload_n 3, 1) := by decide +kernel
theorem dX7_next_61 : decode cX7_next 61 = .ok (.iadd, 1) := by decide +kernel
theorem dX7_next_62 : decode cX7_next 62 = .ok (.istore 4, 2) := by decide +kernel
theorem dX7_next_64 : decode cX7_next 64 = .ok (.aload_n 0, 1) := by decide +kernel
theorem dX7_next_65 : decode cX7_next 65 = .ok (.getfield 47, 3) := by decide +kernel
theorem dX7_next_68 : decode cX7_next 68 = .ok (.getfield 259, 3) := by decide +kernel
theorem dX7_next_71 : decode cX7_next 71 = .ok (.iload_n 2, 1) := by decide +kernel
theorem dX7_next_72 : decode cX7_next 72 = .ok (.invokestatic 175, 3) := by decide +kernel
theorem dX7_next_75 : decode cX7_next 75 = .ok (.iload_n 3, 1) := by decide +kernel
theorem dX7_next_76 : decode cX7_next 76 = .ok (.iadd, 1) := by decide +kernel
theorem dX7_next_77 : decode cX7_next 77 = .ok (.istore 5, 2) := by decide +kernel
theorem dX7_next_79 : decode cX7_next 79 = .ok (.iconst 0, 1) := by decide +kernel
theorem dX7_next_80 : decode cX7_next 80 = .ok (.istore 6, 2) := by decide +kernel
theorem dX7_next_82 : decode cX7_next 82 = .ok (.iload 6, 2) := by decide +kernel
theorem dX7_next_84 : decode cX7_next 84 = .ok (.aload_n 0, 1) := by decide +kernel
theorem dX7_next_85 : decode cX7_next 85 = .ok (.getfield 40, 3) := by decide +kernel
theorem dX7_next_88 : decode cX7_next 88 = .ok (.getfield 140, 3) := by decide +kernel
theorem dX7_next_91 : decode cX7_next 91 = .ok (.if_icmp .ge 63, 3) := by decide +kernel
theorem dX7_next_94 : decode cX7_next 94 = .ok (.aload_n 0, 1) := by decide +kernel
theorem dX7_next_95 : decode cX7_next 95 = .ok (.getfield 47, 3) := by decide +kernel
theorem dX7_next_98 : decode cX7_next 98 = .ok (.getfield 244, 3) := by decide +kernel
theorem dX7_next_101 : decode cX7_next 101 = .ok (.iload 6, 2) := by decide +kernel
theorem dX7_next_103 : decode cX7_next 103 = .ok (.invokestatic 175, 3) := by decide +kernel
theorem dX7_next_106 : decode cX7_next 106 = .ok (.istore 7, 2) := by decide +kernel
theorem dX7_next_108 : decode cX7_next 108 = .ok (.aload_n 0, 1) := by decide +kernel
theorem dX7_next_109 : decode cX7_next 109 = .ok (.getfield 47, 3) := by decide +kernel
theorem dX7_next_112 : decode cX7_next 112 = .ok (.aload_n 0, 1) := by decide +kernel
theorem dX7_next_113 : decode cX7_next 113 = .ok (.getfield 40, 3) := by decide +kernel
theorem dX7_next_116 : decode cX7_next 116 = .ok (.iload 7, 2) := by decide +kernel
theorem dX7_next_118 : decode cX7_next 118 = .ok (.iload_n 2, 1) := by decide +kernel
theorem dX7_next_119 : decode cX7_next 119 = .ok (.invokevirtual 269, 3) := by decide +kernel
theorem dX7_next_122 : decode cX7_next 122 = .ok (.ifCond .eq 26, 3) := by decide +kernel
theorem dX7_next_125 : decode cX7_next 125 = .ok (.aload_n 0, 1) := by decide +kernel
theorem dX7_next_126 : decode cX7_next 126 = .ok (.getfield 40, 3) := by decide +kernel
theorem dX7_next_129 : decode cX7_next 129 = .ok (.iload 7, 2) := by decide +kernel
theorem dX7_next_131 : decode cX7_next 131 = .ok (.iload 4, 2) := by decide +kernel
theorem dX7_next_133 : decode cX7_next 133 = .ok (.iload 5, 2) := by decide +kernel
theorem dX7_next_135 : decode cX7_next 135 = .ok (.invokevirtual 273, 3) := by decide +kernel
theorem dX7_next_138 : decode cX7_next 138 = .ok (.ifCond .eq 10, 3) := by decide +kernel
theorem dX7_next_141 : decode cX7_next 141 = .ok (.aload_n 0, 1) := by decide +kernel
theorem dX7_next_142 : decode cX7_next 142 = .ok (.iload 7, 2) := by decide +kernel
theorem dX7_next_144 : decode cX7_next 144 = .ok (.invokevirtual 134, 3) := by decide +kernel
theorem dX7_next_147 : decode cX7_next 147 = .ok (.ireturn, 1) := by decide +kernel
theorem dX7_next_148 : decode cX7_next 148 = .ok (.iinc 6 1, 3) := by decide +kernel
theorem dX7_next_151 : decode cX7_next 151 = .ok (.goto (-69), 3) := by decide +kernel
theorem dX7_next_154 : decode cX7_next 154 = .ok (.aload_n 0, 1) := by decide +kernel
theorem dX7_next_155 : decode cX7_next 155 = .ok (.iconst 5, 1) := by decide +kernel
theorem dX7_next_156 : decode cX7_next 156 = .ok (.invokevirtual 102, 3) := by decide +kernel
theorem dX7_next_159 : decode cX7_next 159 = .ok (.ireturn, 1) := by decide +kernel
theorem dX7_envies_0 : decode cX7_envies 0 = .ok (.iload_n 1, 1) := by decide +kernel
theorem dX7_envies_1 : decode cX7_envies 1 = .ok (.invokestatic 237, 3) := by decide +kernel
theorem dX7_envies_4 : decode cX7_envies 4 = .ok (.ifCond .ne 9, 3) := by decide +kernel
theorem dX7_envies_7 : decode cX7_envies 7 = .ok (.aload_n 0, 1) := by decide +kernel
theorem dX7_envies_8 : decode cX7_envies 8 = .ok (.iconst 1, 1) := by decide +kernel
theorem dX7_envies_9 : decode cX7_envies 9 = .ok (.invokevirtual 102, 3) := by decide +kernel
theorem dX7_envies_12 : decode cX7_envies 12 = .ok (.ireturn, 1) := by decide +kernel
theorem dX7_envies_13 : decode cX7_envies 13 = .ok (.aload_n 0, 1) := by decide +kernel
theorem dX7_envies_14 : decode cX7_envies 14 = .ok (.iload_n 2, 1) := by decide +kernel
theorem dX7_envies_15 : decode cX7_envies 15 = .ok (.invokevirtual 206, 3) := by decide +kernel
theorem dX7_envies_18 : decode cX7_envies 18 = .ok (.ifCond .ne 9, 3) := by decide +kernel
theorem dX7_envies_21 : decode cX7_envies 21 = .ok (.aload_n 0, 1) := by decide +kernel
theorem dX7_envies_22 : decode cX7_envies 22 = .ok (.iconst 2, 1) := by decide +kernel
theorem dX7_envies_23 : decode cX7_envies 23 = .ok (.invokevirtual 102, 3) := by decide +kernel
theorem dX7_envies_26 : decode cX7_envies 26 = .ok (.ireturn, 1) := by decide +kernel
theorem dX7_envies_27 : decode cX7_envies 27 = .ok (.aload_n 0, 1) := by decide +kernel
theorem dX7_envies_28 : decode cX7_envies 28 = .ok (.getfield 47, 3) := by decide +kernel
theorem dX7_envies_31 : decode cX7_envies 31 = .ok (.aload_n 0, 1) := by decide +kernel
theorem dX7_envies_32 : decode cX7_envies 32 = .ok (.getfield 40, 3) := by decide +kernel
theorem dX7_envies_35 : decode cX7_envies 35 = .ok (.iload_n 1, 1) := by decide +kernel
theorem dX7_envies_36 : decode cX7_envies 36 = .ok (.invokevirtual 247, 3) := by decide +kernel
theorem dX7_envies_39 : decode cX7_envies 39 = .ok (.iconst 0, 1) := by decide +kernel
theorem dX7_envies_40 : decode cX7_envies 40 = .ok (.istore_n 3, 1) := by decide +kernel
theorem dX7_envies_41 : decode cX7_envies 41 = .ok (.iconst 0, 1) := by decide +kernel
theorem dX7_envies_42 : decode cX7_envies 42 = .ok (.istore 4, 2) := by decide +kernel
theorem dX7_envies_44 : decode cX7_envies 44 = .ok (.iload 4, 2) := by decide +kernel
theorem dX7_envies_46 : decode cX7_envies 46 = .ok (.aload_n 0, 1) := by decide +kernel
theorem dX7_envies_47 : decode cX7_envies 47 = .ok (.getfield 40, 3) := by decide +kernel
theorem dX7_envies_50 : decode cX7_envies 50 = .ok (.getfield 140, 3) := by decide +kernel
theorem dX7_envies_53 : decode cX7_envies 53 = .ok (.if_icmp .ge 100, 3) := by decide +kernel
theorem dX7_envies_56 : decode cX7_envies 56 = .ok (.aload_n 0, 1) := by decide +kernel
theorem dX7_envies_57 : decode cX7_envies 57 = .ok (.getfield 47, 3) := by decide +kernel
theorem dX7_envies_60 : decode cX7_envies 60 = .ok (.getfield 250, 3) := by decide +kernel
theorem dX7_envies_63 : decode cX7_envies 63 = .ok (.iload 4, 2) := by decide +kernel
theorem dX7_envies_65 : decode cX7_envies 65 = .ok (.invokestatic 175, 3) := by decide +kernel
theorem dX7_envies_68 : decode cX7_envies 68 = .ok (.istore 5, 2) := by decide +kernel
theorem dX7_envies_70 : decode cX7_envies 70 = .ok (.iload 5, 2) := by decide +kernel
theorem dX7_envies_72 : decode cX7_envies 72 = .ok (.iconst (-1), 1) := by decide +kernel
theorem dX7_envies_73 : decode cX7_envies 73 = .ok (.if_icmp .eq 74, 3) := by decide +kernel
theorem dX7_envies_76 : decode cX7_envies 76 = .ok (.aload_n 0, 1) := by decide +kernel
theorem dX7_envies_77 : decode cX7_envies 77 = .ok (.getfield 40, 3) := by decide +kernel
theorem dX7_envies_80 : decode cX7_envies 80 = .ok (.getfield 215, 3) := by decide +kernel
theorem dX7_envies_83 : decode cX7_envies 83 = .ok (.iload 4, 2) := by decide +kernel
theorem dX7_envies_85 : decode cX7_envies 85 = .ok (.invokestatic 175, 3) := by decide +kernel
theorem dX7_envies_88 : decode cX7_envies 88 = .ok (.aload_n 0, 1) := by decide +kernel
theorem dX7_envies_89 : decode cX7_envies 89 = .ok (.getfield 40, 3) := by decide +kernel
theorem dX7_envies_92 : decode cX7_envies 92 = .ok (.getfield 215, 3) := by decide +kernel
theorem dX7_envies_95 : decode cX7_envies 95 = .ok (.iload_n 2, 1) := by decide +kernel
theorem dX7_envies_96 : decode cX7_envies 96 = .ok (.invokestatic 175, 3) := by decide +kernel
theorem dX7_envies_99 : decode cX7_envies 99 = .ok (.if_icmp .lt 6, 3) := by decide +kernel
theorem dX7_envies_102 : decode cX7_envies 102 = .ok (.goto 45, 3) := by decide +kernel
theorem dX7_envies_105 : decode cX7_envies 105 = .ok (.aload_n 0, 1) := by decide +kernel
theorem dX7_envies_106 : decode cX7_envies 106 = .ok (.getfield 40, 3) := by decide +kernel
theorem dX7_envies_109 : decode cX7_envies 109 = .ok (.iload_n 2, 1) := by decide +kernel
theorem dX7_envies_110 : decode cX7_envies 110 = .ok (.iload 5, 2) := by decide +kernel
theorem dX7_envies_112 : decode cX7_envies 112 = .ok (.invokevirtual 277, 3) := by decide +kernel
theorem dX7_envies_115 : decode cX7_envies 115 = .ok (.istore 6, 2) := by decide +kernel
theorem dX7_envies_117 : decode cX7_envies 117 = .ok (.iload 6, 2) := by decide +kernel
theorem dX7_envies_119 : decode cX7_envies 119 = .ok (.iconst (-1), 1) := by decide +kernel
theorem dX7_envies_120 : decode cX7_envies 120 = .ok (.if_icmp .eq 27, 3) := by decide +kernel
theorem dX7_envies_123 : decode cX7_envies 123 = .ok (.iload 6, 2) := by decide +kernel
theorem dX7_envies_125 : decode cX7_envies 125 = .ok (.aload_n 0, 1) := by decide +kernel
theorem dX7_envies_126 : decode cX7_envies 126 = .ok (.getfield 47, 3) := by decide +kernel
theorem dX7_envies_129 : decode cX7_envies 129 = .ok (.aload_n 0, 1) := by decide +kernel
theorem dX7_envies_130 : decode cX7_envies 130 = .ok (.getfield 40, 3) := by decide +kernel
theorem dX7_envies_133 : decode cX7_envies 133 = .ok (.iload_n 2, 1) := by decide +kernel
theorem dX7_envies_134 : decode cX7_envies 134 = .ok (.invokevirtual 280, 3) := by decide +kernel
theorem dX7_envies_137 : decode cX7_envies 137 = .ok (.if_icmp .ge 10, 3) := by decide +kernel
theorem dX7_envies_140 : decode cX7_envies 140 = .ok (.iload_n 3, 1) := by decide +kernel
theorem dX7_envies_141 : decode cX7_envies 141 = .ok (.iconst 1, 1) := by decide +kernel
theorem dX7_envies_142 : decode cX7_envies 142 = .ok (.iload 4, 2) := by decide +kernel
theorem dX7_envies_144 : decode cX7_envies 144 = .ok (.ishl, 1) := by decide +kernel
theorem dX7_envies_145 : decode cX7_envies 145 = .ok (.ior, 1) := by decide +kernel
theorem dX7_envies_146 : decode cX7_envies 146 = .ok (.istore_n 3, 1) := by decide +kernel
theorem dX7_envies_147 : decode cX7_envies 147 = .ok (.iinc 4 1, 3) := by decide +kernel
theorem dX7_envies_150 : decode cX7_envies 150 = .ok (.goto (-106), 3) := by decide +kernel
theorem dX7_envies_153 : decode cX7_envies 153 = .ok (.aload_n 0, 1) := by decide +kernel
theorem dX7_envies_154 : decode cX7_envies 154 = .ok (.iload_n 3, 1) := by decide +kernel
theorem dX7_envies_155 : decode cX7_envies 155 = .ok (.invokevirtual 134, 3) := by decide +kernel
theorem dX7_envies_158 : decode cX7_envies 158 = .ok (.ireturn, 1) := by decide +kernel
theorem dX7_spoils_0 : decode cX7_spoils 0 = .ok (.iload_n 1, 1) := by decide +kernel
theorem dX7_spoils_1 : decode cX7_spoils 1 = .ok (.invokestatic 237, 3) := by decide +kernel
theorem dX7_spoils_4 : decode cX7_spoils 4 = .ok (.ifCond .ne 9, 3) := by decide +kernel
theorem dX7_spoils_7 : decode cX7_spoils 7 = .ok (.aload_n 0, 1) := by decide +kernel
theorem dX7_spoils_8 : decode cX7_spoils 8 = .ok (.iconst 1, 1) := by decide +kernel
theorem dX7_spoils_9 : decode cX7_spoils 9 = .ok (.invokevirtual 102, 3) := by decide +kernel
theorem dX7_spoils_12 : decode cX7_spoils 12 = .ok (.ireturn, 1) := by decide +kernel
theorem dX7_spoils_13 : decode cX7_spoils 13 = .ok (.aload_n 0, 1) := by decide +kernel
theorem dX7_spoils_14 : decode cX7_spoils 14 = .ok (.iload_n 2, 1) := by decide +kernel
theorem dX7_spoils_15 : decode cX7_spoils 15 = .ok (.invokevirtual 206, 3) := by decide +kernel
theorem dX7_spoils_18 : decode cX7_spoils 18 = .ok (.ifCond .ne 9, 3) := by decide +kernel
theorem dX7_spoils_21 : decode cX7_spoils 21 = .ok (.aload_n 0, 1) := by decide +kernel
theorem dX7_spoils_22 : decode cX7_spoils 22 = .ok (.iconst 2, 1) := by decide +kernel
theorem dX7_spoils_23 : decode cX7_spoils 23 = .ok (.invokevirtual 102, 3) := by decide +kernel
theorem dX7_spoils_26 : decode cX7_spoils 26 = .ok (.ireturn, 1) := by decide +kernel
theorem dX7_spoils_27 : decode cX7_spoils 27 = .ok (.aload_n 0, 1) := by decide +kernel
theorem dX7_spoils_28 : decode cX7_spoils 28 = .ok (.getfield 47, 3) := by decide +kernel
theorem dX7_spoils_31 : decode cX7_spoils 31 = .ok (.aload_n 0, 1) := by decide +kernel
theorem dX7_spoils_32 : decode cX7_spoils 32 = .ok (.getfield 40, 3) := by decide +kernel
theorem dX7_spoils_35 : decode cX7_spoils 35 = .ok (.iload_n 1, 1) := by decide +kernel
theorem dX7_spoils_36 : decode cX7_spoils 36 = .ok (.invokevirtual 247, 3) := by decide +kernel
theorem dX7_spoils_39 : decode cX7_spoils 39 = .ok (.aload_n 0, 1) := by decide +kernel
theorem dX7_spoils_40 : decode cX7_spoils 40 = .ok (.getfield 65, 3) := by decide +kernel
theorem dX7_spoils_43 : decode cX7_spoils 43 = .ok (.aload_n 0, 1) := by decide +kernel
theorem dX7_spoils_44 : decode cX7_spoils 44 = .ok (.getfield 26, 3) := by decide +kernel
theorem dX7_spoils_47 : decode cX7_spoils 47 = .ok (.invokevirtual 113, 3) := by decide +kernel
theorem dX7_spoils_50 : decode cX7_spoils 50 = .ok (.aload_n 0, 1) := by decide +kernel
theorem dX7_spoils_51 : decode cX7_spoils 51 = .ok (.getfield 65, 3) := by decide +kernel
theorem dX7_spoils_54 : decode cX7_spoils 54 = .ok (.aload_n 0, 1) := by decide +kernel
theorem dX7_spoils_55 : decode cX7_spoils 55 = .ok (.getfield 40, 3) := by decide +kernel
theorem dX7_spoils_58 : decode cX7_spoils 58 = .ok (.getfield 222, 3) := by decide +kernel
theorem dX7_spoils_61 : decode cX7_spoils 61 = .ok (.iload_n 2, 1) := by decide +kernel
theorem dX7_spoils_62 : decode cX7_spoils 62 = .ok (.invokestatic 175, 3) := by decide +kernel
theorem dX7_spoils_65 : decode cX7_spoils 65 = .ok (.iconst (-1), 1) := by decide +kernel
theorem dX7_spoils_66 : decode cX7_spoils 66 = .ok (.iconst (-1), 1) := by decide +kernel
theorem dX7_spoils_67 : decode cX7_spoils 67 = .ok (.iconst (-1), 1) := by decide +kernel
theorem dX7_spoils_68 : decode cX7_spoils 68 = .ok (.invokevirtual 283, 3) := by decide +kernel
theorem dX7_spoils_71 : decode cX7_spoils 71 = .ok (.aload_n 0, 1) := by decide +kernel
theorem dX7_spoils_72 : decode cX7_spoils 72 = .ok (.getfield 68, 3) := by decide +kernel
theorem dX7_spoils_75 : decode cX7_spoils 75 = .ok (.aload_n 0, 1) := by decide +kernel
theorem dX7_spoils_76 : decode cX7_spoils 76 = .ok (.getfield 65, 3) := by decide +kernel
theorem dX7_spoils_79 : decode cX7_spoils 79 = .ok (.invokevirtual 80, 3) := by decide +kernel
theorem dX7_spoils_82 : decode cX7_spoils 82 = .ok (.aload_n 0, 1) := by decide +kernel
theorem dX7_spoils_83 : decode cX7_spoils 83 = .ok (.getfield 71, 3) := by decide +kernel
theorem dX7_spoils_86 : decode cX7_spoils 86 = .ok (.aload_n 0, 1) := by decide +kernel
theorem dX7_spoils_87 : decode cX7_spoils 87 = .ok (.getfield 68, 3) := by decide +kernel
theorem dX7_spoils_90 : decode cX7_spoils 90 = .ok (.iload_n 1, 1) := by decide +kernel
theorem dX7_spoils_91 : decode cX7_spoils 91 = .ok (.invokevirtual 247, 3) := by decide +kernel
theorem dX7_spoils_94 : decode cX7_spoils 94 = .ok (.iconst 0, 1) := by decide +kernel
theorem dX7_spoils_95 : decode cX7_spoils 95 = .ok (.istore_n 3, 1) := by decide +kernel
theorem dX7_spoils_96 : decode cX7_spoils 96 = .ok (.iconst 0, 1) := by decide +kernel
theorem dX7_spoils_97 : decode cX7_spoils 97 = .ok (.istore 4, 2) := by decide +kernel
theorem dX7_spoils_99 : decode cX7_spoils 99 = .ok (.iload 4, 2) := by decide +kernel
theorem dX7_spoils_101 : decode cX7_spoils 101 = .ok (.aload_n 0, 1) := by decide +kernel
theorem dX7_spoils_102 : decode cX7_spoils 102 = .ok (.getfield 40, 3) := by decide +kernel
theorem dX7_spoils_105 : decode cX7_spoils 105 = .ok (.getfield 140, 3) := by decide +kernel
theorem dX7_spoils_108 : decode cX7_spoils 108 = .ok (.if_icmp .ge 51, 3) := by decide +kernel
theorem dX7_spoils_111 : decode cX7_spoils 111 = .ok (.iload 4, 2) := by decide +kernel
theorem dX7_spoils_113 : decode cX7_spoils 113 = .ok (.iload_n 2, 1) := by decide +kernel
theorem dX7_spoils_114 : decode cX7_spoils 114 = .ok (.if_icmp .eq 39, 3) := by decide +kernel
theorem dX7_spoils_117 : decode cX7_spoils 117 = .ok (.aload_n 0, 1) := by decide +kernel
theorem dX7_spoils_118 : decode cX7_spoils 118 = .ok (.getfield 71, 3) := by decide +kernel
theorem dX7_spoils_121 : decode cX7_spoils 121 = .ok (.aload_n 0, 1) := by decide +kernel
theorem dX7_spoils_122 : decode cX7_spoils 122 = .ok (.getfield 68, 3) := by decide +kernel
theorem dX7_spoils_125 : decode cX7_spoils 125 = .ok (.iload 4, 2) := by decide +kernel
theorem dX7_spoils_127 : decode cX7_spoils 127 = .ok (.invokevirtual 280, 3) := by decide +kernel
theorem dX7_spoils_130 : decode cX7_spoils 130 = .ok (.aload_n 0, 1) := by decide +kernel
theorem dX7_spoils_131 : decode cX7_spoils 131 = .ok (.getfield 47, 3) := by decide +kernel
theorem dX7_spoils_134 : decode cX7_spoils 134 = .ok (.aload_n 0, 1) := by decide +kernel
theorem dX7_spoils_135 : decode cX7_spoils 135 = .ok (.getfield 40, 3) := by decide +kernel
theorem dX7_spoils_138 : decode cX7_spoils 138 = .ok (.iload 4, 2) := by decide +kernel
theorem dX7_spoils_140 : decode cX7_spoils 140 = .ok (.invokevirtual 280, 3) := by decide +kernel
theorem dX7_spoils_143 : decode cX7_spoils 143 = .ok (.if_icmp .ge 10, 3) := by decide +kernel
theorem dX7_spoils_146 : decode cX7_spoils 146 = .ok (.iload_n 3, 1) := by decide +kernel
theorem dX7_spoils_147 : decode cX7_spoils 147 = .ok (.iconst 1, 1) := by decide +kernel
theorem dX7_spoils_148 : decode cX7_spoils 148 = .ok (.iload 4, 2) := by decide +kernel
theorem dX7_spoils_150 : decode cX7_spoils 150 = .ok (.ishl, 1) := by decide +kernel
theorem dX7_spoils_151 : decode cX7_spoils 151 = .ok (.ior, 1) := by decide +kernel
theorem dX7_spoils_152 : decode cX7_spoils 152 = .ok (.istore_n 3, 1) := by decide +kernel
theorem dX7_spoils_153 : decode cX7_spoils 153 = .ok (.iinc 4 1, 3) := by decide +kernel
theorem dX7_spoils_156 : decode cX7_spoils 156 = .ok (.goto (-57), 3) := by decide +kernel
theorem dX7_spoils_159 : decode cX7_spoils 159 = .ok (.aload_n 0, 1) := by decide +kernel
theorem dX7_spoils_160 : decode cX7_spoils 160 = .ok (.iload_n 3, 1) := by decide +kernel
theorem dX7_spoils_161 : decode cX7_spoils 161 = .ok (.invokevirtual 134, 3) := by decide +kernel
theorem dX7_spoils_164 : decode cX7_spoils 164 = .ok (.ireturn, 1) := by decide +kernel
theorem dX7_behind_0 : decode cX7_behind 0 = .ok (.iload_n 1, 1) := by decide +kernel
theorem dX7_behind_1 : decode cX7_behind 1 = .ok (.invokestatic 237, 3) := by decide +kernel
theorem dX7_behind_4 : decode cX7_behind 4 = .ok (.ifCond .ne 9, 3) := by decide +kernel
theorem dX7_behind_7 : decode cX7_behind 7 = .ok (.aload_n 0, 1) := by decide +kernel
theorem dX7_behind_8 : decode cX7_behind 8 = .ok (.iconst 1, 1) := by decide +kernel
theorem dX7_behind_9 : decode cX7_behind 9 = .ok (.invokevirtual 102, 3) := by decide +kernel
theorem dX7_behind_12 : decode cX7_behind 12 = .ok (.ireturn, 1) := by decide +kernel
theorem dX7_behind_13 : decode cX7_behind 13 = .ok (.aload_n 0, 1) := by decide +kernel
theorem dX7_behind_14 : decode cX7_behind 14 = .ok (.iload_n 2, 1) := by decide +kernel
theorem dX7_behind_15 : decode cX7_behind 15 = .ok (.invokevirtual 168, 3) := by decide +kernel
theorem dX7_behind_18 : decode cX7_behind 18 = .ok (.ifCond .ne 9, 3) := by decide +kernel
theorem dX7_behind_21 : decode cX7_behind 21 = .ok (.aload_n 0, 1) := by decide +kernel
theorem dX7_behind_22 : decode cX7_behind 22 = .ok (.iconst 2, 1) := by decide +kernel
theorem dX7_behind_23 : decode cX7_behind 23 = .ok (.invokevirtual 102, 3) := by decide +kernel
theorem dX7_behind_26 : decode cX7_behind 26 = .ok (.ireturn, 1) := by decide +kernel
theorem dX7_behind_27 : decode cX7_behind 27 = .ok (.aload_n 0, 1) := by decide +kernel
theorem dX7_behind_28 : decode cX7_behind 28 = .ok (.getfield 47, 3) := by decide +kernel
theorem dX7_behind_31 : decode cX7_behind 31 = .ok (.aload_n 0, 1) := by decide +kernel
theorem dX7_behind_32 : decode cX7_behind 32 = .ok (.getfield 40, 3) := by decide +kernel
theorem dX7_behind_35 : decode cX7_behind 35 = .ok (.iload_n 1, 1) := by decide +kernel
theorem dX7_behind_36 : decode cX7_behind 36 = .ok (.invokevirtual 247, 3) := by decide +kernel
theorem dX7_behind_39 : decode cX7_behind 39 = .ok (.aload_n 0, 1) := by decide +kernel
theorem dX7_behind_40 : decode cX7_behind 40 = .ok (.aload_n 0, 1) := by decide +kernel
theorem dX7_behind_41 : decode cX7_behind 41 = .ok (.getfield 47, 3) := by decide +kernel
theorem dX7_behind_44 : decode cX7_behind 44 = .ok (.aload_n 0, 1) := by decide +kernel
theorem dX7_behind_45 : decode cX7_behind 45 = .ok (.getfield 40, 3) := by decide +kernel
theorem dX7_behind_48 : decode cX7_behind 48 = .ok (.aload_n 0, 1) := by decide +kernel
theorem dX7_behind_49 : decode cX7_behind 49 = .ok (.getfield 40, 3) := by decide +kernel
theorem dX7_behind_52 : decode cX7_behind 52 = .ok (.getfield 182, 3) := by decide +kernel
theorem dX7_behind_55 : decode cX7_behind 55 = .ok (.iload_n 2, 1) := by decide +kernel
theorem dX7_behind_56 : decode cX7_behind 56 = .ok (.invokestatic 175, 3) := by decide +kernel
theorem dX7_behind_59 : decode cX7_behind 59 = .ok (.aload_n 0, 1) := by decide +kernel
theorem dX7_behind_60 : decode cX7_behind 60 = .ok (.getfield 26, 3) := by decide +kernel
theorem dX7_behind_63 : decode cX7_behind 63 = .ok (.getfield 172, 3) := by decide +kernel
theorem dX7_behind_66 : decode cX7_behind 66 = .ok (.iload_n 2, 1) := by decide +kernel
theorem dX7_behind_67 : decode cX7_behind 67 = .ok (.invokestatic 175, 3) := by decide +kernel
theorem dX7_behind_70 : decode cX7_behind 70 = .ok (.invokevirtual 287, 3) := by decide +kernel
theorem dX7_behind_73 : decode cX7_behind 73 = .ok (.invokevirtual 134, 3) := by decide +kernel
theorem dX7_behind_76 : decode cX7_behind 76 = .ok (.ireturn, 1) := by decide +kernel
theorem dX7_lucky_0 : decode cX7_lucky 0 = .ok (.iload_n 1, 1) := by decide +kernel
theorem dX7_lucky_1 : decode cX7_lucky 1 = .ok (.invokestatic 237, 3) := by decide +kernel
theorem dX7_lucky_4 : decode cX7_lucky 4 = .ok (.ifCond .eq 10, 3) := by decide +kernel
theorem dX7_lucky_7 : decode cX7_lucky 7 = .ok (.iload_n 1, 1) := by decide +kernel
theorem dX7_lucky_8 : decode cX7_lucky 8 = .ok (.ldc_w 291, 3) := by decide +kernel
theorem dX7_lucky_11 : decode cX7_lucky 11 = .ok (.if_icmp .le 9, 3) := by decide +kernel
theorem dX7_lucky_14 : decode cX7_lucky 14 = .ok (.aload_n 0, 1) := by decide +kernel
theorem dX7_lucky_15 : decode cX7_lucky 15 = .ok (.iconst 1, 1) := by decide +kernel
theorem dX7_lucky_16 : decode cX7_lucky 16 = .ok (.invokevirtual 102, 3) := by decide +kernel
theorem dX7_lucky_19 : decode cX7_lucky 19 = .ok (.ireturn, 1) := by decide +kernel
theorem dX7_lucky_20 : decode cX7_lucky 20 = .ok (.aload_n 0, 1) := by decide +kernel
theorem dX7_lucky_21 : decode cX7_lucky 21 = .ok (.iload_n 2, 1) := by decide +kernel
theorem dX7_lucky_22 : decode cX7_lucky 22 = .ok (.invokevirtual 206, 3) := by decide +kernel
theorem dX7_lucky_25 : decode cX7_lucky 25 = .ok (.ifCond .ne 9, 3) := by decide +kernel
theorem dX7_lucky_28 : decode cX7_lucky 28 = .ok (.aload_n 0, 1) := by decide +kernel
theorem dX7_lucky_29 : decode cX7_lucky 29 = .ok (.iconst 2, 1) := by decide +kernel
theorem dX7_lucky_30 : decode cX7_lucky 30 = .ok (.invokevirtual 102, 3) := by decide +kernel
theorem dX7_lucky_33 : decode cX7_lucky 33 = .ok (.ireturn, 1) := by decide +kernel
theorem dX7_lucky_34 : decode cX7_lucky 34 = .ok (.iconst 0, 1) := by decide +kernel
theorem dX7_lucky_35 : decode cX7_lucky 35 = .ok (.istore_n 3, 1) := by decide +kernel
theorem dX7_lucky_36 : decode cX7_lucky 36 = .ok (.iload_n 3, 1) := by decide +kernel
theorem dX7_lucky_37 : decode cX7_lucky 37 = .ok (.bipush 50, 2) := by decide +kernel
theorem dX7_lucky_39 : decode cX7_lucky 39 = .ok (.if_icmp .ge 46, 3) := by decide +kernel
theorem dX7_lucky_42 : decode cX7_lucky 42 = .ok (.aload_n 0, 1) := by decide +kernel
theorem dX7_lucky_43 : decode cX7_lucky 43 = .ok (.getfield 47, 3) := by decide +kernel
theorem dX7_lucky_46 : decode cX7_lucky 46 = .ok (.aload_n 0, 1) := by decide +kernel
theorem dX7_lucky_47 : decode cX7_lucky 47 = .ok (.getfield 40, 3) := by decide +kernel
theorem dX7_lucky_50 : decode cX7_lucky 50 = .ok (.iload_n 1, 1) := by decide +kernel
theorem dX7_lucky_51 : decode cX7_lucky 51 = .ok (.iload_n 3, 1) := by decide +kernel
theorem dX7_lucky_52 : decode cX7_lucky 52 = .ok (.iadd, 1) := by decide +kernel
theorem dX7_lucky_53 : decode cX7_lucky 53 = .ok (.invokevirtual 247, 3) := by decide +kernel
theorem dX7_lucky_56 : decode cX7_lucky 56 = .ok (.aload_n 0, 1) := by decide +kernel
theorem dX7_lucky_57 : decode cX7_lucky 57 = .ok (.getfield 47, 3) := by decide +kernel
theorem dX7_lucky_60 : decode cX7_lucky 60 = .ok (.aload_n 0, 1) := by decide +kernel
theorem dX7_lucky_61 : decode cX7_lucky 61 = .ok (.getfield 40, 3) := by decide +kernel
theorem dX7_lucky_64 : decode cX7_lucky 64 = .ok (.iload_n 2, 1) := by decide +kernel
theorem dX7_lucky_65 : decode cX7_lucky 65 = .ok (.invokevirtual 292, 3) := by decide +kernel
theorem dX7_lucky_68 : decode cX7_lucky 68 = .ok (.ifCond .eq 11, 3) := by decide +kernel
theorem dX7_lucky_71 : decode cX7_lucky 71 = .ok (.aload_n 0, 1) := by decide +kernel
theorem dX7_lucky_72 : decode cX7_lucky 72 = .ok (.iload_n 1, 1) := by decide +kernel
theorem dX7_lucky_73 : decode cX7_lucky 73 = .ok (.iload_n 3, 1) := by decide +kernel
theorem dX7_lucky_74 : decode cX7_lucky 74 = .ok (.iadd, 1) := by decide +kernel
theorem dX7_lucky_75 : decode cX7_lucky 75 = .ok (.invokevirtual 134, 3) := by decide +kernel
theorem dX7_lucky_78 : decode cX7_lucky 78 = .ok (.ireturn, 1) := by decide +kernel
theorem dX7_lucky_79 : decode cX7_lucky 79 = .ok (.iinc 3 1, 3) := by decide +kernel
theorem dX7_lucky_82 : decode cX7_lucky 82 = .ok (.goto (-46), 3) := by decide +kernel
theorem dX7_lucky_85 : decode cX7_lucky 85 = .ok (.aload_n 0, 1) := by decide +kernel
theorem dX7_lucky_86 : decode cX7_lucky 86 = .ok (.iconst 5, 1) := by decide +kernel
theorem dX7_lucky_87 : decode cX7_lucky 87 = .ok (.invokevirtual 102, 3) := by decide +kernel
theorem dX7_lucky_90 : decode cX7_lucky 90 = .ok (.ireturn, 1) := by decide +kernel
theorem dX7_chance_0 : decode cX7_chance 0 = .ok (.iload_n 2, 1) := by decide +kernel
theorem dX7_chance_1 : decode cX7_chance 1 = .ok (.ifCond .lt 8, 3) := by decide +kernel
theorem dX7_chance_4 : decode cX7_chance 4 = .ok (.iload_n 2, 1) := by decide +kernel
theorem dX7_chance_5 : decode cX7_chance 5 = .ok (.iconst 2, 1) := by decide +kernel
theorem dX7_chance_6 : decode cX7_chance 6 = .ok (.if_icmp .le 10, 3) := by decide +kernel
theorem dX7_chance_9 : decode cX7_chance 9 = .ok (.aload_n 0, 1) := by decide +kernel
theorem dX7_chance_10 : decode cX7_chance 10 = .ok (.iconst 1, 1) := by decide +kernel
theorem dX7_chance_11 : decode cX7_chance 11 = .ok (.invokevirtual 102, 3) := by decide +kernel
theorem dX7_chance_14 : decode cX7_chance 14 = .ok (.i2l, 1) := by decide +kernel
theorem dX7_chance_15 : decode cX7_chance 15 = .ok (.lreturn, 1) := by decide +kernel
theorem dX7_chance_16 : decode cX7_chance 16 = .ok (.aload_n 0, 1) := by decide +kernel
theorem dX7_chance_17 : decode cX7_chance 17 = .ok (.iload_n 1, 1) := by decide +kernel
theorem dX7_chance_18 : decode cX7_chance 18 = .ok (.invokevirtual 206, 3) := by decide +kernel
theorem dX7_chance_21 : decode cX7_chance 21 = .ok (.ifCond .ne 10, 3) := by decide +kernel
theorem dX7_chance_24 : decode cX7_chance 24 = .ok (.aload_n 0, 1) := by decide +kernel
theorem dX7_chance_25 : decode cX7_chance 25 = .ok (.iconst 2, 1) := by decide +kernel
theorem dX7_chance_26 : decode cX7_chance 26 = .ok (.invokevirtual 102, 3) := by decide +kernel
theorem dX7_chance_29 : decode cX7_chance 29 = .ok (.i2l, 1) := by decide +kernel
theorem dX7_chance_30 : decode cX7_chance 30 = .ok (.lreturn, 1) := by decide +kernel
theorem dX7_chance_31 : decode cX7_chance 31 = .ok (.aload_n 0, 1) := by decide +kernel
theorem dX7_chance_32 : decode cX7_chance 32 = .ok (.getfield 40, 3) := by decide +kernel
theorem dX7_chance_35 : decode cX7_chance 35 = .ok (.getfield 140, 3) := by decide +kernel
theorem dX7_chance_38 : decode cX7_chance 38 = .ok (.bipush 7, 2) := by decide +kernel
theorem dX7_chance_40 : decode cX7_chance 40 = .ok (.if_icmp .le 10, 3) := by decide +kernel
theorem dX7_chance_43 : decode cX7_chance 43 = .ok (.aload_n 0, 1) := by decide +kernel
theorem dX7_chance_44 : decode cX7_chance 44 = .ok (.iconst 3, 1) := by decide +kernel
theorem dX7_chance_45 : decode cX7_chance 45 = .ok (.invokevirtual 102, 3) := by decide +kernel
theorem dX7_chance_48 : decode cX7_chance 48 = .ok (.i2l, 1) := by decide +kernel
theorem dX7_chance_49 : decode cX7_chance 49 = .ok (.lreturn, 1) := by decide +kernel
theorem dX7_chance_50 : decode cX7_chance 50 = .ok (.aload_n 0, 1) := by decide +kernel
theorem dX7_chance_51 : decode cX7_chance 51 = .ok (.invokevirtual 296, 3) := by decide +kernel
theorem dX7_chance_54 : decode cX7_chance 54 = .ok (.iload_n 2, 1) := by decide +kernel
theorem dX7_chance_55 : decode cX7_chance 55 = .ok (.lookupswitch 78 #[(0, 25), (1, 38)], 25) := by decide +kernel
theorem dX7_chance_80 : decode cX7_chance 80 = .ok (.aload_n 0, 1) := by decide +kernel
theorem dX7_chance_81 : decode cX7_chance 81 = .ok (.aload_n 0, 1) := by decide +kernel
theorem dX7_chance_82 : decode cX7_chance 82 = .ok (.getfield 54, 3) := by decide +kernel
theorem dX7_chance_85 : decode cX7_chance 85 = .ok (.iload_n 1, 1) := by decide +kernel
theorem dX7_chance_86 : decode cX7_chance 86 = .ok (.invokevirtual 299, 3) := by decide +kernel
theorem dX7_chance_89 : decode cX7_chance 89 = .ok (.invokevirtual 303, 3) := by decide +kernel
theorem dX7_chance_92 : decode cX7_chance 92 = .ok (.lreturn, 1) := by decide +kernel
theorem dX7_chance_93 : decode cX7_chance 93 = .ok (.aload_n 0, 1) := by decide +kernel
theorem dX7_chance_94 : decode cX7_chance 94 = .ok (.aload_n 0, 1) := by decide +kernel
theorem dX7_chance_95 : decode cX7_chance 95 = .ok (.getfield 40, 3) := by decide +kernel
theorem dX7_chance_98 : decode cX7_chance 98 = .ok (.getfield 219, 3) := by decide +kernel
theorem dX7_chance_101 : decode cX7_chance 101 = .ok (.iload_n 1, 1) := by decide +kernel
theorem dX7_chance_102 : decode cX7_chance 102 = .ok (.invokestatic 175, 3) := by decide +kernel
theorem dX7_chance_105 : decode cX7_chance 105 = .ok (.ifCond .ne 7, 3) := by decide +kernel
theorem dX7_chance_108 : decode cX7_chance 108 = .ok (.lconst 0, 1) := by decide +kernel
theorem dX7_chance_109 : decode cX7_chance 109 = .ok (.goto 20, 3) := by decide +kernel
theorem dX7_chance_112 : decode cX7_chance 112 = .ok (.aload_n 0, 1) := by decide +kernel
theorem dX7_chance_113 : decode cX7_chance 113 = .ok (.getfield 54, 3) := by decide +kernel
theorem dX7_chance_116 : decode cX7_chance 116 = .ok (.iload_n 1, 1) := by decide +kernel
theorem dX7_chance_117 : decode cX7_chance 117 = .ok (.aload_n 0, 1) := by decide +kernel
theorem dX7_chance_118 : decode cX7_chance 118 = .ok (.getfield 40, 3) := by decide +kernel
theorem dX7_chance_121 : decode cX7_chance 121 = .ok (.iload_n 1, 1) := by decide +kernel
theorem dX7_chance_122 : decode cX7_chance 122 = .ok (.iconst 0, 1) := by decide +kernel
theorem dX7_chance_123 : decode cX7_chance 123 = .ok (.invokevirtual 226, 3) := by decide +kernel
theorem dX7_chance_126 : decode cX7_chance 126 = .ok (.invokevirtual 307, 3) := by decide +kernel
theorem dX7_chance_129 : decode cX7_chance 129 = .ok (.invokevirtual 303, 3) := by decide +kernel
theorem dX7_chance_132 : decode cX7_chance 132 = .ok (.lreturn, 1) := by decide +kernel
theorem dX7_chance_133 : decode cX7_chance 133 = .ok (.aload_n 0, 1) := by decide +kernel
theorem dX7_chance_134 : decode cX7_chance 134 = .ok (.aload_n 0, 1) := by decide +kernel
theorem dX7_chance_135 : decode cX7_chance 135 = .ok (.getfield 54, 3) := by decide +kernel
theorem dX7_chance_138 : decode cX7_chance 138 = .ok (.getfield 311, 3) := by decide +kernel
theorem dX7_chance_141 : decode cX7_chance 141 = .ok (.iload_n 1, 1) := by decide +kernel
theorem dX7_chance_142 : decode cX7_chance 142 = .ok (.invokestatic 315, 3) := by decide +kernel
theorem dX7_chance_145 : decode cX7_chance 145 = .ok (.invokevirtual 303, 3) := by decide +kernel
theorem dX7_chance_148 : decode cX7_chance 148 = .ok (.lreturn, 1) := by decide +kernel
theorem dX7_at_0 : decode cX7_at 0 = .ok (.aload_n 0, 1) := by decide +kernel
theorem dX7_at_1 : decode cX7_at 1 = .ok (.iload_n 1, 1) := by decide +kernel
theorem dX7_at_2 : decode cX7_at 2 = .ok (.invokevirtual 206, 3) := by decide +kernel
theorem dX7_at_5 : decode cX7_at 5 = .ok (.ifCond .eq 11, 3) := by decide +kernel
theorem dX7_at_8 : decode cX7_at 8 = .ok (.aload_n 0, 1) := by decide +kernel
theorem dX7_at_9 : decode cX7_at 9 = .ok (.iload_n 2, 1) := by decide +kernel
theorem dX7_at_10 : decode cX7_at 10 = .ok (.invokevirtual 188, 3) := by decide +kernel
theorem dX7_at_13 : decode cX7_at 13 = .ok (.ifCond .ne 10, 3) := by decide +kernel
theorem dX7_at_16 : decode cX7_at 16 = .ok (.aload_n 0, 1) := by decide +kernel
theorem dX7_at_17 : decode cX7_at 17 = .ok (.iconst 2, 1) := by decide +kernel
theorem dX7_at_18 : decode cX7_at 18 = .ok (.invokevirtual 102, 3) := by decide +kernel
theorem dX7_at_21 : decode cX7_at 21 = .ok (.i2l, 1) := by decide +kernel
theorem dX7_at_22 : decode cX7_at 22 = .ok (.lreturn, 1) := by decide +kernel
theorem dX7_at_23 : decode cX7_at 23 = .ok (.aload_n 0, 1) := by decide +kernel
theorem dX7_at_24 : decode cX7_at 24 = .ok (.getfield 40, 3) := by decide +kernel
theorem dX7_at_27 : decode cX7_at 27 = .ok (.getfield 140, 3) := by decide +kernel
theorem dX7_at_30 : decode cX7_at 30 = .ok (.bipush 7, 2) := by decide +kernel
theorem dX7_at_32 : decode cX7_at 32 = .ok (.if_icmp .le 10, 3) := by decide +kernel
theorem dX7_at_35 : decode cX7_at 35 = .ok (.aload_n 0, 1) := by decide +kernel
theorem dX7_at_36 : decode cX7_at 36 = .ok (.iconst 3, 1) := by decide +kernel
theorem dX7_at_37 : decode cX7_at 37 = .ok (.invokevirtual 102, 3) := by decide +kernel
theorem dX7_at_40 : decode cX7_at 40 = .ok (.i2l, 1) := by decide +kernel
theorem dX7_at_41 : decode cX7_at 41 = .ok (.lreturn, 1) := by decide +kernel
theorem dX7_at_42 : decode cX7_at 42 = .ok (.aload_n 0, 1) := by decide +kernel
theorem dX7_at_43 : decode cX7_at 43 = .ok (.invokevirtual 296, 3) := by decide +kernel
theorem dX7_at_46 : decode cX7_at 46 = .ok (.aload_n 0, 1) := by decide +kernel
theorem dX7_at_47 : decode cX7_at 47 = .ok (.aload_n 0, 1) := by decide +kernel
theorem dX7_at_48 : decode cX7_at 48 = .ok (.getfield 54, 3) := by decide +kernel
theorem dX7_at_51 : decode cX7_at 51 = .ok (.iload_n 1, 1) := by decide +kernel
theorem dX7_at_52 : decode cX7_at 52 = .ok (.iload_n 2, 1) := by decide +kernel
theorem dX7_at_53 : decode cX7_at 53 = .ok (.invokevirtual 307, 3) := by decide +kernel
theorem dX7_at_56 : decode cX7_at 56 = .ok (.invokevirtual 303, 3) := by decide +kernel
theorem dX7_at_59 : decode cX7_at 59 = .ok (.lreturn, 1) := by decide +kernel
theorem dX7_both_0 : decode cX7_both 0 = .ok (.aload_n 0, 1) := by decide +kernel
theorem dX7_both_1 : decode cX7_both 1 = .ok (.iload_n 1, 1) := by decide +kernel
theorem dX7_both_2 : decode cX7_both 2 = .ok (.invokevirtual 206, 3) := by decide +kernel
theorem dX7_both_5 : decode cX7_both 5 = .ok (.ifCond .eq 11, 3) := by decide +kernel
theorem dX7_both_8 : decode cX7_both 8 = .ok (.aload_n 0, 1) := by decide +kernel
theorem dX7_both_9 : decode cX7_both 9 = .ok (.iload_n 2, 1) := by decide +kernel
theorem dX7_both_10 : decode cX7_both 10 = .ok (.invokevirtual 206, 3) := by decide +kernel
theorem dX7_both_13 : decode cX7_both 13 = .ok (.ifCond .ne 10, 3) := by decide +kernel
theorem dX7_both_16 : decode cX7_both 16 = .ok (.aload_n 0, 1) := by decide +kernel
theorem dX7_both_17 : decode cX7_both 17 = .ok (.iconst 2, 1) := by decide +kernel
theorem dX7_both_18 : decode cX7_both 18 = .ok (.invokevirtual 102, 3) := by decide +kernel
theorem dX7_both_21 : decode cX7_both 21 = .ok (.i2l, 1) := by decide +kernel
theorem dX7_both_22 : decode cX7_both 22 = .ok (.lreturn, 1) := by decide +kernel
theorem dX7_both_23 : decode cX7_both 23 = .ok (.iload_n 1, 1) := by decide +kernel
theorem dX7_both_24 : decode cX7_both 24 = .ok (.iload_n 2, 1) := by decide +kernel
theorem dX7_both_25 : decode cX7_both 25 = .ok (.if_icmp .ne 10, 3) := by decide +kernel
theorem dX7_both_28 : decode cX7_both 28 = .ok (.aload_n 0, 1) := by decide +kernel
theorem dX7_both_29 : decode cX7_both 29 = .ok (.iconst 4, 1) := by decide +kernel
theorem dX7_both_30 : decode cX7_both 30 = .ok (.invokevirtual 102, 3) := by decide +kernel
theorem dX7_both_33 : decode cX7_both 33 = .ok (.i2l, 1) := by decide +kernel
theorem dX7_both_34 : decode cX7_both 34 = .ok (.lreturn, 1) := by decide +kernel
theorem dX7_both_35 : decode cX7_both 35 = .ok (.aload_n 0, 1) := by decide +kernel
theorem dX7_both_36 : decode cX7_both 36 = .ok (.getfield 40, 3) := by decide +kernel
theorem dX7_both_39 : decode cX7_both 39 = .ok (.getfield 140, 3) := by decide +kernel
theorem dX7_both_42 : decode cX7_both 42 = .ok (.bipush 7, 2) := by decide +kernel
theorem dX7_both_44 : decode cX7_both 44 = .ok (.if_icmp .le 10, 3) := by decide +kernel
theorem dX7_both_47 : decode cX7_both 47 = .ok (.aload_n 0, 1) := by decide +kernel
theorem dX7_both_48 : decode cX7_both 48 = .ok (.iconst 3, 1) := by decide +kernel
theorem dX7_both_49 : decode cX7_both 49 = .ok (.invokevirtual 102, 3) := by decide +kernel
theorem dX7_both_52 : decode cX7_both 52 = .ok (.i2l, 1) := by decide +kernel
theorem dX7_both_53 : decode cX7_both 53 = .ok (.lreturn, 1) := by decide +kernel
theorem dX7_both_54 : decode cX7_both 54 = .ok (.aload_n 0, 1) := by decide +kernel
theorem dX7_both_55 : decode cX7_both 55 = .ok (.invokevirtual 296, 3) := by decide +kernel
theorem dX7_both_58 : decode cX7_both 58 = .ok (.aload_n 0, 1) := by decide +kernel
theorem dX7_both_59 : decode cX7_both 59 = .ok (.aload_n 0, 1) := by decide +kernel
theorem dX7_both_60 : decode cX7_both 60 = .ok (.getfield 54, 3) := by decide +kernel
theorem dX7_both_63 : decode cX7_both 63 = .ok (.iconst 1, 1) := by decide +kernel
theorem dX7_both_64 : decode cX7_both 64 = .ok (.iload_n 1, 1) := by decide +kernel
theorem dX7_both_65 : decode cX7_both 65 = .ok (.ishl, 1) := by decide +kernel
theorem dX7_both_66 : decode cX7_both 66 = .ok (.iconst 1, 1) := by decide +kernel
theorem dX7_both_67 : decode cX7_both 67 = .ok (.iload_n 2, 1) := by decide +kernel
theorem dX7_both_68 : decode cX7_both 68 = .ok (.ishl, 1) := by decide +kernel
theorem dX7_both_69 : decode cX7_both 69 = .ok (.ior, 1) := by decide +kernel
theorem dX7_both_70 : decode cX7_both 70 = .ok (.invokevirtual 319, 3) := by decide +kernel
theorem dX7_both_73 : decode cX7_both 73 = .ok (.invokevirtual 303, 3) := by decide +kernel
theorem dX7_both_76 : decode cX7_both 76 = .ok (.lreturn, 1) := by decide +kernel
theorem dX7_sure_0 : decode cX7_sure 0 = .ok (.iload_n 1, 1) := by decide +kernel
theorem dX7_sure_1 : decode cX7_sure 1 = .ok (.ifCond .lt 8, 3) := by decide +kernel
theorem dX7_sure_4 : decode cX7_sure 4 = .ok (.iload_n 1, 1) := by decide +kernel
theorem dX7_sure_5 : decode cX7_sure 5 = .ok (.iconst 1, 1) := by decide +kernel
theorem dX7_sure_6 : decode cX7_sure 6 = .ok (.if_icmp .le 9, 3) := by decide +kernel
theorem dX7_sure_9 : decode cX7_sure 9 = .ok (.aload_n 0, 1) := by decide +kernel
theorem dX7_sure_10 : decode cX7_sure 10 = .ok (.iconst 1, 1) := by decide +kernel
theorem dX7_sure_11 : decode cX7_sure 11 = .ok (.invokevirtual 102, 3) := by decide +kernel
theorem dX7_sure_14 : decode cX7_sure 14 = .ok (.ireturn, 1) := by decide +kernel
theorem dX7_sure_15 : decode cX7_sure 15 = .ok (.aload_n 0, 1) := by decide +kernel
theorem dX7_sure_16 : decode cX7_sure 16 = .ok (.getfield 40, 3) := by decide +kernel
theorem dX7_sure_19 : decode cX7_sure 19 = .ok (.getfield 140, 3) := by decide +kernel
theorem dX7_sure_22 : decode cX7_sure 22 = .ok (.bipush 7, 2) := by decide +kernel
theorem dX7_sure_24 : decode cX7_sure 24 = .ok (.if_icmp .le 9, 3) := by decide +kernel
theorem dX7_sure_27 : decode cX7_sure 27 = .ok (.aload_n 0, 1) := by decide +kernel
theorem dX7_sure_28 : decode cX7_sure 28 = .ok (.iconst 3, 1) := by decide +kernel
theorem dX7_sure_29 : decode cX7_sure 29 = .ok (.invokevirtual 102, 3) := by decide +kernel
theorem dX7_sure_32 : decode cX7_sure 32 = .ok (.ireturn, 1) := by decide +kernel
theorem dX7_sure_33 : decode cX7_sure 33 = .ok (.aload_n 0, 1) := by decide +kernel
theorem dX7_sure_34 : decode cX7_sure 34 = .ok (.invokevirtual 296, 3) := by decide +kernel
theorem dX7_sure_37 : decode cX7_sure 37 = .ok (.iconst 1, 1) := by decide +kernel
theorem dX7_sure_38 : decode cX7_sure 38 = .ok (.aload_n 0, 1) := by decide +kernel
theorem dX7_sure_39 : decode cX7_sure 39 = .ok (.getfield 40, 3) := by decide +kernel
theorem dX7_sure_42 : decode cX7_sure 42 = .ok (.getfield 140, 3) := by decide +kernel
theorem dX7_sure_45 : decode cX7_sure 45 = .ok (.ishl, 1) := by decide +kernel
theorem dX7_sure_46 : decode cX7_sure 46 = .ok (.iconst 1, 1) := by decide +kernel
theorem dX7_sure_47 : decode cX7_sure 47 = .ok (.isub, 1) := by decide +kernel
theorem dX7_sure_48 : decode cX7_sure 48 = .ok (.istore_n 2, 1) := by decide +kernel
theorem dX7_sure_49 : decode cX7_sure 49 = .ok (.aload_n 0, 1) := by decide +kernel
theorem dX7_sure_50 : decode cX7_sure 50 = .ok (.iload_n 1, 1) := by decide +kernel
theorem dX7_sure_51 : decode cX7_sure 51 = .ok (.ifCond .ne 13, 3) := by decide +kernel
theorem dX7_sure_54 : decode cX7_sure 54 = .ok (.aload_n 0, 1) := by decide +kernel
theorem dX7_sure_55 : decode cX7_sure 55 = .ok (.getfield 54, 3) := by decide +kernel
theorem dX7_sure_58 : decode cX7_sure 58 = .ok (.invokevirtual 322, 3) := by decide +kernel
theorem dX7_sure_61 : decode cX7_sure 61 = .ok (.goto 14, 3) := by decide +kernel
theorem dX7_sure_64 : decode cX7_sure 64 = .ok (.iload_n 2, 1) := by decide +kernel
theorem dX7_sure_65 : decode cX7_sure 65 = .ok (.aload_n 0, 1) := by decide +kernel
theorem dX7_sure_66 : decode cX7_sure 66 = .ok (.getfield 54, 3) := by decide +kernel
theorem dX7_sure_69 : decode cX7_sure 69 = .ok (.invokevirtual 326, 3) := by decide +kernel
theorem dX7_sure_72 : decode cX7_sure 72 = .ok (.iconst (-1), 1) := by decide +kernel
theorem dX7_sure_73 : decode cX7_sure 73 = .ok (.ixor, 1) := by decide +kernel
theorem dX7_sure_74 : decode cX7_sure 74 = .ok (.iand, 1) := by decide +kernel
theorem dX7_sure_75 : decode cX7_sure 75 = .ok (.invokevirtual 134, 3) := by decide +kernel
theorem dX7_sure_78 : decode cX7_sure 78 = .ok (.ireturn, 1) := by decide +kernel
theorem dX7_mean_0 : decode cX7_mean 0 = .ok (.aload_n 0, 1) := by decide +kernel
theorem dX7_mean_1 : decode cX7_mean 1 = .ok (.iload_n 1, 1) := by decide +kernel
theorem dX7_mean_2 : decode cX7_mean 2 = .ok (.invokevirtual 188, 3) := by decide +kernel
theorem dX7_mean_5 : decode cX7_mean 5 = .ok (.ifCond .ne 10, 3) := by decide +kernel
theorem dX7_mean_8 : decode cX7_mean 8 = .ok (.aload_n 0, 1) := by decide +kernel
theorem dX7_mean_9 : decode cX7_mean 9 = .ok (.iconst 2, 1) := by decide +kernel
theorem dX7_mean_10 : decode cX7_mean 10 = .ok (.invokevirtual 102, 3) := by decide +kernel
theorem dX7_mean_13 : decode cX7_mean 13 = .ok (.i2l, 1) := by decide +kernel
theorem dX7_mean_14 : decode cX7_mean 14 = .ok (.lreturn, 1) := by decide +kernel
theorem dX7_mean_15 : decode cX7_mean 15 = .ok (.aload_n 0, 1) := by decide +kernel
theorem dX7_mean_16 : decode cX7_mean 16 = .ok (.getfield 40, 3) := by decide +kernel
theorem dX7_mean_19 : decode cX7_mean 19 = .ok (.getfield 140, 3) := by decide +kernel
theorem dX7_mean_22 : decode cX7_mean 22 = .ok (.bipush 7, 2) := by decide +kernel
theorem dX7_mean_24 : decode cX7_mean 24 = .ok (.if_icmp .le 10, 3) := by decide +kernel
theorem dX7_mean_27 : decode cX7_mean 27 = .ok (.aload_n 0, 1) := by decide +kernel
theorem dX7_mean_28 : decode cX7_mean 28 = .ok (.iconst 3, 1) := by decide +kernel
theorem dX7_mean_29 : decode cX7_mean 29 = .ok (.invokevirtual 102, 3) := by decide +kernel
theorem dX7_mean_32 : decode cX7_mean 32 = .ok (.i2l, 1) := by decide +kernel
theorem dX7_mean_33 : decode cX7_mean 33 = .ok (.lreturn, 1) := by decide +kernel
theorem dX7_mean_34 : decode cX7_mean 34 = .ok (.aload_n 0, 1) := by decide +kernel
theorem dX7_mean_35 : decode cX7_mean 35 = .ok (.invokevirtual 296, 3) := by decide +kernel
theorem dX7_mean_38 : decode cX7_mean 38 = .ok (.lconst 0, 1) := by decide +kernel
theorem dX7_mean_39 : decode cX7_mean 39 = .ok (.lstore_n 2, 1) := by decide +kernel
theorem dX7_mean_40 : decode cX7_mean 40 = .ok (.iconst 0, 1) := by decide +kernel
theorem dX7_mean_41 : decode cX7_mean 41 = .ok (.istore 4, 2) := by decide +kernel
theorem dX7_mean_43 : decode cX7_mean 43 = .ok (.iload 4, 2) := by decide +kernel
theorem dX7_mean_45 : decode cX7_mean 45 = .ok (.aload_n 0, 1) := by decide +kernel
theorem dX7_mean_46 : decode cX7_mean 46 = .ok (.getfield 40, 3) := by decide +kernel
theorem dX7_mean_49 : decode cX7_mean 49 = .ok (.getfield 140, 3) := by decide +kernel
theorem dX7_mean_52 : decode cX7_mean 52 = .ok (.if_icmp .ge 36, 3) := by decide +kernel
theorem dX7_mean_55 : decode cX7_mean 55 = .ok (.lload_n 2, 1) := by decide +kernel
theorem dX7_mean_56 : decode cX7_mean 56 = .ok (.aload_n 0, 1) := by decide +kernel
theorem dX7_mean_57 : decode cX7_mean 57 = .ok (.getfield 40, 3) := by decide +kernel
theorem dX7_mean_60 : decode cX7_mean 60 = .ok (.getfield 209, 3) := by decide +kernel
theorem dX7_mean_63 : decode cX7_mean 63 = .ok (.iload 4, 2) := by decide +kernel
theorem dX7_mean_65 : decode cX7_mean 65 = .ok (.invokestatic 175, 3) := by decide +kernel
theorem dX7_mean_68 : decode cX7_mean 68 = .ok (.i2l, 1) := by decide +kernel
theorem dX7_mean_69 : decode cX7_mean 69 = .ok (.aload_n 0, 1) := by decide +kernel
theorem dX7_mean_70 : decode cX7_mean 70 = .ok (.getfield 54, 3) := by decide +kernel
theorem dX7_mean_73 : decode cX7_mean 73 = .ok (.iload 4, 2) := by decide +kernel
theorem dX7_mean_75 : decode cX7_mean 75 = .ok (.iload_n 1, 1) := by decide +kernel
theorem dX7_mean_76 : decode cX7_mean 76 = .ok (.invokevirtual 307, 3) := by decide +kernel
theorem dX7_mean_79 : decode cX7_mean 79 = .ok (.lmul, 1) := by decide +kernel
theorem dX7_mean_80 : decode cX7_mean 80 = .ok (.ladd, 1) := by decide +kernel
theorem dX7_mean_81 : decode cX7_mean 81 = .ok (.lstore_n 2, 1) := by decide +kernel
theorem dX7_mean_82 : decode cX7_mean 82 = .ok (.iinc 4 1, 3) := by decide +kernel
theorem dX7_mean_85 : decode cX7_mean 85 = .ok (.goto (-42), 3) := by decide +kernel
theorem dX7_mean_88 : decode cX7_mean 88 = .ok (.aload_n 0, 1) := by decide +kernel
theorem dX7_mean_89 : decode cX7_mean 89 = .ok (.lload_n 2, 1) := by decide +kernel
theorem dX7_mean_90 : decode cX7_mean 90 = .ok (.invokevirtual 303, 3) := by decide +kernel
theorem dX7_mean_93 : decode cX7_mean 93 = .ok (.lreturn, 1) := by decide +kernel
theorem dX7_given_0 : decode cX7_given 0 = .ok (.iload_n 1, 1) := by decide +kernel
theorem dX7_given_1 : decode cX7_given 1 = .ok (.ifCond .lt 8, 3) := by decide +kernel
theorem dX7_given_4 : decode cX7_given 4 = .ok (.iload_n 1, 1) := by decide +kernel
theorem dX7_given_5 : decode cX7_given 5 = .ok (.iconst 1, 1) := by decide +kernel
theorem dX7_given_6 : decode cX7_given 6 = .ok (.if_icmp .le 9, 3) := by decide +kernel
theorem dX7_given_9 : decode cX7_given 9 = .ok (.aload_n 0, 1) := by decide +kernel
theorem dX7_given_10 : decode cX7_given 10 = .ok (.iconst 1, 1) := by decide +kernel
theorem dX7_given_11 : decode cX7_given 11 = .ok (.invokevirtual 102, 3) := by decide +kernel
theorem dX7_given_14 : decode cX7_given 14 = .ok (.ireturn, 1) := by decide +kernel
theorem dX7_given_15 : decode cX7_given 15 = .ok (.aload_n 0, 1) := by decide +kernel
theorem dX7_given_16 : decode cX7_given 16 = .ok (.getfield 40, 3) := by decide +kernel
theorem dX7_given_19 : decode cX7_given 19 = .ok (.getfield 140, 3) := by decide +kernel
theorem dX7_given_22 : decode cX7_given 22 = .ok (.bipush 7, 2) := by decide +kernel
theorem dX7_given_24 : decode cX7_given 24 = .ok (.if_icmp .le 9, 3) := by decide +kernel
theorem dX7_given_27 : decode cX7_given 27 = .ok (.aload_n 0, 1) := by decide +kernel
theorem dX7_given_28 : decode cX7_given 28 = .ok (.iconst 3, 1) := by decide +kernel
theorem dX7_given_29 : decode cX7_given 29 = .ok (.invokevirtual 102, 3) := by decide +kernel
theorem dX7_given_32 : decode cX7_given 32 = .ok (.ireturn, 1) := by decide +kernel
theorem dX7_given_33 : decode cX7_given 33 = .ok (.aload_n 0, 1) := by decide +kernel
theorem dX7_given_34 : decode cX7_given 34 = .ok (.invokevirtual 296, 3) := by decide +kernel
theorem dX7_given_37 : decode cX7_given 37 = .ok (.aload_n 0, 1) := by decide +kernel
theorem dX7_given_38 : decode cX7_given 38 = .ok (.iload_n 1, 1) := by decide +kernel
theorem dX7_given_39 : decode cX7_given 39 = .ok (.ifCond .ne 17, 3) := by decide +kernel
theorem dX7_given_42 : decode cX7_given 42 = .ok (.aload_n 0, 1) := by decide +kernel
theorem dX7_given_43 : decode cX7_given 43 = .ok (.getfield 54, 3) := by decide +kernel
theorem dX7_given_46 : decode cX7_given 46 = .ok (.aload_n 0, 1) := by decide +kernel
theorem dX7_given_47 : decode cX7_given 47 = .ok (.getfield 40, 3) := by decide +kernel
theorem dX7_given_50 : decode cX7_given 50 = .ok (.invokevirtual 329, 3) := by decide +kernel
theorem dX7_given_53 : decode cX7_given 53 = .ok (.goto 14, 3) := by decide +kernel
theorem dX7_given_56 : decode cX7_given 56 = .ok (.aload_n 0, 1) := by decide +kernel
theorem dX7_given_57 : decode cX7_given 57 = .ok (.getfield 54, 3) := by decide +kernel
theorem dX7_given_60 : decode cX7_given 60 = .ok (.aload_n 0, 1) := by decide +kernel
theorem dX7_given_61 : decode cX7_given 61 = .ok (.getfield 40, 3) := by decide +kernel
theorem dX7_given_64 : decode cX7_given 64 = .ok (.invokevirtual 333, 3) := by decide +kernel
theorem dX7_given_67 : decode cX7_given 67 = .ok (.invokevirtual 134, 3) := by decide +kernel
theorem dX7_given_70 : decode cX7_given 70 = .ok (.ireturn, 1) := by decide +kernel
theorem dX7_ends_0 : decode cX7_ends 0 = .ok (.aload_n 0, 1) := by decide +kernel
theorem dX7_ends_1 : decode cX7_ends 1 = .ok (.getfield 40, 3) := by decide +kernel
theorem dX7_ends_4 : decode cX7_ends 4 = .ok (.getfield 140, 3) := by decide +kernel
theorem dX7_ends_7 : decode cX7_ends 7 = .ok (.bipush 7, 2) := by decide +kernel
theorem dX7_ends_9 : decode cX7_ends 9 = .ok (.if_icmp .le 9, 3) := by decide +kernel
theorem dX7_ends_12 : decode cX7_ends 12 = .ok (.aload_n 0, 1) := by decide +kernel
theorem dX7_ends_13 : decode cX7_ends 13 = .ok (.iconst 3, 1) := by decide +kernel
theorem dX7_ends_14 : decode cX7_ends 14 = .ok (.invokevirtual 102, 3) := by decide +kernel
theorem dX7_ends_17 : decode cX7_ends 17 = .ok (.ireturn, 1) := by decide +kernel
theorem dX7_ends_18 : decode cX7_ends 18 = .ok (.aload_n 0, 1) := by decide +kernel
theorem dX7_ends_19 : decode cX7_ends 19 = .ok (.invokevirtual 296, 3) := by decide +kernel
theorem dX7_ends_22 : decode cX7_ends 22 = .ok (.aload_n 0, 1) := by decide +kernel
theorem dX7_ends_23 : decode cX7_ends 23 = .ok (.aload_n 0, 1) := by decide +kernel
theorem dX7_ends_24 : decode cX7_ends 24 = .ok (.getfield 54, 3) := by decide +kernel
theorem dX7_ends_27 : decode cX7_ends 27 = .ok (.getfield 336, 3) := by decide +kernel
theorem dX7_ends_30 : decode cX7_ends 30 = .ok (.invokestatic 161, 3) := by decide +kernel
theorem dX7_ends_33 : decode cX7_ends 33 = .ok (.invokevirtual 134, 3) := by decide +kernel
theorem dX7_ends_36 : decode cX7_ends 36 = .ok (.ireturn, 1) := by decide +kernel
theorem dX7_need_0 : decode cX7_need 0 = .ok (.iload_n 2, 1) := by decide +kernel
theorem dX7_need_1 : decode cX7_need 1 = .ok (.ifCond .lt 10, 3) := by decide +kernel
theorem dX7_need_4 : decode cX7_need 4 = .ok (.iload_n 2, 1) := by decide +kernel
theorem dX7_need_5 : decode cX7_need 5 = .ok (.sipush 1000, 3) := by decide +kernel
theorem dX7_need_8 : decode cX7_need 8 = .ok (.if_icmp .le 9, 3) := by decide +kernel
theorem dX7_need_11 : decode cX7_need 11 = .ok (.aload_n 0, 1) := by decide +kernel
theorem dX7_need_12 : decode cX7_need 12 = .ok (.iconst 1, 1) := by decide +kernel
theorem dX7_need_13 : decode cX7_need 13 = .ok (.invokevirtual 102, 3) := by decide +kernel
theorem dX7_need_16 : decode cX7_need 16 = .ok (.ireturn, 1) := by decide +kernel
theorem dX7_need_17 : decode cX7_need 17 = .ok (.aload_n 0, 1) := by decide +kernel
theorem dX7_need_18 : decode cX7_need 18 = .ok (.iload_n 1, 1) := by decide +kernel
theorem dX7_need_19 : decode cX7_need 19 = .ok (.invokevirtual 168, 3) := by decide +kernel
theorem dX7_need_22 : decode cX7_need 22 = .ok (.ifCond .ne 9, 3) := by decide +kernel
theorem dX7_need_25 : decode cX7_need 25 = .ok (.aload_n 0, 1) := by decide +kernel
theorem dX7_need_26 : decode cX7_need 26 = .ok (.iconst 2, 1) := by decide +kernel
theorem dX7_need_27 : decode cX7_need 27 = .ok (.invokevirtual 102, 3) := by decide +kernel
theorem dX7_need_30 : decode cX7_need 30 = .ok (.ireturn, 1) := by decide +kernel
theorem dX7_need_31 : decode cX7_need 31 = .ok (.aload_n 0, 1) := by decide +kernel
theorem dX7_need_32 : decode cX7_need 32 = .ok (.getfield 26, 3) := by decide +kernel
theorem dX7_need_35 : decode cX7_need 35 = .ok (.getfield 179, 3) := by decide +kernel
theorem dX7_need_38 : decode cX7_need 38 = .ok (.iload_n 1, 1) := by decide +kernel
theorem dX7_need_39 : decode cX7_need 39 = .ok (.invokestatic 175, 3) := by decide +kernel
theorem dX7_need_42 : decode cX7_need 42 = .ok (.iconst (-1), 1) := by decide +kernel
theorem dX7_need_43 : decode cX7_need 43 = .ok (.if_icmp .eq 10, 3) := by decide +kernel
theorem dX7_need_46 : decode cX7_need 46 = .ok (.aload_n 0, 1) := by decide +kernel
theorem dX7_need_47 : decode cX7_need 47 = .ok (.bipush 7, 2) := by decide +kernel
theorem dX7_need_49 : decode cX7_need 49 = .ok (.invokevirtual 102, 3) := by decide +kernel
theorem dX7_need_52 : decode cX7_need 52 = .ok (.ireturn, 1) := by decide +kernel
theorem dX7_need_53 : decode cX7_need 53 = .ok (.aload_n 0, 1) := by decide +kernel
theorem dX7_need_54 : decode cX7_need 54 = .ok (.getfield 40, 3) := by decide +kernel
theorem dX7_need_57 : decode cX7_need 57 = .ok (.getfield 140, 3) := by decide +kernel
theorem dX7_need_60 : decode cX7_need 60 = .ok (.bipush 7, 2) := by decide +kernel
theorem dX7_need_62 : decode cX7_need 62 = .ok (.if_icmp .le 9, 3) := by decide +kernel
theorem dX7_need_65 : decode cX7_need 65 = .ok (.aload_n 0, 1) := by decide +kernel
theorem dX7_need_66 : decode cX7_need 66 = .ok (.iconst 3, 1) := by decide +kernel
theorem dX7_need_67 : decode cX7_need 67 = .ok (.invokevirtual 102, 3) := by decide +kernel
theorem dX7_need_70 : decode cX7_need 70 = .ok (.ireturn, 1) := by decide +kernel
theorem dX7_need_71 : decode cX7_need 71 = .ok (.aload_n 0, 1) := by decide +kernel
theorem dX7_need_72 : decode cX7_need 72 = .ok (.getfield 40, 3) := by decide +kernel
theorem dX7_need_75 : decode cX7_need 75 = .ok (.getfield 182, 3) := by decide +kernel
theorem dX7_need_78 : decode cX7_need 78 = .ok (.iload_n 1, 1) := by decide +kernel
theorem dX7_need_79 : decode cX7_need 79 = .ok (.invokestatic 175, 3) := by decide +kernel
theorem dX7_need_82 : decode cX7_need 82 = .ok (.istore_n 3, 1) := by decide +kernel
theorem dX7_need_83 : decode cX7_need 83 = .ok (.aload_n 0, 1) := by decide +kernel
theorem dX7_need_84 : decode cX7_need 84 = .ok (.getfield 65, 3) := by decide +kernel
theorem dX7_need_87 : decode cX7_need 87 = .ok (.aload_n 0, 1) := by decide +kernel
theorem dX7_need_88 : decode cX7_need 88 = .ok (.getfield 26, 3) := by decide +kernel
theorem dX7_need_91 : decode cX7_need 91 = .ok (.invokevirtual 113, 3) := by decide +kernel
theorem dX7_need_94 : decode cX7_need 94 = .ok (.iconst 0, 1) := by decide +kernel
theorem dX7_need_95 : decode cX7_need 95 = .ok (.istore 4, 2) := by decide +kernel
theorem dX7_need_97 : decode cX7_need 97 = .ok (.iload 4, 2) := by decide +kernel
theorem dX7_need_99 : decode cX7_need 99 = .ok (.bipush 20, 2) := by decide +kernel
theorem dX7_need_101 : decode cX7_need 101 = .ok (.if_icmp .gt 69, 3) := by decide +kernel
theorem dX7_need_104 : decode cX7_need 104 = .ok (.aload_n 0, 1) := by decide +kernel
theorem dX7_need_105 : decode cX7_need 105 = .ok (.getfield 65, 3) := by decide +kernel
theorem dX7_need_108 : decode cX7_need 108 = .ok (.getfield 172, 3) := by decide +kernel
theorem dX7_need_111 : decode cX7_need 111 = .ok (.iload_n 1, 1) := by decide +kernel
theorem dX7_need_112 : decode cX7_need 112 = .ok (.iload 4, 2) := by decide +kernel
theorem dX7_need_114 : decode cX7_need 114 = .ok (.invokestatic 98, 3) := by decide +kernel
theorem dX7_need_117 : decode cX7_need 117 = .ok (.aload_n 0, 1) := by decide +kernel
theorem dX7_need_118 : decode cX7_need 118 = .ok (.getfield 68, 3) := by decide +kernel
theorem dX7_need_121 : decode cX7_need 121 = .ok (.aload_n 0, 1) := by decide +kernel
theorem dX7_need_122 : decode cX7_need 122 = .ok (.getfield 65, 3) := by decide +kernel
theorem dX7_need_125 : decode cX7_need 125 = .ok (.invokevirtual 80, 3) := by decide +kernel
theorem dX7_need_128 : decode cX7_need 128 = .ok (.aload_n 0, 1) := by decide +kernel
theorem dX7_need_129 : decode cX7_need 129 = .ok (.getfield 74, 3) := by decide +kernel
theorem dX7_need_132 : decode cX7_need 132 = .ok (.aload_n 0, 1) := by decide +kernel
theorem dX7_need_133 : decode cX7_need 133 = .ok (.getfield 68, 3) := by decide +kernel
theorem dX7_need_136 : decode cX7_need 136 = .ok (.invokevirtual 339, 3) := by decide +kernel
theorem dX7_need_139 : decode cX7_need 139 = .ok (.aload_n 0, 1) := by decide +kernel
theorem dX7_need_140 : decode cX7_need 140 = .ok (.getfield 74, 3) := by decide +kernel
theorem dX7_need_143 : decode cX7_need 143 = .ok (.iload_n 3, 1) := by decide +kernel
theorem dX7_need_144 : decode cX7_need 144 = .ok (.invokevirtual 299, 3) := by decide +kernel
theorem dX7_need_147 : decode cX7_need 147 = .ok (.ldc2_w 342, 3) := by decide +kernel
theorem dX7_need_150 : decode cX7_need 150 = .ok (.ldiv, 1) := by decide +kernel
theorem dX7_need_151 : decode cX7_need 151 = .ok (.iload_n 2, 1) := by decide +kernel
theorem dX7_need_152 : decode cX7_need 152 = .ok (.i2l, 1) := by decide +kernel
theorem dX7_need_153 : decode cX7_need 153 = .ok (.lcmp, 1) := by decide +kernel
theorem dX7_need_154 : decode cX7_need 154 = .ok (.ifCond .lt 10, 3) := by decide +kernel
theorem dX7_need_157 : decode cX7_need 157 = .ok (.aload_n 0, 1) := by decide +kernel
theorem dX7_need_158 : decode cX7_need 158 = .ok (.iload 4, 2) := by decide +kernel
theorem dX7_need_160 : decode cX7_need 160 = .ok (.invokevirtual 134, 3) := by decide +kernel
theorem dX7_need_163 : decode cX7_need 163 = .ok (.ireturn, 1) := by decide +kernel
theorem dX7_need_164 : decode cX7_need 164 = .ok (.iinc 4 1, 3) := by decide +kernel
theorem dX7_need_167 : decode cX7_need 167 = .ok (.goto (-70), 3) := by decide +kernel
theorem dX7_need_170 : decode cX7_need 170 = .ok (.aload_n 0, 1) := by decide +kernel
theorem dX7_need_171 : decode cX7_need 171 = .ok (.iconst 5, 1) := by decide +kernel
theorem dX7_need_172 : decode cX7_need 172 = .ok (.invokevirtual 102, 3) := by decide +kernel
theorem dX7_need_175 : decode cX7_need 175 = .ok (.ireturn, 1) := by decide +kernel
theorem dX7_wise_0 : decode cX7_wise 0 = .ok (.aload_n 0, 1) := by decide +kernel
theorem dX7_wise_1 : decode cX7_wise 1 = .ok (.iload_n 1, 1) := by decide +kernel
theorem dX7_wise_2 : decode cX7_wise 2 = .ok (.invokevirtual 344, 3) := by decide +kernel
theorem dX7_wise_5 : decode cX7_wise 5 = .ok (.istore_n 2, 1) := by decide +kernel
theorem dX7_wise_6 : decode cX7_wise 6 = .ok (.iload_n 2, 1) := by decide +kernel
theorem dX7_wise_7 : decode cX7_wise 7 = .ok (.ifCond .eq 9, 3) := by decide +kernel
theorem dX7_wise_10 : decode cX7_wise 10 = .ok (.aload_n 0, 1) := by decide +kernel
theorem dX7_wise_11 : decode cX7_wise 11 = .ok (.iload_n 2, 1) := by decide +kernel
theorem dX7_wise_12 : decode cX7_wise 12 = .ok (.invokevirtual 102, 3) := by decide +kernel
theorem dX7_wise_15 : decode cX7_wise 15 = .ok (.ireturn, 1) := by decide +kernel
theorem dX7_wise_16 : decode cX7_wise 16 = .ok (.iconst 0, 1) := by decide +kernel
theorem dX7_wise_17 : decode cX7_wise 17 = .ok (.istore_n 3, 1) := by decide +kernel
theorem dX7_wise_18 : decode cX7_wise 18 = .ok (.ldc2_w 347, 3) := by decide +kernel
theorem dX7_wise_21 : decode cX7_wise 21 = .ok (.lstore 4, 2) := by decide +kernel
theorem dX7_wise_23 : decode cX7_wise 23 = .ok (.iconst 0, 1) := by decide +kernel
theorem dX7_wise_24 : decode cX7_wise 24 = .ok (.istore 6, 2) := by decide +kernel
theorem dX7_wise_26 : decode cX7_wise 26 = .ok (.iload 6, 2) := by decide +kernel
theorem dX7_wise_28 : decode cX7_wise 28 = .ok (.aload_n 0, 1) := by decide +kernel
theorem dX7_wise_29 : decode cX7_wise 29 = .ok (.getfield 26, 3) := by decide +kernel
theorem dX7_wise_32 : decode cX7_wise 32 = .ok (.getfield 131, 3) := by decide +kernel
theorem dX7_wise_35 : decode cX7_wise 35 = .ok (.if_icmp .ge 33, 3) := by decide +kernel
theorem dX7_wise_38 : decode cX7_wise 38 = .ok (.aload_n 0, 1) := by decide +kernel
theorem dX7_wise_39 : decode cX7_wise 39 = .ok (.iload_n 1, 1) := by decide +kernel
theorem dX7_wise_40 : decode cX7_wise 40 = .ok (.iload 6, 2) := by decide +kernel
theorem dX7_wise_42 : decode cX7_wise 42 = .ok (.invokevirtual 349, 3) := by decide +kernel
theorem dX7_wise_45 : decode cX7_wise 45 = .ok (.lstore 7, 2) := by decide +kernel
theorem dX7_wise_47 : decode cX7_wise 47 = .ok (.lload 7, 2) := by decide +kernel
theorem dX7_wise_49 : decode cX7_wise 49 = .ok (.lload 4, 2) := by decide +kernel
theorem dX7_wise_51 : decode cX7_wise 51 = .ok (.lcmp, 1) := by decide +kernel
theorem dX7_wise_52 : decode cX7_wise 52 = .ok (.ifCond .le 10, 3) := by decide +kernel
theorem dX7_wise_55 : decode cX7_wise 55 = .ok (.lload 7, 2) := by decide +kernel
theorem dX7_wise_57 : decode cX7_wise 57 = .ok (.lstore 4, 2) := by decide +kernel
theorem dX7_wise_59 : decode cX7_wise 59 = .ok (.iload 6, 2) := by decide +kernel
theorem dX7_wise_61 : decode cX7_wise 61 = .ok (.istore_n 3, 1) := by decide +kernel
theorem dX7_wise_62 : decode cX7_wise 62 = .ok (.iinc 6 1, 3) := by decide +kernel
theorem dX7_wise_65 : decode cX7_wise 65 = .ok (.goto (-39), 3) := by decide +kernel
theorem dX7_wise_68 : decode cX7_wise 68 = .ok (.aload_n 0, 1) := by decide +kernel
theorem dX7_wise_69 : decode cX7_wise 69 = .ok (.iload_n 3, 1) := by decide +kernel
theorem dX7_wise_70 : decode cX7_wise 70 = .ok (.invokevirtual 134, 3) := by decide +kernel
theorem dX7_wise_73 : decode cX7_wise 73 = .ok (.ireturn, 1) := by decide +kernel
theorem dX7_wiseChance_0 : decode cX7_wiseChance 0 = .ok (.aload_n 0, 1) := by decide +kernel
theorem dX7_wiseChance_1 : decode cX7_wiseChance 1 = .ok (.iload_n 1, 1) := by decide +kernel
theorem dX7_wiseChance_2 : decode cX7_wiseChance 2 = .ok (.invokevirtual 344, 3) := by decide +kernel
theorem dX7_wiseChance_5 : decode cX7_wiseChance 5 = .ok (.istore_n 2, 1) := by decide +kernel
theorem dX7_wiseChance_6 : decode cX7_wiseChance 6 = .ok (.iload_n 2, 1) := by decide +kernel
theorem dX7_wiseChance_7 : decode cX7_wiseChance 7 = .ok (.ifCond .eq 10, 3) := by decide +kernel
theorem dX7_wiseChance_10 : decode cX7_wiseChance 10 = .ok (.aload_n 0, 1) := by decide +kernel
theorem dX7_wiseChance_11 : decode cX7_wiseChance 11 = .ok (.iload_n 2, 1) := by decide +kernel
theorem dX7_wiseChance_12 : decode cX7_wiseChance 12 = .ok (.invokevirtual 102, 3) := by decide +kernel
theorem dX7_wiseChance_15 : decode cX7_wiseChance 15 = .ok (.i2l, 1) := by decide +kernel
theorem dX7_wiseChance_16 : decode cX7_wiseChance 16 = .ok (.lreturn, 1) := by decide +kernel
theorem dX7_wiseChance_17 : decode cX7_wiseChance 17 = .ok (.lconst 0, 1) := by decide +kernel
theorem dX7_wiseChance_18 : decode cX7_wiseChance 18 = .ok (.lstore_n 3, 1) := by decide +kernel
theorem dX7_wiseChance_19 : decode cX7_wiseChance 19 = .ok (.iconst 0, 1) := by decide +kernel
theorem dX7_wiseChance_20 : decode cX7_wiseChance 20 = .ok (.istore 5, 2) := by decide +kernel
theorem dX7_wiseChance_22 : decode cX7_wiseChance 22 = .ok (.iload 5, 2) := by decide +kernel
theorem dX7_wiseChance_24 : decode cX7_wiseChance 24 = .ok (.aload_n 0, 1) := by decide +kernel
theorem dX7_wiseChance_25 : decode cX7_wiseChance 25 = .ok (.getfield 26, 3) := by decide +kernel
theorem dX7_wiseChance_28 : decode cX7_wiseChance 28 = .ok (.getfield 131, 3) := by decide +kernel
theorem dX7_wiseChance_31 : decode cX7_wiseChance 31 = .ok (.if_icmp .ge 21, 3) := by decide +kernel
theorem dX7_wiseChance_34 : decode cX7_wiseChance 34 = .ok (.lload_n 3, 1) := by decide +kernel
theorem dX7_wiseChance_35 : decode cX7_wiseChance 35 = .ok (.aload_n 0, 1) := by decide +kernel
theorem dX7_wiseChance_36 : decode cX7_wiseChance 36 = .ok (.iload_n 1, 1) := by decide +kernel
theorem dX7_wiseChance_37 : decode cX7_wiseChance 37 = .ok (.iload 5, 2) := by decide +kernel
theorem dX7_wiseChance_39 : decode cX7_wiseChance 39 = .ok (.invokevirtual 349, 3) := by decide +kernel
theorem dX7_wiseChance_42 : decode cX7_wiseChance 42 = .ok (.invokestatic 352, 3) := by decide +kernel
theorem dX7_wiseChance_45 : decode cX7_wiseChance 45 = .ok (.lstore_n 3, 1) := by decide +kernel
theorem dX7_wiseChance_46 : decode cX7_wiseChance 46 = .ok (.iinc 5 1, 3) := by decide +kernel
theorem dX7_wiseChance_49 : decode cX7_wiseChance 49 = .ok (.goto (-27), 3) := by decide +kernel
theorem dX7_wiseChance_52 : decode cX7_wiseChance 52 = .ok (.aload_n 0, 1) := by decide +kernel
theorem dX7_wiseChance_53 : decode cX7_wiseChance 53 = .ok (.lload_n 3, 1) := by decide +kernel
theorem dX7_wiseChance_54 : decode cX7_wiseChance 54 = .ok (.invokevirtual 303, 3) := by decide +kernel
theorem dX7_wiseChance_57 : decode cX7_wiseChance 57 = .ok (.lreturn, 1) := by decide +kernel
theorem dX7_whyNotWise_0 : decode cX7_whyNotWise 0 = .ok (.aload_n 0, 1) := by decide +kernel
theorem dX7_whyNotWise_1 : decode cX7_whyNotWise 1 = .ok (.iload_n 1, 1) := by decide +kernel
theorem dX7_whyNotWise_2 : decode cX7_whyNotWise 2 = .ok (.invokevirtual 206, 3) := by decide +kernel
theorem dX7_whyNotWise_5 : decode cX7_whyNotWise 5 = .ok (.ifCond .ne 5, 3) := by decide +kernel
theorem dX7_whyNotWise_8 : decode cX7_whyNotWise 8 = .ok (.iconst 2, 1) := by decide +kernel
theorem dX7_whyNotWise_9 : decode cX7_whyNotWise 9 = .ok (.ireturn, 1) := by decide +kernel
theorem dX7_whyNotWise_10 : decode cX7_whyNotWise 10 = .ok (.aload_n 0, 1) := by decide +kernel
theorem dX7_whyNotWise_11 : decode cX7_whyNotWise 11 = .ok (.getfield 40, 3) := by decide +kernel
theorem dX7_whyNotWise_14 : decode cX7_whyNotWise 14 = .ok (.getfield 140, 3) := by decide +kernel
theorem dX7_whyNotWise_17 : decode cX7_whyNotWise 17 = .ok (.bipush 7, 2) := by decide +kernel
theorem dX7_whyNotWise_19 : decode cX7_whyNotWise 19 = .ok (.if_icmp .le 5, 3) := by decide +kernel
theorem dX7_whyNotWise_22 : decode cX7_whyNotWise 22 = .ok (.iconst 3, 1) := by decide +kernel
theorem dX7_whyNotWise_23 : decode cX7_whyNotWise 23 = .ok (.ireturn, 1) := by decide +kernel
theorem dX7_whyNotWise_24 : decode cX7_whyNotWise 24 = .ok (.aload_n 0, 1) := by decide +kernel
theorem dX7_whyNotWise_25 : decode cX7_whyNotWise 25 = .ok (.getfield 26, 3) := by decide +kernel
theorem dX7_whyNotWise_28 : decode cX7_whyNotWise 28 = .ok (.getfield 131, 3) := by decide +kernel
theorem dX7_whyNotWise_31 : decode cX7_whyNotWise 31 = .ok (.ifCond .ne 7, 3) := by decide +kernel
theorem dX7_whyNotWise_34 : decode cX7_whyNotWise 34 = .ok (.iconst 5, 1) := by decide +kernel
theorem dX7_whyNotWise_35 : decode cX7_whyNotWise 35 = .ok (.goto 4, 3) := by decide +kernel
theorem dX7_whyNotWise_38 : decode cX7_whyNotWise 38 = .ok (.iconst 0, 1) := by decide +kernel
theorem dX7_whyNotWise_39 : decode cX7_whyNotWise 39 = .ok (.ireturn, 1) := by decide +kernel
theorem dX7_partsOfOnly_0 : decode cX7_partsOfOnly 0 = .ok (.aload_n 0, 1) := by decide +kernel
theorem dX7_partsOfOnly_1 : decode cX7_partsOfOnly 1 = .ok (.getfield 65, 3) := by decide +kernel
theorem dX7_partsOfOnly_4 : decode cX7_partsOfOnly 4 = .ok (.aload_n 0, 1) := by decide +kernel
theorem dX7_partsOfOnly_5 : decode cX7_partsOfOnly 5 = .ok (.getfield 26, 3) := by decide +kernel
theorem dX7_partsOfOnly_8 : decode cX7_partsOfOnly 8 = .ok (.invokevirtual 113, 3) := by decide +kernel
theorem dX7_partsOfOnly_11 : decode cX7_partsOfOnly 11 = .ok (.aload_n 0, 1) := by decide +kernel
theorem dX7_partsOfOnly_12 : decode cX7_partsOfOnly 12 = .ok (.getfield 65, 3) := by decide +kernel
theorem dX7_partsOfOnly_15 : decode cX7_partsOfOnly 15 = .ok (.aload_n 0, 1) := by decide +kernel
theorem dX7_partsOfOnly_16 : decode cX7_partsOfOnly 16 = .ok (.getfield 40, 3) := by decide +kernel
theorem dX7_partsOfOnly_19 : decode cX7_partsOfOnly 19 = .ok (.getfield 222, 3) := by decide +kernel
theorem dX7_partsOfOnly_22 : decode cX7_partsOfOnly 22 = .ok (.iload_n 1, 1) := by decide +kernel
theorem dX7_partsOfOnly_23 : decode cX7_partsOfOnly 23 = .ok (.invokestatic 175, 3) := by decide +kernel
theorem dX7_partsOfOnly_26 : decode cX7_partsOfOnly 26 = .ok (.iload_n 2, 1) := by decide +kernel
theorem dX7_partsOfOnly_27 : decode cX7_partsOfOnly 27 = .ok (.iconst (-1), 1) := by decide +kernel
theorem dX7_partsOfOnly_28 : decode cX7_partsOfOnly 28 = .ok (.iconst (-1), 1) := by decide +kernel
theorem dX7_partsOfOnly_29 : decode cX7_partsOfOnly 29 = .ok (.invokevirtual 283, 3) := by decide +kernel
theorem dX7_partsOfOnly_32 : decode cX7_partsOfOnly 32 = .ok (.aload_n 0, 1) := by decide +kernel
theorem dX7_partsOfOnly_33 : decode cX7_partsOfOnly 33 = .ok (.getfield 68, 3) := by decide +kernel
theorem dX7_partsOfOnly_36 : decode cX7_partsOfOnly 36 = .ok (.aload_n 0, 1) := by decide +kernel
theorem dX7_partsOfOnly_37 : decode cX7_partsOfOnly 37 = .ok (.getfield 65, 3) := by decide +kernel
theorem dX7_partsOfOnly_40 : decode cX7_partsOfOnly 40 = .ok (.invokevirtual 80, 3) := by decide +kernel
theorem dX7_partsOfOnly_43 : decode cX7_partsOfOnly 43 = .ok (.aload_n 0, 1) := by decide +kernel
theorem dX7_partsOfOnly_44 : decode cX7_partsOfOnly 44 = .ok (.getfield 74, 3) := by decide +kernel
theorem dX7_partsOfOnly_47 : decode cX7_partsOfOnly 47 = .ok (.aload_n 0, 1) := by decide +kernel
theorem dX7_partsOfOnly_48 : decode cX7_partsOfOnly 48 = .ok (.getfield 68, 3) := by decide +kernel
theorem dX7_partsOfOnly_51 : decode cX7_partsOfOnly 51 = .ok (.invokevirtual 339, 3) := by decide +kernel
theorem dX7_partsOfOnly_54 : decode cX7_partsOfOnly 54 = .ok (.aload_n 0, 1) := by decide +kernel
theorem dX7_partsOfOnly_55 : decode cX7_partsOfOnly 55 = .ok (.getfield 74, 3) := by decide +kernel
theorem dX7_partsOfOnly_58 : decode cX7_partsOfOnly 58 = .ok (.iload_n 1, 1) := by decide +kernel
theorem dX7_partsOfOnly_59 : decode cX7_partsOfOnly 59 = .ok (.invokevirtual 299, 3) := by decide +kernel
theorem dX7_partsOfOnly_62 : decode cX7_partsOfOnly 62 = .ok (.lreturn, 1) := by decide +kernel
theorem dX7_together_0 : decode cX7_together 0 = .ok (.aload_n 0, 1) := by decide +kernel
theorem dX7_together_1 : decode cX7_together 1 = .ok (.iload_n 1, 1) := by decide +kernel
theorem dX7_together_2 : decode cX7_together 2 = .ok (.invokevirtual 168, 3) := by decide +kernel
theorem dX7_together_5 : decode cX7_together 5 = .ok (.ifCond .eq 11, 3) := by decide +kernel
theorem dX7_together_8 : decode cX7_together 8 = .ok (.aload_n 0, 1) := by decide +kernel
theorem dX7_together_9 : decode cX7_together 9 = .ok (.iload_n 2, 1) := by decide +kernel
theorem dX7_together_10 : decode cX7_together 10 = .ok (.invokevirtual 168, 3) := by decide +kernel
theorem dX7_together_13 : decode cX7_together 13 = .ok (.ifCond .ne 10, 3) := by decide +kernel
theorem dX7_together_16 : decode cX7_together 16 = .ok (.aload_n 0, 1) := by decide +kernel
theorem dX7_together_17 : decode cX7_together 17 = .ok (.iconst 2, 1) := by decide +kernel
theorem dX7_together_18 : decode cX7_together 18 = .ok (.invokevirtual 102, 3) := by decide +kernel
theorem dX7_together_21 : decode cX7_together 21 = .ok (.i2l, 1) := by decide +kernel
theorem dX7_together_22 : decode cX7_together 22 = .ok (.lreturn, 1) := by decide +kernel
theorem dX7_together_23 : decode cX7_together 23 = .ok (.iload_n 1, 1) := by decide +kernel
theorem dX7_together_24 : decode cX7_together 24 = .ok (.iload_n 2, 1) := by decide +kernel
theorem dX7_together_25 : decode cX7_together 25 = .ok (.if_icmp .ne 10, 3) := by decide +kernel
theorem dX7_together_28 : decode cX7_together 28 = .ok (.aload_n 0, 1) := by decide +kernel
theorem dX7_together_29 : decode cX7_together 29 = .ok (.iconst 4, 1) := by decide +kernel
theorem dX7_together_30 : decode cX7_together 30 = .ok (.invokevirtual 102, 3) := by decide +kernel
theorem dX7_together_33 : decode cX7_together 33 = .ok (.i2l, 1) := by decide +kernel
theorem dX7_together_34 : decode cX7_together 34 = .ok (.lreturn, 1) := by decide +kernel
theorem dX7_together_35 : decode cX7_together 35 = .ok (.aload_n 0, 1) := by decide +kernel
theorem dX7_together_36 : decode cX7_together 36 = .ok (.getfield 26, 3) := by decide +kernel
theorem dX7_together_39 : decode cX7_together 39 = .ok (.getfield 179, 3) := by decide +kernel
theorem dX7_together_42 : decode cX7_together 42 = .ok (.iload_n 1, 1) := by decide +kernel
theorem dX7_together_43 : decode cX7_together 43 = .ok (.invokestatic 175, 3) := by decide +kernel
theorem dX7_together_46 : decode cX7_together 46 = .ok (.iconst (-1), 1) := by decide +kernel
theorem dX7_together_47 : decode cX7_together 47 = .ok (.if_icmp .ne 18, 3) := by decide +kernel
theorem dX7_together_50 : decode cX7_together 50 = .ok (.aload_n 0, 1) := by decide +kernel
theorem dX7_together_51 : decode cX7_together 51 = .ok (.getfield 26, 3) := by decide +kernel
theorem dX7_together_54 : decode cX7_together 54 = .ok (.getfield 179, 3) := by decide +kernel
theorem dX7_together_57 : decode cX7_together 57 = .ok (.iload_n 2, 1) := by decide +kernel
theorem dX7_together_58 : decode cX7_together 58 = .ok (.invokestatic 175, 3) := by decide +kernel
theorem dX7_together_61 : decode cX7_together 61 = .ok (.iconst (-1), 1) := by decide +kernel
theorem dX7_together_62 : decode cX7_together 62 = .ok (.if_icmp .eq 11, 3) := by decide +kernel
theorem dX7_together_65 : decode cX7_together 65 = .ok (.aload_n 0, 1) := by decide +kernel
theorem dX7_together_66 : decode cX7_together 66 = .ok (.bipush 7, 2) := by decide +kernel
theorem dX7_together_68 : decode cX7_together 68 = .ok (.invokevirtual 102, 3) := by decide +kernel
theorem dX7_together_71 : decode cX7_together 71 = .ok (.i2l, 1) := by decide +kernel
theorem dX7_together_72 : decode cX7_together 72 = .ok (.lreturn, 1) := by decide +kernel
theorem dX7_together_73 : decode cX7_together 73 = .ok (.aload_n 0, 1) := by decide +kernel
theorem dX7_together_74 : decode cX7_together 74 = .ok (.getfield 40, 3) := by decide +kernel
theorem dX7_together_77 : decode cX7_together 77 = .ok (.getfield 140, 3) := by decide +kernel
theorem dX7_together_80 : decode cX7_together 80 = .ok (.bipush 8, 2) := by decide +kernel
theorem dX7_together_82 : decode cX7_together 82 = .ok (.if_icmp .le 10, 3) := by decide +kernel
theorem dX7_together_85 : decode cX7_together 85 = .ok (.aload_n 0, 1) := by decide +kernel
theorem dX7_together_86 : decode cX7_together 86 = .ok (.iconst 3, 1) := by decide +kernel
theorem dX7_together_87 : decode cX7_together 87 = .ok (.invokevirtual 102, 3) := by decide +kernel
theorem dX7_together_90 : decode cX7_together 90 = .ok (.i2l, 1) := by decide +kernel
theorem dX7_together_91 : decode cX7_together 91 = .ok (.lreturn, 1) := by decide +kernel
theorem dX7_together_92 : decode cX7_together 92 = .ok (.aload_n 0, 1) := by decide +kernel
theorem dX7_together_93 : decode cX7_together 93 = .ok (.getfield 65, 3) := by decide +kernel
theorem dX7_together_96 : decode cX7_together 96 = .ok (.aload_n 0, 1) := by decide +kernel
theorem dX7_together_97 : decode cX7_together 97 = .ok (.getfield 26, 3) := by decide +kernel
theorem dX7_together_100 : decode cX7_together 100 = .ok (.invokevirtual 113, 3) := by decide +kernel
theorem dX7_together_103 : decode cX7_together 103 = .ok (.aload_n 0, 1) := by decide +kernel
theorem dX7_together_104 : decode cX7_together 104 = .ok (.getfield 65, 3) := by decide +kernel
theorem dX7_together_107 : decode cX7_together 107 = .ok (.iload_n 1, 1) := by decide +kernel
theorem dX7_together_108 : decode cX7_together 108 = .ok (.iload_n 2, 1) := by decide +kernel
theorem dX7_together_109 : decode cX7_together 109 = .ok (.invokevirtual 358, 3) := by decide +kernel
theorem dX7_together_112 : decode cX7_together 112 = .ok (.aload_n 0, 1) := by decide +kernel
theorem dX7_together_113 : decode cX7_together 113 = .ok (.getfield 68, 3) := by decide +kernel
theorem dX7_together_116 : decode cX7_together 116 = .ok (.aload_n 0, 1) := by decide +kernel
theorem dX7_together_117 : decode cX7_together 117 = .ok (.getfield 65, 3) := by decide +kernel
theorem dX7_together_120 : decode cX7_together 120 = .ok (.invokevirtual 80, 3) := by decide +kernel
theorem dX7_together_123 : decode cX7_together 123 = .ok (.aload_n 0, 1) := by decide +kernel
theorem dX7_together_124 : decode cX7_together 124 = .ok (.getfield 74, 3) := by decide +kernel
theorem dX7_together_127 : decode cX7_together 127 = .ok (.aload_n 0, 1) := by decide +kernel
theorem dX7_together_128 : decode cX7_together 128 = .ok (.getfield 68, 3) := by decide +kernel
theorem dX7_together_131 : decode cX7_together 131 = .ok (.invokevirtual 339, 3) := by decide +kernel
theorem dX7_together_134 : decode cX7_together 134 = .ok (.aload_n 0, 1) := by decide +kernel
theorem dX7_together_135 : decode cX7_together 135 = .ok (.aload_n 0, 1) := by decide +kernel
theorem dX7_together_136 : decode cX7_together 136 = .ok (.getfield 74, 3) := by decide +kernel
theorem dX7_together_139 : decode cX7_together 139 = .ok (.aload_n 0, 1) := by decide +kernel
theorem dX7_together_140 : decode cX7_together 140 = .ok (.getfield 68, 3) := by decide +kernel
theorem dX7_together_143 : decode cX7_together 143 = .ok (.getfield 182, 3) := by decide +kernel
theorem dX7_together_146 : decode cX7_together 146 = .ok (.iload_n 1, 1) := by decide +kernel
theorem dX7_together_147 : decode cX7_together 147 = .ok (.invokestatic 175, 3) := by decide +kernel
theorem dX7_together_150 : decode cX7_together 150 = .ok (.invokevirtual 299, 3) := by decide +kernel
theorem dX7_together_153 : decode cX7_together 153 = .ok (.invokevirtual 303, 3) := by decide +kernel
theorem dX7_together_156 : decode cX7_together 156 = .ok (.lreturn, 1) := by decide +kernel
theorem dX7_apart_0 : decode cX7_apart 0 = .ok (.aload_n 0, 1) := by decide +kernel
theorem dX7_apart_1 : decode cX7_apart 1 = .ok (.iload_n 1, 1) := by decide +kernel
theorem dX7_apart_2 : decode cX7_apart 2 = .ok (.invokevirtual 362, 3) := by decide +kernel
theorem dX7_apart_5 : decode cX7_apart 5 = .ok (.ifCond .ne 10, 3) := by decide +kernel
theorem dX7_apart_8 : decode cX7_apart 8 = .ok (.aload_n 0, 1) := by decide +kernel
theorem dX7_apart_9 : decode cX7_apart 9 = .ok (.iconst 2, 1) := by decide +kernel
theorem dX7_apart_10 : decode cX7_apart 10 = .ok (.invokevirtual 102, 3) := by decide +kernel
theorem dX7_apart_13 : decode cX7_apart 13 = .ok (.i2l, 1) := by decide +kernel
theorem dX7_apart_14 : decode cX7_apart 14 = .ok (.lreturn, 1) := by decide +kernel
theorem dX7_apart_15 : decode cX7_apart 15 = .ok (.aload_n 0, 1) := by decide +kernel
theorem dX7_apart_16 : decode cX7_apart 16 = .ok (.getfield 65, 3) := by decide +kernel
theorem dX7_apart_19 : decode cX7_apart 19 = .ok (.aload_n 0, 1) := by decide +kernel
theorem dX7_apart_20 : decode cX7_apart 20 = .ok (.getfield 26, 3) := by decide +kernel
theorem dX7_apart_23 : decode cX7_apart 23 = .ok (.invokevirtual 113, 3) := by decide +kernel
theorem dX7_apart_26 : decode cX7_apart 26 = .ok (.aload_n 0, 1) := by decide +kernel
theorem dX7_apart_27 : decode cX7_apart 27 = .ok (.getfield 65, 3) := by decide +kernel
theorem dX7_apart_30 : decode cX7_apart 30 = .ok (.iload_n 1, 1) := by decide +kernel
theorem dX7_apart_31 : decode cX7_apart 31 = .ok (.invokevirtual 365, 3) := by decide +kernel
theorem dX7_apart_34 : decode cX7_apart 34 = .ok (.aload_n 0, 1) := by decide +kernel
theorem dX7_apart_35 : decode cX7_apart 35 = .ok (.getfield 68, 3) := by decide +kernel
theorem dX7_apart_38 : decode cX7_apart 38 = .ok (.aload_n 0, 1) := by decide +kernel
theorem dX7_apart_39 : decode cX7_apart 39 = .ok (.getfield 65, 3) := by decide +kernel
theorem dX7_apart_42 : decode cX7_apart 42 = .ok (.invokevirtual 80, 3) := by decide +kernel
theorem dX7_apart_45 : decode cX7_apart 45 = .ok (.aload_n 0, 1) := by decide +kernel
theorem dX7_apart_46 : decode cX7_apart 46 = .ok (.getfield 68, 3) := by decide +kernel
theorem dX7_apart_49 : decode cX7_apart 49 = .ok (.getfield 140, 3) := by decide +kernel
theorem dX7_apart_52 : decode cX7_apart 52 = .ok (.bipush 7, 2) := by decide +kernel
theorem dX7_apart_54 : decode cX7_apart 54 = .ok (.if_icmp .le 10, 3) := by decide +kernel
theorem dX7_apart_57 : decode cX7_apart 57 = .ok (.aload_n 0, 1) := by decide +kernel
theorem dX7_apart_58 : decode cX7_apart 58 = .ok (.iconst 3, 1) := by decide +kernel
theorem dX7_apart_59 : decode cX7_apart 59 = .ok (.invokevirtual 102, 3) := by decide +kernel
theorem dX7_apart_62 : decode cX7_apart 62 = .ok (.i2l, 1) := by decide +kernel
theorem dX7_apart_63 : decode cX7_apart 63 = .ok (.lreturn, 1) := by decide +kernel
theorem dX7_apart_64 : decode cX7_apart 64 = .ok (.aload_n 0, 1) := by decide +kernel
theorem dX7_apart_65 : decode cX7_apart 65 = .ok (.getfield 74, 3) := by decide +kernel
theorem dX7_apart_68 : decode cX7_apart 68 = .ok (.aload_n 0, 1) := by decide +kernel
theorem dX7_apart_69 : decode cX7_apart 69 = .ok (.getfield 68, 3) := by decide +kernel
theorem dX7_apart_72 : decode cX7_apart 72 = .ok (.invokevirtual 339, 3) := by decide +kernel
theorem dX7_apart_75 : decode cX7_apart 75 = .ok (.iconst 0, 1) := by decide +kernel
theorem dX7_apart_76 : decode cX7_apart 76 = .ok (.istore_n 2, 1) := by decide +kernel
theorem dX7_apart_77 : decode cX7_apart 77 = .ok (.iconst 0, 1) := by decide +kernel
theorem dX7_apart_78 : decode cX7_apart 78 = .ok (.istore_n 3, 1) := by decide +kernel
theorem dX7_apart_79 : decode cX7_apart 79 = .ok (.iload_n 3, 1) := by decide +kernel
theorem dX7_apart_80 : decode cX7_apart 80 = .ok (.aload_n 0, 1) := by decide +kernel
theorem dX7_apart_81 : decode cX7_apart 81 = .ok (.getfield 26, 3) := by decide +kernel
theorem dX7_apart_84 : decode cX7_apart 84 = .ok (.getfield 119, 3) := by decide +kernel
theorem dX7_apart_87 : decode cX7_apart 87 = .ok (.if_icmp .ge 40, 3) := by decide +kernel
theorem dX7_apart_90 : decode cX7_apart 90 = .ok (.aload_n 0, 1) := by decide +kernel
theorem dX7_apart_91 : decode cX7_apart 91 = .ok (.getfield 26, 3) := by decide +kernel
theorem dX7_apart_94 : decode cX7_apart 94 = .ok (.getfield 179, 3) := by decide +kernel
theorem dX7_apart_97 : decode cX7_apart 97 = .ok (.iload_n 3, 1) := by decide +kernel
theorem dX7_apart_98 : decode cX7_apart 98 = .ok (.invokestatic 175, 3) := by decide +kernel
theorem dX7_apart_101 : decode cX7_apart 101 = .ok (.iload_n 1, 1) := by decide +kernel
theorem dX7_apart_102 : decode cX7_apart 102 = .ok (.if_icmp .ne 19, 3) := by decide +kernel
theorem dX7_apart_105 : decode cX7_apart 105 = .ok (.iload_n 2, 1) := by decide +kernel
theorem dX7_apart_106 : decode cX7_apart 106 = .ok (.iconst 1, 1) := by decide +kernel
theorem dX7_apart_107 : decode cX7_apart 107 = .ok (.aload_n 0, 1) := by decide +kernel
theorem dX7_apart_108 : decode cX7_apart 108 = .ok (.getfield 68, 3) := by decide +kernel
theorem dX7_apart_111 : decode cX7_apart 111 = .ok (.getfield 182, 3) := by decide +kernel
theorem dX7_apart_114 : decode cX7_apart 114 = .ok (.iload_n 3, 1) := by decide +kernel
theorem dX7_apart_115 : decode cX7_apart 115 = .ok (.invokestatic 175, 3) := by decide +kernel
theorem dX7_apart_118 : decode cX7_apart 118 = .ok (.ishl, 1) := by decide +kernel
theorem dX7_apart_119 : decode cX7_apart 119 = .ok (.ior, 1) := by decide +kernel
theorem dX7_apart_120 : decode cX7_apart 120 = .ok (.istore_n 2, 1) := by decide +kernel
theorem dX7_apart_121 : decode cX7_apart 121 = .ok (.iinc 3 1, 3) := by decide +kernel
theorem dX7_apart_124 : decode cX7_apart 124 = .ok (.goto (-45), 3) := by decide +kernel
theorem dX7_apart_127 : decode cX7_apart 127 = .ok (.aload_n 0, 1) := by decide +kernel
theorem dX7_apart_128 : decode cX7_apart 128 = .ok (.aload_n 0, 1) := by decide +kernel
theorem dX7_apart_129 : decode cX7_apart 129 = .ok (.getfield 74, 3) := by decide +kernel
theorem dX7_apart_132 : decode cX7_apart 132 = .ok (.iload_n 2, 1) := by decide +kernel
theorem dX7_apart_133 : decode cX7_apart 133 = .ok (.invokevirtual 319, 3) := by decide +kernel
theorem dX7_apart_136 : decode cX7_apart 136 = .ok (.invokevirtual 303, 3) := by decide +kernel
theorem dX7_apart_139 : decode cX7_apart 139 = .ok (.lreturn, 1) := by decide +kernel
theorem dX7_likes_0 : decode cX7_likes 0 = .ok (.aload_n 0, 1) := by decide +kernel
theorem dX7_likes_1 : decode cX7_likes 1 = .ok (.iload_n 1, 1) := by decide +kernel
theorem dX7_likes_2 : decode cX7_likes 2 = .ok (.invokevirtual 206, 3) := by decide +kernel
theorem dX7_likes_5 : decode cX7_likes 5 = .ok (.ifCond .ne 9, 3) := by decide +kernel
theorem dX7_likes_8 : decode cX7_likes 8 = .ok (.aload_n 0, 1) := by decide +kernel
theorem dX7_likes_9 : decode cX7_likes 9 = .ok (.iconst 2, 1) := by decide +kernel
theorem dX7_likes_10 : decode cX7_likes 10 = .ok (.invokevirtual 102, 3) := by decide +kernel
theorem dX7_likes_13 : decode cX7_likes 13 = .ok (.ireturn, 1) := by decide +kernel
theorem dX7_likes_14 : decode cX7_likes 14 = .ok (.aload_n 0, 1) := by decide +kernel
theorem dX7_likes_15 : decode cX7_likes 15 = .ok (.getfield 40, 3) := by decide +kernel
theorem dX7_likes_18 : decode cX7_likes 18 = .ok (.getfield 140, 3) := by decide +kernel
theorem dX7_likes_21 : decode cX7_likes 21 = .ok (.bipush 7, 2) := by decide +kernel
theorem dX7_likes_23 : decode cX7_likes 23 = .ok (.if_icmp .le 9, 3) := by decide +kernel
theorem dX7_likes_26 : decode cX7_likes 26 = .ok (.aload_n 0, 1) := by decide +kernel
theorem dX7_likes_27 : decode cX7_likes 27 = .ok (.iconst 3, 1) := by decide +kernel
theorem dX7_likes_28 : decode cX7_likes 28 = .ok (.invokevirtual 102, 3) := by decide +kernel
theorem dX7_likes_31 : decode cX7_likes 31 = .ok (.ireturn, 1) := by decide +kernel
theorem dX7_likes_32 : decode cX7_likes 32 = .ok (.iconst 0, 1) := by decide +kernel
theorem dX7_likes_33 : decode cX7_likes 33 = .ok (.istore_n 2, 1) := by decide +kernel
theorem dX7_likes_34 : decode cX7_likes 34 = .ok (.ldc2_w 347, 3) := by decide +kernel
theorem dX7_likes_37 : decode cX7_likes 37 = .ok (.lstore_n 3, 1) := by decide +kernel
theorem dX7_likes_38 : decode cX7_likes 38 = .ok (.aload_n 0, 1) := by decide +kernel
theorem dX7_likes_39 : decode cX7_likes 39 = .ok (.getfield 65, 3) := by decide +kernel
theorem dX7_likes_42 : decode cX7_likes 42 = .ok (.aload_n 0, 1) := by decide +kernel
theorem dX7_likes_43 : decode cX7_likes 43 = .ok (.getfield 26, 3) := by decide +kernel
theorem dX7_likes_46 : decode cX7_likes 46 = .ok (.invokevirtual 113, 3) := by decide +kernel
theorem dX7_likes_49 : decode cX7_likes 49 = .ok (.iconst 0, 1) := by decide +kernel
theorem dX7_likes_50 : decode cX7_likes 50 = .ok (.istore 5, 2) := by decide +kernel
theorem dX7_likes_52 : decode cX7_likes 52 = .ok (.iload 5, 2) := by decide +kernel
theorem dX7_likes_54 : decode cX7_likes 54 = .ok (.iconst 2, 1) := by decide +kernel
theorem dX7_likes_55 : decode cX7_likes 55 = .ok (.if_icmp .gt 63, 3) := by decide +kernel
theorem dX7_likes_58 : decode cX7_likes 58 = .ok (.aload_n 0, 1) := by decide +kernel
theorem dX7_likes_59 : decode cX7_likes 59 = .ok (.getfield 65, 3) := by decide +kernel
theorem dX7_likes_62 : decode cX7_likes 62 = .ok (.iload 5, 2) := by decide +kernel
theorem dX7_likes_64 : decode cX7_likes 64 = .ok (.putfield 143, 3) := by decide +kernel
theorem dX7_likes_67 : decode cX7_likes 67 = .ok (.aload_n 0, 1) := by decide +kernel
theorem dX7_likes_68 : decode cX7_likes 68 = .ok (.getfield 68, 3) := by decide +kernel
theorem dX7_likes_71 : decode cX7_likes 71 = .ok (.aload_n 0, 1) := by decide +kernel
theorem dX7_likes_72 : decode cX7_likes 72 = .ok (.getfield 65, 3) := by decide +kernel
theorem dX7_likes_75 : decode cX7_likes 75 = .ok (.invokevirtual 80, 3) := by decide +kernel
theorem dX7_likes_78 : decode cX7_likes 78 = .ok (.aload_n 0, 1) := by decide +kernel
theorem dX7_likes_79 : decode cX7_likes 79 = .ok (.getfield 74, 3) := by decide +kernel
theorem dX7_likes_82 : decode cX7_likes 82 = .ok (.aload_n 0, 1) := by decide +kernel
theorem dX7_likes_83 : decode cX7_likes 83 = .ok (.getfield 68, 3) := by decide +kernel
theorem dX7_likes_86 : decode cX7_likes 86 = .ok (.invokevirtual 339, 3) := by decide +kernel
theorem dX7_likes_89 : decode cX7_likes 89 = .ok (.aload_n 0, 1) := by decide +kernel
theorem dX7_likes_90 : decode cX7_likes 90 = .ok (.getfield 74, 3) := by decide +kernel
theorem dX7_likes_93 : decode cX7_likes 93 = .ok (.iload_n 1, 1) := by decide +kernel
theorem dX7_likes_94 : decode cX7_likes 94 = .ok (.invokevirtual 299, 3) := by decide +kernel
theorem dX7_likes_97 : decode cX7_likes 97 = .ok (.lstore 6, 2) := by decide +kernel
theorem dX7_likes_99 : decode cX7_likes 99 = .ok (.lload 6, 2) := by decide +kernel
theorem dX7_likes_101 : decode cX7_likes 101 = .ok (.lload_n 3, 1) := by decide +kernel
theorem dX7_likes_102 : decode cX7_likes 102 = .ok (.lcmp, 1) := by decide +kernel
theorem dX7_likes_103 : decode cX7_likes 103 = .ok (.ifCond .le 9, 3) := by decide +kernel
theorem dX7_likes_106 : decode cX7_likes 106 = .ok (.lload 6, 2) := by decide +kernel
theorem dX7_likes_108 : decode cX7_likes 108 = .ok (.lstore_n 3, 1) := by decide +kernel
theorem dX7_likes_109 : decode cX7_likes 109 = .ok (.iload 5, 2) := by decide +kernel
theorem dX7_likes_111 : decode cX7_likes 111 = .ok (.istore_n 2, 1) := by decide +kernel
theorem dX7_likes_112 : decode cX7_likes 112 = .ok (.iinc 5 1, 3) := by decide +kernel
theorem dX7_likes_115 : decode cX7_likes 115 = .ok (.goto (-63), 3) := by decide +kernel
theorem dX7_likes_118 : decode cX7_likes 118 = .ok (.aload_n 0, 1) := by decide +kernel
theorem dX7_likes_119 : decode cX7_likes 119 = .ok (.iload_n 2, 1) := by decide +kernel
theorem dX7_likes_120 : decode cX7_likes 120 = .ok (.invokevirtual 134, 3) := by decide +kernel
theorem dX7_likes_123 : decode cX7_likes 123 = .ok (.ireturn, 1) := by decide +kernel
theorem dX7_reckon_0 : decode cX7_reckon 0 = .ok (.aload_n 0, 1) := by decide +kernel
theorem dX7_reckon_1 : decode cX7_reckon 1 = .ok (.getfield 368, 3) := by decide +kernel
theorem dX7_reckon_4 : decode cX7_reckon 4 = .ok (.ifCond .ne 19, 3) := by decide +kernel
theorem dX7_reckon_7 : decode cX7_reckon 7 = .ok (.aload_n 0, 1) := by decide +kernel
theorem dX7_reckon_8 : decode cX7_reckon 8 = .ok (.getfield 54, 3) := by decide +kernel
theorem dX7_reckon_11 : decode cX7_reckon 11 = .ok (.aload_n 0, 1) := by decide +kernel
theorem dX7_reckon_12 : decode cX7_reckon 12 = .ok (.getfield 40, 3) := by decide +kernel
theorem dX7_reckon_15 : decode cX7_reckon 15 = .ok (.invokevirtual 339, 3) := by decide +kernel
theorem dX7_reckon_18 : decode cX7_reckon 18 = .ok (.aload_n 0, 1) := by decide +kernel
theorem dX7_reckon_19 : decode cX7_reckon 19 = .ok (.iconst 1, 1) := by decide +kernel
theorem dX7_reckon_20 : decode cX7_reckon 20 = .ok (.putfield 368, 3) := by decide +kernel
theorem dX7_reckon_23 : decode cX7_reckon 23 = .ok (.return_, 1) := by decide +kernel
theorem dX7_years_0 : decode cX7_years 0 = .ok (.iload_n 1, 1) := by decide +kernel
theorem dX7_years_1 : decode cX7_years 1 = .ok (.iload_n 2, 1) := by decide +kernel
theorem dX7_years_2 : decode cX7_years 2 = .ok (.invokestatic 372, 3) := by decide +kernel
theorem dX7_years_5 : decode cX7_years 5 = .ok (.ifCond .eq 12, 3) := by decide +kernel
theorem dX7_years_8 : decode cX7_years 8 = .ok (.iload_n 3, 1) := by decide +kernel
theorem dX7_years_9 : decode cX7_years 9 = .ok (.ifCond .lt 8, 3) := by decide +kernel
theorem dX7_years_12 : decode cX7_years 12 = .ok (.iload_n 3, 1) := by decide +kernel
theorem dX7_years_13 : decode cX7_years 13 = .ok (.iconst 2, 1) := by decide +kernel
theorem dX7_years_14 : decode cX7_years 14 = .ok (.if_icmp .le 9, 3) := by decide +kernel
theorem dX7_years_17 : decode cX7_years 17 = .ok (.aload_n 0, 1) := by decide +kernel
theorem dX7_years_18 : decode cX7_years 18 = .ok (.iconst 1, 1) := by decide +kernel
theorem dX7_years_19 : decode cX7_years 19 = .ok (.invokevirtual 102, 3) := by decide +kernel
theorem dX7_years_22 : decode cX7_years 22 = .ok (.ireturn, 1) := by decide +kernel
theorem dX7_years_23 : decode cX7_years 23 = .ok (.aload_n 0, 1) := by decide +kernel
theorem dX7_years_24 : decode cX7_years 24 = .ok (.getfield 61, 3) := by decide +kernel
theorem dX7_years_27 : decode cX7_years 27 = .ok (.aload_n 0, 1) := by decide +kernel
theorem dX7_years_28 : decode cX7_years 28 = .ok (.getfield 26, 3) := by decide +kernel
theorem dX7_years_31 : decode cX7_years 31 = .ok (.iload_n 1, 1) := by decide +kernel
theorem dX7_years_32 : decode cX7_years 32 = .ok (.iload_n 2, 1) := by decide +kernel
theorem dX7_years_33 : decode cX7_years 33 = .ok (.invokevirtual 376, 3) := by decide +kernel
theorem dX7_years_36 : decode cX7_years 36 = .ok (.iload_n 3, 1) := by decide +kernel
theorem dX7_years_37 : decode cX7_years 37 = .ok (.lookupswitch 58 #[(0, 27), (1, 39)], 27) := by decide +kernel
theorem dX7_years_64 : decode cX7_years 64 = .ok (.aload_n 0, 1) := by decide +kernel
theorem dX7_years_65 : decode cX7_years 65 = .ok (.aload_n 0, 1) := by decide +kernel
theorem dX7_years_66 : decode cX7_years 66 = .ok (.getfield 61, 3) := by decide +kernel
theorem dX7_years_69 : decode cX7_years 69 = .ok (.getfield 380, 3) := by decide +kernel
theorem dX7_years_72 : decode cX7_years 72 = .ok (.invokevirtual 134, 3) := by decide +kernel
theorem dX7_years_75 : decode cX7_years 75 = .ok (.ireturn, 1) := by decide +kernel
theorem dX7_years_76 : decode cX7_years 76 = .ok (.aload_n 0, 1) := by decide +kernel
theorem dX7_years_77 : decode cX7_years 77 = .ok (.aload_n 0, 1) := by decide +kernel
theorem dX7_years_78 : decode cX7_years 78 = .ok (.getfield 61, 3) := by decide +kernel
theorem dX7_years_81 : decode cX7_years 81 = .ok (.aload_n 0, 1) := by decide +kernel
theorem dX7_years_82 : decode cX7_years 82 = .ok (.getfield 26, 3) := by decide +kernel
theorem dX7_years_85 : decode cX7_years 85 = .ok (.getfield 119, 3) := by decide +kernel
theorem dX7_years_88 : decode cX7_years 88 = .ok (.invokevirtual 383, 3) := by decide +kernel
theorem dX7_years_91 : decode cX7_years 91 = .ok (.invokevirtual 134, 3) := by decide +kernel
theorem dX7_years_94 : decode cX7_years 94 = .ok (.ireturn, 1) := by decide +kernel
theorem dX7_years_95 : decode cX7_years 95 = .ok (.aload_n 0, 1) := by decide +kernel
theorem dX7_years_96 : decode cX7_years 96 = .ok (.aload_n 0, 1) := by decide +kernel
theorem dX7_years_97 : decode cX7_years 97 = .ok (.getfield 61, 3) := by decide +kernel
theorem dX7_years_100 : decode cX7_years 100 = .ok (.getfield 386, 3) := by decide +kernel
theorem dX7_years_103 : decode cX7_years 103 = .ok (.invokevirtual 134, 3) := by decide +kernel
theorem dX7_years_106 : decode cX7_years 106 = .ok (.ireturn, 1) := by decide +kernel
theorem dX7_often_0 : decode cX7_often 0 = .ok (.iload_n 1, 1) := by decide +kernel
theorem dX7_often_1 : decode cX7_often 1 = .ok (.iload_n 2, 1) := by decide +kernel
theorem dX7_often_2 : decode cX7_often 2 = .ok (.invokestatic 372, 3) := by decide +kernel
theorem dX7_often_5 : decode cX7_often 5 = .ok (.ifCond .ne 9, 3) := by decide +kernel
theorem dX7_often_8 : decode cX7_often 8 = .ok (.aload_n 0, 1) := by decide +kernel
theorem dX7_often_9 : decode cX7_often 9 = .ok (.iconst 1, 1) := by decide +kernel
theorem dX7_often_10 : decode cX7_often 10 = .ok (.invokevirtual 102, 3) := by decide +kernel
theorem dX7_often_13 : decode cX7_often 13 = .ok (.ireturn, 1) := by decide +kernel
theorem dX7_often_14 : decode cX7_often 14 = .ok (.aload_n 0, 1) := by decide +kernel
theorem dX7_often_15 : decode cX7_often 15 = .ok (.iload_n 3, 1) := by decide +kernel
theorem dX7_often_16 : decode cX7_often 16 = .ok (.invokevirtual 168, 3) := by decide +kernel
theorem dX7_often_19 : decode cX7_often 19 = .ok (.ifCond .ne 9, 3) := by decide +kernel
theorem dX7_often_22 : decode cX7_often 22 = .ok (.aload_n 0, 1) := by decide +kernel
theorem dX7_often_23 : decode cX7_often 23 = .ok (.iconst 2, 1) := by decide +kernel
theorem dX7_often_24 : decode cX7_often 24 = .ok (.invokevirtual 102, 3) := by decide +kernel
theorem dX7_often_27 : decode cX7_often 27 = .ok (.ireturn, 1) := by decide +kernel
theorem dX7_often_28 : decode cX7_often 28 = .ok (.aload_n 0, 1) := by decide +kernel
theorem dX7_often_29 : decode cX7_often 29 = .ok (.getfield 61, 3) := by decide +kernel
theorem dX7_often_32 : decode cX7_often 32 = .ok (.aload_n 0, 1) := by decide +kernel
theorem dX7_often_33 : decode cX7_often 33 = .ok (.getfield 26, 3) := by decide +kernel
theorem dX7_often_36 : decode cX7_often 36 = .ok (.iload_n 1, 1) := by decide +kernel
theorem dX7_often_37 : decode cX7_often 37 = .ok (.iload_n 2, 1) := by decide +kernel
theorem dX7_often_38 : decode cX7_often 38 = .ok (.invokevirtual 376, 3) := by decide +kernel
theorem dX7_often_41 : decode cX7_often 41 = .ok (.aload_n 0, 1) := by decide +kernel
theorem dX7_often_42 : decode cX7_often 42 = .ok (.aload_n 0, 1) := by decide +kernel
theorem dX7_often_43 : decode cX7_often 43 = .ok (.getfield 61, 3) := by decide +kernel
theorem dX7_often_46 : decode cX7_often 46 = .ok (.getfield 389, 3) := by decide +kernel
theorem dX7_often_49 : decode cX7_often 49 = .ok (.iload_n 3, 1) := by decide +kernel
theorem dX7_often_50 : decode cX7_often 50 = .ok (.invokestatic 175, 3) := by decide +kernel
theorem dX7_often_53 : decode cX7_often 53 = .ok (.invokevirtual 134, 3) := by decide +kernel
theorem dX7_often_56 : decode cX7_often 56 = .ok (.ireturn, 1) := by decide +kernel
theorem dX7_soonest_0 : decode cX7_soonest 0 = .ok (.iload_n 1, 1) := by decide +kernel
theorem dX7_soonest_1 : decode cX7_soonest 1 = .ok (.iload_n 2, 1) := by decide +kernel
theorem dX7_soonest_2 : decode cX7_soonest 2 = .ok (.invokestatic 372, 3) := by decide +kernel
theorem dX7_soonest_5 : decode cX7_soonest 5 = .ok (.ifCond .ne 9, 3) := by decide +kernel
theorem dX7_soonest_8 : decode cX7_soonest 8 = .ok (.aload_n 0, 1) := by decide +kernel
theorem dX7_soonest_9 : decode cX7_soonest 9 = .ok (.iconst 1, 1) := by decide +kernel
theorem dX7_soonest_10 : decode cX7_soonest 10 = .ok (.invokevirtual 102, 3) := by decide +kernel
theorem dX7_soonest_13 : decode cX7_soonest 13 = .ok (.ireturn, 1) := by decide +kernel
theorem dX7_soonest_14 : decode cX7_soonest 14 = .ok (.aload_n 0, 1) := by decide +kernel
theorem dX7_soonest_15 : decode cX7_soonest 15 = .ok (.iload_n 3, 1) := by decide +kernel
theorem dX7_soonest_16 : decode cX7_soonest 16 = .ok (.invokevirtual 168, 3) := by decide +kernel
theorem dX7_soonest_19 : decode cX7_soonest 19 = .ok (.ifCond .ne 9, 3) := by decide +kernel
theorem dX7_soonest_22 : decode cX7_soonest 22 = .ok (.aload_n 0, 1) := by decide +kernel
theorem dX7_soonest_23 : decode cX7_soonest 23 = .ok (.iconst 2, 1) := by decide +kernel
theorem dX7_soonest_24 : decode cX7_soonest 24 = .ok (.invokevirtual 102, 3) := by decide +kernel
theorem dX7_soonest_27 : decode cX7_soonest 27 = .ok (.ireturn, 1) := by decide +kernel
theorem dX7_soonest_28 : decode cX7_soonest 28 = .ok (.aload_n 0, 1) := by decide +kernel
theorem dX7_soonest_29 : decode cX7_soonest 29 = .ok (.getfield 61, 3) := by decide +kernel
theorem dX7_soonest_32 : decode cX7_soonest 32 = .ok (.aload_n 0, 1) := by decide +kernel
theorem dX7_soonest_33 : decode cX7_soonest 33 = .ok (.getfield 26, 3) := by decide +kernel
theorem dX7_soonest_36 : decode cX7_soonest 36 = .ok (.iload_n 1, 1) := by decide +kernel
theorem dX7_soonest_37 : decode cX7_soonest 37 = .ok (.iload_n 2, 1) := by decide +kernel
theorem dX7_soonest_38 : decode cX7_soonest 38 = .ok (.invokevirtual 376, 3) := by decide +kernel
theorem dX7_soonest_41 : decode cX7_soonest 41 = .ok (.aload_n 0, 1) := by decide +kernel
theorem dX7_soonest_42 : decode cX7_soonest 42 = .ok (.getfield 61, 3) := by decide +kernel
theorem dX7_soonest_45 : decode cX7_soonest 45 = .ok (.getfield 392, 3) := by decide +kernel
theorem dX7_soonest_48 : decode cX7_soonest 48 = .ok (.iload_n 3, 1) := by decide +kernel
theorem dX7_soonest_49 : decode cX7_soonest 49 = .ok (.invokestatic 175, 3) := by decide +kernel
theorem dX7_soonest_52 : decode cX7_soonest 52 = .ok (.istore 4, 2) := by decide +kernel
theorem dX7_soonest_54 : decode cX7_soonest 54 = .ok (.iload 4, 2) := by decide +kernel
theorem dX7_soonest_56 : decode cX7_soonest 56 = .ok (.ifCond .ne 11, 3) := by decide +kernel
theorem dX7_soonest_59 : decode cX7_soonest 59 = .ok (.aload_n 0, 1) := by decide +kernel
theorem dX7_soonest_60 : decode cX7_soonest 60 = .ok (.iconst 5, 1) := by decide +kernel
theorem dX7_soonest_61 : decode cX7_soonest 61 = .ok (.invokevirtual 102, 3) := by decide +kernel
theorem dX7_soonest_64 : decode cX7_soonest 64 = .ok (.goto 9, 3) := by decide +kernel
theorem dX7_soonest_67 : decode cX7_soonest 67 = .ok (.aload_n 0, 1) := by decide +kernel
theorem dX7_soonest_68 : decode cX7_soonest 68 = .ok (.iload 4, 2) := by decide +kernel
theorem dX7_soonest_70 : decode cX7_soonest 70 = .ok (.invokevirtual 134, 3) := by decide +kernel
theorem dX7_soonest_73 : decode cX7_soonest 73 = .ok (.ireturn, 1) := by decide +kernel
theorem dX7_areYears_0 : decode cX7_areYears 0 = .ok (.iload_n 0, 1) := by decide +kernel
theorem dX7_areYears_1 : decode cX7_areYears 1 = .ok (.invokestatic 237, 3) := by decide +kernel
theorem dX7_areYears_4 : decode cX7_areYears 4 = .ok (.ifCond .eq 27, 3) := by decide +kernel
theorem dX7_areYears_7 : decode cX7_areYears 7 = .ok (.iload_n 1, 1) := by decide +kernel
theorem dX7_areYears_8 : decode cX7_areYears 8 = .ok (.iconst 1, 1) := by decide +kernel
theorem dX7_areYears_9 : decode cX7_areYears 9 = .ok (.if_icmp .lt 22, 3) := by decide +kernel
theorem dX7_areYears_12 : decode cX7_areYears 12 = .ok (.iload_n 1, 1) := by decide +kernel
theorem dX7_areYears_13 : decode cX7_areYears 13 = .ok (.bipush 30, 2) := by decide +kernel
theorem dX7_areYears_15 : decode cX7_areYears 15 = .ok (.if_icmp .gt 16, 3) := by decide +kernel
theorem dX7_areYears_18 : decode cX7_areYears 18 = .ok (.iload_n 0, 1) := by decide +kernel
theorem dX7_areYears_19 : decode cX7_areYears 19 = .ok (.ldc_w 395, 3) := by decide +kernel
theorem dX7_areYears_22 : decode cX7_areYears 22 = .ok (.iload_n 1, 1) := by decide +kernel
theorem dX7_areYears_23 : decode cX7_areYears 23 = .ok (.isub, 1) := by decide +kernel
theorem dX7_areYears_24 : decode cX7_areYears 24 = .ok (.if_icmp .gt 7, 3) := by decide +kernel
theorem dX7_areYears_27 : decode cX7_areYears 27 = .ok (.iconst 1, 1) := by decide +kernel
theorem dX7_areYears_28 : decode cX7_areYears 28 = .ok (.goto 4, 3) := by decide +kernel
theorem dX7_areYears_31 : decode cX7_areYears 31 = .ok (.iconst 0, 1) := by decide +kernel
theorem dX7_areYears_32 : decode cX7_areYears 32 = .ok (.ireturn, 1) := by decide +kernel
theorem dX7_draw_0 : decode cX7_draw 0 = .ok (.iload_n 1, 1) := by decide +kernel
theorem dX7_draw_1 : decode cX7_draw 1 = .ok (.invokestatic 237, 3) := by decide +kernel
theorem dX7_draw_4 : decode cX7_draw 4 = .ok (.ifCond .ne 9, 3) := by decide +kernel
theorem dX7_draw_7 : decode cX7_draw 7 = .ok (.aload_n 0, 1) := by decide +kernel
theorem dX7_draw_8 : decode cX7_draw 8 = .ok (.iconst 1, 1) := by decide +kernel
theorem dX7_draw_9 : decode cX7_draw 9 = .ok (.invokevirtual 102, 3) := by decide +kernel
theorem dX7_draw_12 : decode cX7_draw 12 = .ok (.ireturn, 1) := by decide +kernel
theorem dX7_draw_13 : decode cX7_draw 13 = .ok (.aload_n 0, 1) := by decide +kernel
theorem dX7_draw_14 : decode cX7_draw 14 = .ok (.getfield 33, 3) := by decide +kernel
theorem dX7_draw_17 : decode cX7_draw 17 = .ok (.aload_n 0, 1) := by decide +kernel
theorem dX7_draw_18 : decode cX7_draw 18 = .ok (.getfield 26, 3) := by decide +kernel
theorem dX7_draw_21 : decode cX7_draw 21 = .ok (.invokevirtual 396, 3) := by decide +kernel
theorem dX7_draw_24 : decode cX7_draw 24 = .ok (.aload_n 0, 1) := by decide +kernel
theorem dX7_draw_25 : decode cX7_draw 25 = .ok (.getfield 47, 3) := by decide +kernel
theorem dX7_draw_28 : decode cX7_draw 28 = .ok (.aload_n 0, 1) := by decide +kernel
theorem dX7_draw_29 : decode cX7_draw 29 = .ok (.getfield 40, 3) := by decide +kernel
theorem dX7_draw_32 : decode cX7_draw 32 = .ok (.iload_n 1, 1) := by decide +kernel
theorem dX7_draw_33 : decode cX7_draw 33 = .ok (.invokevirtual 247, 3) := by decide +kernel
theorem dX7_draw_36 : decode cX7_draw 36 = .ok (.aload_n 0, 1) := by decide +kernel
theorem dX7_draw_37 : decode cX7_draw 37 = .ok (.getfield 26, 3) := by decide +kernel
theorem dX7_draw_40 : decode cX7_draw 40 = .ok (.aload_n 0, 1) := by decide +kernel
theorem dX7_draw_41 : decode cX7_draw 41 = .ok (.getfield 40, 3) := by decide +kernel
theorem dX7_draw_44 : decode cX7_draw 44 = .ok (.aload_n 0, 1) := by decide +kernel
theorem dX7_draw_45 : decode cX7_draw 45 = .ok (.getfield 47, 3) := by decide +kernel
theorem dX7_draw_48 : decode cX7_draw 48 = .ok (.invokevirtual 399, 3) := by decide +kernel
theorem dX7_draw_51 : decode cX7_draw 51 = .ok (.aload_n 0, 1) := by decide +kernel
theorem dX7_draw_52 : decode cX7_draw 52 = .ok (.getfield 26, 3) := by decide +kernel
theorem dX7_draw_55 : decode cX7_draw 55 = .ok (.dup, 1) := by decide +kernel
theorem dX7_draw_56 : decode cX7_draw 56 = .ok (.getfield 152, 3) := by decide +kernel
theorem dX7_draw_59 : decode cX7_draw 59 = .ok (.iconst 1, 1) := by decide +kernel
theorem dX7_draw_60 : decode cX7_draw 60 = .ok (.iadd, 1) := by decide +kernel
theorem dX7_draw_61 : decode cX7_draw 61 = .ok (.putfield 152, 3) := by decide +kernel
theorem dX7_draw_64 : decode cX7_draw 64 = .ok (.aload_n 0, 1) := by decide +kernel
theorem dX7_draw_65 : decode cX7_draw 65 = .ok (.aload_n 0, 1) := by decide +kernel
theorem dX7_draw_66 : decode cX7_draw 66 = .ok (.getfield 47, 3) := by decide +kernel
theorem dX7_draw_69 : decode cX7_draw 69 = .ok (.aload_n 0, 1) := by decide +kernel
theorem dX7_draw_70 : decode cX7_draw 70 = .ok (.getfield 40, 3) := by decide +kernel
theorem dX7_draw_73 : decode cX7_draw 73 = .ok (.invokevirtual 403, 3) := by decide +kernel
theorem dX7_draw_76 : decode cX7_draw 76 = .ok (.invokevirtual 122, 3) := by decide +kernel
theorem dX7_draw_79 : decode cX7_draw 79 = .ok (.ireturn, 1) := by decide +kernel
theorem dX7_points_0 : decode cX7_points 0 = .ok (.iload_n 2, 1) := by decide +kernel
theorem dX7_points_1 : decode cX7_points 1 = .ok (.ifCond .lt 9, 3) := by decide +kernel
theorem dX7_points_4 : decode cX7_points 4 = .ok (.iload_n 2, 1) := by decide +kernel
theorem dX7_points_5 : decode cX7_points 5 = .ok (.bipush 20, 2) := by decide +kernel
theorem dX7_points_7 : decode cX7_points 7 = .ok (.if_icmp .le 9, 3) := by decide +kernel
theorem dX7_points_10 : decode cX7_points 10 = .ok (.aload_n 0, 1) := by decide +kernel
theorem dX7_points_11 : decode cX7_points 11 = .ok (.iconst 1, 1) := by decide +kernel
theorem dX7_points_12 : decode cX7_points 12 = .ok (.invokevirtual 102, 3) := by decide +kernel
theorem dX7_points_15 : decode cX7_points 15 = .ok (.ireturn, 1) := by decide +kernel
theorem dX7_points_16 : decode cX7_points 16 = .ok (.aload_n 0, 1) := by decide +kernel
theorem dX7_points_17 : decode cX7_points 17 = .ok (.iload_n 1, 1) := by decide +kernel
theorem dX7_points_18 : decode cX7_points 18 = .ok (.invokevirtual 168, 3) := by decide +kernel
theorem dX7_points_21 : decode cX7_points 21 = .ok (.ifCond .ne 9, 3) := by decide +kernel
theorem dX7_points_24 : decode cX7_points 24 = .ok (.aload_n 0, 1) := by decide +kernel
theorem dX7_points_25 : decode cX7_points 25 = .ok (.iconst 2, 1) := by decide +kernel
theorem dX7_points_26 : decode cX7_points 26 = .ok (.invokevirtual 102, 3) := by decide +kernel
theorem dX7_points_29 : decode cX7_points 29 = .ok (.ireturn, 1) := by decide +kernel
theorem dX7_points_30 : decode cX7_points 30 = .ok (.aload_n 0, 1) := by decide +kernel
theorem dX7_points_31 : decode cX7_points 31 = .ok (.getfield 26, 3) := by decide +kernel
theorem dX7_points_34 : decode cX7_points 34 = .ok (.getfield 172, 3) := by decide +kernel
theorem dX7_points_37 : decode cX7_points 37 = .ok (.iload_n 1, 1) := by decide +kernel
theorem dX7_points_38 : decode cX7_points 38 = .ok (.invokestatic 175, 3) := by decide +kernel
theorem dX7_points_41 : decode cX7_points 41 = .ok (.istore_n 3, 1) := by decide +kernel
theorem dX7_points_42 : decode cX7_points 42 = .ok (.iload_n 3, 1) := by decide +kernel
theorem dX7_points_43 : decode cX7_points 43 = .ok (.iload_n 2, 1) := by decide +kernel
theorem dX7_points_44 : decode cX7_points 44 = .ok (.if_icmp .ne 9, 3) := by decide +kernel
theorem dX7_points_47 : decode cX7_points 47 = .ok (.aload_n 0, 1) := by decide +kernel
theorem dX7_points_48 : decode cX7_points 48 = .ok (.iconst 4, 1) := by decide +kernel
theorem dX7_points_49 : decode cX7_points 49 = .ok (.invokevirtual 102, 3) := by decide +kernel
theorem dX7_points_52 : decode cX7_points 52 = .ok (.ireturn, 1) := by decide +kernel
theorem dX7_points_53 : decode cX7_points 53 = .ok (.aload_n 0, 1) := by decide +kernel
theorem dX7_points_54 : decode cX7_points 54 = .ok (.getfield 33, 3) := by decide +kernel
theorem dX7_points_57 : decode cX7_points 57 = .ok (.aload_n 0, 1) := by decide +kernel
theorem dX7_points_58 : decode cX7_points 58 = .ok (.getfield 26, 3) := by decide +kernel
theorem dX7_points_61 : decode cX7_points 61 = .ok (.invokevirtual 396, 3) := by decide +kernel
theorem dX7_points_64 : decode cX7_points 64 = .ok (.aload_n 0, 1) := by decide +kernel
theorem dX7_points_65 : decode cX7_points 65 = .ok (.getfield 26, 3) := by decide +kernel
theorem dX7_points_68 : decode cX7_points 68 = .ok (.getfield 172, 3) := by decide +kernel
theorem dX7_points_71 : decode cX7_points 71 = .ok (.iload_n 1, 1) := by decide +kernel
theorem dX7_points_72 : decode cX7_points 72 = .ok (.iload_n 2, 1) := by decide +kernel
theorem dX7_points_73 : decode cX7_points 73 = .ok (.invokestatic 98, 3) := by decide +kernel
theorem dX7_points_76 : decode cX7_points 76 = .ok (.aload_n 0, 1) := by decide +kernel
theorem dX7_points_77 : decode cX7_points 77 = .ok (.iload_n 3, 1) := by decide +kernel
theorem dX7_points_78 : decode cX7_points 78 = .ok (.invokevirtual 122, 3) := by decide +kernel
theorem dX7_points_81 : decode cX7_points 81 = .ok (.ireturn, 1) := by decide +kernel
theorem dX7_quota_0 : decode cX7_quota 0 = .ok (.iload_n 2, 1) := by decide +kernel
theorem dX7_quota_1 : decode cX7_quota 1 = .ok (.ifCond .lt 9, 3) := by decide +kernel
theorem dX7_quota_4 : decode cX7_quota 4 = .ok (.iload_n 2, 1) := by decide +kernel
theorem dX7_quota_5 : decode cX7_quota 5 = .ok (.bipush 20, 2) := by decide +kernel
theorem dX7_quota_7 : decode cX7_quota 7 = .ok (.if_icmp .le 9, 3) := by decide +kernel
theorem dX7_quota_10 : decode cX7_quota 10 = .ok (.aload_n 0, 1) := by decide +kernel
theorem dX7_quota_11 : decode cX7_quota 11 = .ok (.iconst 1, 1) := by decide +kernel
theorem dX7_quota_12 : decode cX7_quota 12 = .ok (.invokevirtual 102, 3) := by decide +kernel
theorem dX7_quota_15 : decode cX7_quota 15 = .ok (.ireturn, 1) := by decide +kernel
theorem dX7_quota_16 : decode cX7_quota 16 = .ok (.aload_n 0, 1) := by decide +kernel
theorem dX7_quota_17 : decode cX7_quota 17 = .ok (.iload_n 1, 1) := by decide +kernel
theorem dX7_quota_18 : decode cX7_quota 18 = .ok (.invokevirtual 188, 3) := by decide +kernel
theorem dX7_quota_21 : decode cX7_quota 21 = .ok (.ifCond .ne 9, 3) := by decide +kernel
theorem dX7_quota_24 : decode cX7_quota 24 = .ok (.aload_n 0, 1) := by decide +kernel
theorem dX7_quota_25 : decode cX7_quota 25 = .ok (.iconst 2, 1) := by decide +kernel
theorem dX7_quota_26 : decode cX7_quota 26 = .ok (.invokevirtual 102, 3) := by decide +kernel
theorem dX7_quota_29 : decode cX7_quota 29 = .ok (.ireturn, 1) := by decide +kernel
theorem dX7_quota_30 : decode cX7_quota 30 = .ok (.aload_n 0, 1) := by decide +kernel
theorem dX7_quota_31 : decode cX7_quota 31 = .ok (.getfield 26, 3) := by decide +kernel
theorem dX7_quota_34 : decode cX7_quota 34 = .ok (.getfield 158, 3) := by decide +kernel
theorem dX7_quota_37 : decode cX7_quota 37 = .ok (.iload_n 1, 1) := by decide +kernel
theorem dX7_quota_38 : decode cX7_quota 38 = .ok (.invokestatic 175, 3) := by decide +kernel
theorem dX7_quota_41 : decode cX7_quota 41 = .ok (.istore_n 3, 1) := by decide +kernel
theorem dX7_quota_42 : decode cX7_quota 42 = .ok (.iload_n 3, 1) := by decide +kernel
theorem dX7_quota_43 : decode cX7_quota 43 = .ok (.iload_n 2, 1) := by decide +kernel
theorem dX7_quota_44 : decode cX7_quota 44 = .ok (.if_icmp .ne 9, 3) := by decide +kernel
theorem dX7_quota_47 : decode cX7_quota 47 = .ok (.aload_n 0, 1) := by decide +kernel
theorem dX7_quota_48 : decode cX7_quota 48 = .ok (.iconst 4, 1) := by decide +kernel
theorem dX7_quota_49 : decode cX7_quota 49 = .ok (.invokevirtual 102, 3) := by decide +kernel
theorem dX7_quota_52 : decode cX7_quota 52 = .ok (.ireturn, 1) := by decide +kernel
theorem dX7_quota_53 : decode cX7_quota 53 = .ok (.aload_n 0, 1) := by decide +kernel
theorem dX7_quota_54 : decode cX7_quota 54 = .ok (.getfield 33, 3) := by decide +kernel
theorem dX7_quota_57 : decode cX7_quota 57 = .ok (.aload_n 0, 1) := by decide +kernel
theorem dX7_quota_58 : decode cX7_quota 58 = .ok (.getfield 26, 3) := by decide +kernel
theorem dX7_quota_61 : decode cX7_quota 61 = .ok (.invokevirtual 396, 3) := by decide +kernel
theorem dX7_quota_64 : decode cX7_quota 64 = .ok (.aload_n 0, 1) := by decide +kernel
theorem dX7_quota_65 : decode cX7_quota 65 = .ok (.getfield 26, 3) := by decide +kernel
theorem dX7_quota_68 : decode cX7_quota 68 = .ok (.getfield 158, 3) := by decide +kernel
theorem dX7_quota_71 : decode cX7_quota 71 = .ok (.iload_n 1, 1) := by decide +kernel
theorem dX7_quota_72 : decode cX7_quota 72 = .ok (.iload_n 2, 1) := by decide +kernel
theorem dX7_quota_73 : decode cX7_quota 73 = .ok (.invokestatic 98, 3) := by decide +kernel
theorem dX7_quota_76 : decode cX7_quota 76 = .ok (.aload_n 0, 1) := by decide +kernel
theorem dX7_quota_77 : decode cX7_quota 77 = .ok (.iload_n 3, 1) := by decide +kernel
theorem dX7_quota_78 : decode cX7_quota 78 = .ok (.invokevirtual 122, 3) := by decide +kernel
theorem dX7_quota_81 : decode cX7_quota 81 = .ok (.ireturn, 1) := by decide +kernel
theorem dX7_choose_0 : decode cX7_choose 0 = .ok (.iload_n 2, 1) := by decide +kernel
theorem dX7_choose_1 : decode cX7_choose 1 = .ok (.iconst (-1), 1) := by decide +kernel
theorem dX7_choose_2 : decode cX7_choose 2 = .ok (.if_icmp .ne 8, 3) := by decide +kernel
