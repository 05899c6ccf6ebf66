theorem dX0_squareOfPair_10 : decode cX0_squareOfPair 10 = .ok (.iload_n 1, 1) := by decide +kernel
theorem dX0_squareOfPair_11 : decode cX0_squareOfPair 11 = .ok (.bipush 16, 2) := by decide +kernel
theorem dX0_squareOfPair_13 : decode cX0_squareOfPair 13 = .ok (.idiv, 1) := by decide +kernel
theorem dX0_squareOfPair_14 : decode cX0_squareOfPair 14 = .ok (.iload_n 1, 1) := by decide +kernel
theorem dX0_squareOfPair_15 : decode cX0_squareOfPair 15 = .ok (.bipush 16, 2) := by decide +kernel
theorem dX0_squareOfPair_17 : decode cX0_squareOfPair 17 = .ok (.irem, 1) := by decide +kernel
theorem dX0_squareOfPair_18 : decode cX0_squareOfPair 18 = .ok (.invokevirtual 80, 3) := by decide +kernel
theorem dX0_squareOfPair_21 : decode cX0_squareOfPair 21 = .ok (.ireturn, 1) := by decide +kernel
theorem dX0_nearestPair_0 : decode cX0_nearestPair 0 = .ok (.iconst (-1), 1) := by decide +kernel
theorem dX0_nearestPair_1 : decode cX0_nearestPair 1 = .ok (.istore_n 1, 1) := by decide +kernel
theorem dX0_nearestPair_2 : decode cX0_nearestPair 2 = .ok (.iconst 0, 1) := by decide +kernel
theorem dX0_nearestPair_3 : decode cX0_nearestPair 3 = .ok (.istore_n 2, 1) := by decide +kernel
theorem dX0_nearestPair_4 : decode cX0_nearestPair 4 = .ok (.iload_n 2, 1) := by decide +kernel
theorem dX0_nearestPair_5 : decode cX0_nearestPair 5 = .ok (.aload_n 0, 1) := by decide +kernel
theorem dX0_nearestPair_6 : decode cX0_nearestPair 6 = .ok (.getfield 18, 3) := by decide +kernel
theorem dX0_nearestPair_9 : decode cX0_nearestPair 9 = .ok (.if_icmp .ge 53, 3) := by decide +kernel
theorem dX0_nearestPair_12 : decode cX0_nearestPair 12 = .ok (.iload_n 2, 1) := by decide +kernel
theorem dX0_nearestPair_13 : decode cX0_nearestPair 13 = .ok (.iconst 1, 1) := by decide +kernel
theorem dX0_nearestPair_14 : decode cX0_nearestPair 14 = .ok (.iadd, 1) := by decide +kernel
theorem dX0_nearestPair_15 : decode cX0_nearestPair 15 = .ok (.istore_n 3, 1) := by decide +kernel
theorem dX0_nearestPair_16 : decode cX0_nearestPair 16 = .ok (.iload_n 3, 1) := by decide +kernel
theorem dX0_nearestPair_17 : decode cX0_nearestPair 17 = .ok (.aload_n 0, 1) := by decide +kernel
theorem dX0_nearestPair_18 : decode cX0_nearestPair 18 = .ok (.getfield 18, 3) := by decide +kernel
theorem dX0_nearestPair_21 : decode cX0_nearestPair 21 = .ok (.if_icmp .ge 35, 3) := by decide +kernel
theorem dX0_nearestPair_24 : decode cX0_nearestPair 24 = .ok (.iload_n 1, 1) := by decide +kernel
theorem dX0_nearestPair_25 : decode cX0_nearestPair 25 = .ok (.iconst (-1), 1) := by decide +kernel
theorem dX0_nearestPair_26 : decode cX0_nearestPair 26 = .ok (.if_icmp .eq 17, 3) := by decide +kernel
theorem dX0_nearestPair_29 : decode cX0_nearestPair 29 = .ok (.aload_n 0, 1) := by decide +kernel
theorem dX0_nearestPair_30 : decode cX0_nearestPair 30 = .ok (.iload_n 2, 1) := by decide +kernel
theorem dX0_nearestPair_31 : decode cX0_nearestPair 31 = .ok (.iload_n 3, 1) := by decide +kernel
theorem dX0_nearestPair_32 : decode cX0_nearestPair 32 = .ok (.invokevirtual 80, 3) := by decide +kernel
theorem dX0_nearestPair_35 : decode cX0_nearestPair 35 = .ok (.aload_n 0, 1) := by decide +kernel
theorem dX0_nearestPair_36 : decode cX0_nearestPair 36 = .ok (.iload_n 1, 1) := by decide +kernel
theorem dX0_nearestPair_37 : decode cX0_nearestPair 37 = .ok (.invokevirtual 97, 3) := by decide +kernel
theorem dX0_nearestPair_40 : decode cX0_nearestPair 40 = .ok (.if_icmp .ge 10, 3) := by decide +kernel
theorem dX0_nearestPair_43 : decode cX0_nearestPair 43 = .ok (.bipush 16, 2) := by decide +kernel
theorem dX0_nearestPair_45 : decode cX0_nearestPair 45 = .ok (.iload_n 2, 1) := by decide +kernel
theorem dX0_nearestPair_46 : decode cX0_nearestPair 46 = .ok (.imul, 1) := by decide +kernel
theorem dX0_nearestPair_47 : decode cX0_nearestPair 47 = .ok (.iload_n 3, 1) := by decide +kernel
theorem dX0_nearestPair_48 : decode cX0_nearestPair 48 = .ok (.iadd, 1) := by decide +kernel
theorem dX0_nearestPair_49 : decode cX0_nearestPair 49 = .ok (.istore_n 1, 1) := by decide +kernel
theorem dX0_nearestPair_50 : decode cX0_nearestPair 50 = .ok (.iinc 3 1, 3) := by decide +kernel
theorem dX0_nearestPair_53 : decode cX0_nearestPair 53 = .ok (.goto (-37), 3) := by decide +kernel
theorem dX0_nearestPair_56 : decode cX0_nearestPair 56 = .ok (.iinc 2 1, 3) := by decide +kernel
theorem dX0_nearestPair_59 : decode cX0_nearestPair 59 = .ok (.goto (-55), 3) := by decide +kernel
theorem dX0_nearestPair_62 : decode cX0_nearestPair 62 = .ok (.iload_n 1, 1) := by decide +kernel
theorem dX0_nearestPair_63 : decode cX0_nearestPair 63 = .ok (.ireturn, 1) := by decide +kernel
theorem dX7_numberOf_0 : decode cX7_numberOf 0 = .ok (.iconst 2, 1) := by decide +kernel
theorem dX7_numberOf_1 : decode cX7_numberOf 1 = .ok (.bipush 9, 2) := by decide +kernel
theorem dX7_numberOf_3 : decode cX7_numberOf 3 = .ok (.iload_n 1, 1) := by decide +kernel
theorem dX7_numberOf_4 : decode cX7_numberOf 4 = .ok (.imul, 1) := by decide +kernel
theorem dX7_numberOf_5 : decode cX7_numberOf 5 = .ok (.iload_n 0, 1) := by decide +kernel
theorem dX7_numberOf_6 : decode cX7_numberOf 6 = .ok (.iadd, 1) := by decide +kernel
theorem dX7_numberOf_7 : decode cX7_numberOf 7 = .ok (.imul, 1) := by decide +kernel
theorem dX7_numberOf_8 : decode cX7_numberOf 8 = .ok (.iload_n 2, 1) := by decide +kernel
theorem dX7_numberOf_9 : decode cX7_numberOf 9 = .ok (.iadd, 1) := by decide +kernel
theorem dX7_numberOf_10 : decode cX7_numberOf 10 = .ok (.ireturn, 1) := by decide +kernel
theorem dX10_linkBeside_0 : decode cX10_linkBeside 0 = .ok (.iload_n 2, 1) := by decide +kernel
theorem dX10_linkBeside_1 : decode cX10_linkBeside 1 = .ok (.tableswitch 52 0 2 #[27, 34, 43], 27) := by decide +kernel
theorem dX10_linkBeside_28 : decode cX10_linkBeside 28 = .ok (.iload_n 0, 1) := by decide +kernel
theorem dX10_linkBeside_29 : decode cX10_linkBeside 29 = .ok (.iload_n 1, 1) := by decide +kernel
theorem dX10_linkBeside_30 : decode cX10_linkBeside 30 = .ok (.iconst 0, 1) := by decide +kernel
theorem dX10_linkBeside_31 : decode cX10_linkBeside 31 = .ok (.invokestatic 17, 3) := by decide +kernel
theorem dX10_linkBeside_34 : decode cX10_linkBeside 34 = .ok (.ireturn, 1) := by decide +kernel
theorem dX10_linkBeside_35 : decode cX10_linkBeside 35 = .ok (.iload_n 0, 1) := by decide +kernel
theorem dX10_linkBeside_36 : decode cX10_linkBeside 36 = .ok (.iconst 1, 1) := by decide +kernel
theorem dX10_linkBeside_37 : decode cX10_linkBeside 37 = .ok (.iadd, 1) := by decide +kernel
theorem dX10_linkBeside_38 : decode cX10_linkBeside 38 = .ok (.iload_n 1, 1) := by decide +kernel
theorem dX10_linkBeside_39 : decode cX10_linkBeside 39 = .ok (.iconst 1, 1) := by decide +kernel
theorem dX10_linkBeside_40 : decode cX10_linkBeside 40 = .ok (.invokestatic 17, 3) := by decide +kernel
theorem dX10_linkBeside_43 : decode cX10_linkBeside 43 = .ok (.ireturn, 1) := by decide +kernel
theorem dX10_linkBeside_44 : decode cX10_linkBeside 44 = .ok (.iload_n 0, 1) := by decide +kernel
theorem dX10_linkBeside_45 : decode cX10_linkBeside 45 = .ok (.iload_n 1, 1) := by decide +kernel
theorem dX10_linkBeside_46 : decode cX10_linkBeside 46 = .ok (.iconst 1, 1) := by decide +kernel
theorem dX10_linkBeside_47 : decode cX10_linkBeside 47 = .ok (.iadd, 1) := by decide +kernel
theorem dX10_linkBeside_48 : decode cX10_linkBeside 48 = .ok (.iconst 0, 1) := by decide +kernel
theorem dX10_linkBeside_49 : decode cX10_linkBeside 49 = .ok (.invokestatic 17, 3) := by decide +kernel
theorem dX10_linkBeside_52 : decode cX10_linkBeside 52 = .ok (.ireturn, 1) := by decide +kernel
theorem dX10_linkBeside_53 : decode cX10_linkBeside 53 = .ok (.iload_n 0, 1) := by decide +kernel
theorem dX10_linkBeside_54 : decode cX10_linkBeside 54 = .ok (.iload_n 1, 1) := by decide +kernel
theorem dX10_linkBeside_55 : decode cX10_linkBeside 55 = .ok (.iconst 1, 1) := by decide +kernel
theorem dX10_linkBeside_56 : decode cX10_linkBeside 56 = .ok (.invokestatic 17, 3) := by decide +kernel
theorem dX10_linkBeside_59 : decode cX10_linkBeside 59 = .ok (.ireturn, 1) := by decide +kernel
theorem dX10_firstOf_0 : decode cX10_firstOf 0 = .ok (.iload_n 1, 1) := by decide +kernel
theorem dX10_firstOf_1 : decode cX10_firstOf 1 = .ok (.istore_n 2, 1) := by decide +kernel
theorem dX10_firstOf_2 : decode cX10_firstOf 2 = .ok (.iconst 0, 1) := by decide +kernel
theorem dX10_firstOf_3 : decode cX10_firstOf 3 = .ok (.istore_n 3, 1) := by decide +kernel
theorem dX10_firstOf_4 : decode cX10_firstOf 4 = .ok (.iload_n 3, 1) := by decide +kernel
theorem dX10_firstOf_5 : decode cX10_firstOf 5 = .ok (.sipush 162, 3) := by decide +kernel
theorem dX10_firstOf_8 : decode cX10_firstOf 8 = .ok (.if_icmp .ge 41, 3) := by decide +kernel
theorem dX10_firstOf_11 : decode cX10_firstOf 11 = .ok (.iload_n 2, 1) := by decide +kernel
theorem dX10_firstOf_12 : decode cX10_firstOf 12 = .ok (.ifCond .lt 10, 3) := by decide +kernel
theorem dX10_firstOf_15 : decode cX10_firstOf 15 = .ok (.iload_n 2, 1) := by decide +kernel
theorem dX10_firstOf_16 : decode cX10_firstOf 16 = .ok (.sipush 162, 3) := by decide +kernel
theorem dX10_firstOf_19 : decode cX10_firstOf 19 = .ok (.if_icmp .lt 5, 3) := by decide +kernel
theorem dX10_firstOf_22 : decode cX10_firstOf 22 = .ok (.iconst (-1), 1) := by decide +kernel
theorem dX10_firstOf_23 : decode cX10_firstOf 23 = .ok (.ireturn, 1) := by decide +kernel
theorem dX10_firstOf_24 : decode cX10_firstOf 24 = .ok (.aload_n 0, 1) := by decide +kernel
theorem dX10_firstOf_25 : decode cX10_firstOf 25 = .ok (.getfield 11, 3) := by decide +kernel
theorem dX10_firstOf_28 : decode cX10_firstOf 28 = .ok (.iload_n 2, 1) := by decide +kernel
theorem dX10_firstOf_29 : decode cX10_firstOf 29 = .ok (.iaload, 1) := by decide +kernel
theorem dX10_firstOf_30 : decode cX10_firstOf 30 = .ok (.iload_n 2, 1) := by decide +kernel
theorem dX10_firstOf_31 : decode cX10_firstOf 31 = .ok (.if_icmp .ne 5, 3) := by decide +kernel
theorem dX10_firstOf_34 : decode cX10_firstOf 34 = .ok (.iload_n 2, 1) := by decide +kernel
theorem dX10_firstOf_35 : decode cX10_firstOf 35 = .ok (.ireturn, 1) := by decide +kernel
theorem dX10_firstOf_36 : decode cX10_firstOf 36 = .ok (.aload_n 0, 1) := by decide +kernel
theorem dX10_firstOf_37 : decode cX10_firstOf 37 = .ok (.getfield 11, 3) := by decide +kernel
theorem dX10_firstOf_40 : decode cX10_firstOf 40 = .ok (.iload_n 2, 1) := by decide +kernel
theorem dX10_firstOf_41 : decode cX10_firstOf 41 = .ok (.iaload, 1) := by decide +kernel
theorem dX10_firstOf_42 : decode cX10_firstOf 42 = .ok (.istore_n 2, 1) := by decide +kernel
theorem dX10_firstOf_43 : decode cX10_firstOf 43 = .ok (.iinc 3 1, 3) := by decide +kernel
theorem dX10_firstOf_46 : decode cX10_firstOf 46 = .ok (.goto (-42), 3) := by decide +kernel
theorem dX10_firstOf_49 : decode cX10_firstOf 49 = .ok (.iconst (-1), 1) := by decide +kernel
theorem dX10_firstOf_50 : decode cX10_firstOf 50 = .ok (.ireturn, 1) := by decide +kernel
theorem dX10_joinRound_0 : decode cX10_joinRound 0 = .ok (.iconst (-1), 1) := by decide +kernel
theorem dX10_joinRound_1 : decode cX10_joinRound 1 = .ok (.istore_n 3, 1) := by decide +kernel
theorem dX10_joinRound_2 : decode cX10_joinRound 2 = .ok (.iconst 0, 1) := by decide +kernel
theorem dX10_joinRound_3 : decode cX10_joinRound 3 = .ok (.istore 4, 2) := by decide +kernel
theorem dX10_joinRound_5 : decode cX10_joinRound 5 = .ok (.iload 4, 2) := by decide +kernel
theorem dX10_joinRound_7 : decode cX10_joinRound 7 = .ok (.iconst 4, 1) := by decide +kernel
theorem dX10_joinRound_8 : decode cX10_joinRound 8 = .ok (.if_icmp .ge 66, 3) := by decide +kernel
theorem dX10_joinRound_11 : decode cX10_joinRound 11 = .ok (.aload_n 0, 1) := by decide +kernel
theorem dX10_joinRound_12 : decode cX10_joinRound 12 = .ok (.iload_n 1, 1) := by decide +kernel
theorem dX10_joinRound_13 : decode cX10_joinRound 13 = .ok (.iload_n 2, 1) := by decide +kernel
theorem dX10_joinRound_14 : decode cX10_joinRound 14 = .ok (.iload 4, 2) := by decide +kernel
theorem dX10_joinRound_16 : decode cX10_joinRound 16 = .ok (.invokestatic 36, 3) := by decide +kernel
theorem dX10_joinRound_19 : decode cX10_joinRound 19 = .ok (.invokevirtual 39, 3) := by decide +kernel
theorem dX10_joinRound_22 : decode cX10_joinRound 22 = .ok (.istore 5, 2) := by decide +kernel
theorem dX10_joinRound_24 : decode cX10_joinRound 24 = .ok (.iload_n 3, 1) := by decide +kernel
theorem dX10_joinRound_25 : decode cX10_joinRound 25 = .ok (.iconst (-1), 1) := by decide +kernel
theorem dX10_joinRound_26 : decode cX10_joinRound 26 = .ok (.if_icmp .eq 9, 3) := by decide +kernel
theorem dX10_joinRound_29 : decode cX10_joinRound 29 = .ok (.iload 5, 2) := by decide +kernel
theorem dX10_joinRound_31 : decode cX10_joinRound 31 = .ok (.iconst (-1), 1) := by decide +kernel
theorem dX10_joinRound_32 : decode cX10_joinRound 32 = .ok (.if_icmp .ne 13, 3) := by decide +kernel
theorem dX10_joinRound_35 : decode cX10_joinRound 35 = .ok (.iload_n 3, 1) := by decide +kernel
theorem dX10_joinRound_36 : decode cX10_joinRound 36 = .ok (.iload 5, 2) := by decide +kernel
theorem dX10_joinRound_38 : decode cX10_joinRound 38 = .ok (.invokestatic 43, 3) := by decide +kernel
theorem dX10_joinRound_41 : decode cX10_joinRound 41 = .ok (.istore_n 3, 1) := by decide +kernel
theorem dX10_joinRound_42 : decode cX10_joinRound 42 = .ok (.goto 26, 3) := by decide +kernel
theorem dX10_joinRound_45 : decode cX10_joinRound 45 = .ok (.iload_n 3, 1) := by decide +kernel
theorem dX10_joinRound_46 : decode cX10_joinRound 46 = .ok (.iload 5, 2) := by decide +kernel
theorem dX10_joinRound_48 : decode cX10_joinRound 48 = .ok (.invokestatic 43, 3) := by decide +kernel
theorem dX10_joinRound_51 : decode cX10_joinRound 51 = .ok (.istore 6, 2) := by decide +kernel
theorem dX10_joinRound_53 : decode cX10_joinRound 53 = .ok (.iload_n 3, 1) := by decide +kernel
theorem dX10_joinRound_54 : decode cX10_joinRound 54 = .ok (.iload 5, 2) := by decide +kernel
theorem dX10_joinRound_56 : decode cX10_joinRound 56 = .ok (.invokestatic 49, 3) := by decide +kernel
theorem dX10_joinRound_59 : decode cX10_joinRound 59 = .ok (.istore_n 3, 1) := by decide +kernel
theorem dX10_joinRound_60 : decode cX10_joinRound 60 = .ok (.aload_n 0, 1) := by decide +kernel
theorem dX10_joinRound_61 : decode cX10_joinRound 61 = .ok (.getfield 11, 3) := by decide +kernel
theorem dX10_joinRound_64 : decode cX10_joinRound 64 = .ok (.iload 6, 2) := by decide +kernel
theorem dX10_joinRound_66 : decode cX10_joinRound 66 = .ok (.iload_n 3, 1) := by decide +kernel
theorem dX10_joinRound_67 : decode cX10_joinRound 67 = .ok (.iastore, 1) := by decide +kernel
theorem dX10_joinRound_68 : decode cX10_joinRound 68 = .ok (.iinc 4 1, 3) := by decide +kernel
theorem dX10_joinRound_71 : decode cX10_joinRound 71 = .ok (.goto (-66), 3) := by decide +kernel
theorem dX10_joinRound_74 : decode cX10_joinRound 74 = .ok (.return_, 1) := by decide +kernel
theorem dX10_find_0 : decode cX10_find 0 = .ok (.iconst 0, 1) := by decide +kernel
theorem dX10_find_1 : decode cX10_find 1 = .ok (.istore_n 2, 1) := by decide +kernel
theorem dX10_find_2 : decode cX10_find 2 = .ok (.iload_n 2, 1) := by decide +kernel
theorem dX10_find_3 : decode cX10_find 3 = .ok (.bipush 9, 2) := by decide +kernel
theorem dX10_find_5 : decode cX10_find 5 = .ok (.if_icmp .ge 71, 3) := by decide +kernel
theorem dX10_find_8 : decode cX10_find 8 = .ok (.iconst 0, 1) := by decide +kernel
theorem dX10_find_9 : decode cX10_find 9 = .ok (.istore_n 3, 1) := by decide +kernel
theorem dX10_find_10 : decode cX10_find 10 = .ok (.iload_n 3, 1) := by decide +kernel
theorem dX10_find_11 : decode cX10_find 11 = .ok (.bipush 9, 2) := by decide +kernel
theorem dX10_find_13 : decode cX10_find 13 = .ok (.if_icmp .ge 57, 3) := by decide +kernel
theorem dX10_find_16 : decode cX10_find 16 = .ok (.iconst 0, 1) := by decide +kernel
theorem dX10_find_17 : decode cX10_find 17 = .ok (.istore 4, 2) := by decide +kernel
theorem dX10_find_19 : decode cX10_find 19 = .ok (.iload 4, 2) := by decide +kernel
theorem dX10_find_21 : decode cX10_find 21 = .ok (.iconst 2, 1) := by decide +kernel
theorem dX10_find_22 : decode cX10_find 22 = .ok (.if_icmp .ge 42, 3) := by decide +kernel
theorem dX10_find_25 : decode cX10_find 25 = .ok (.iload_n 3, 1) := by decide +kernel
theorem dX10_find_26 : decode cX10_find 26 = .ok (.iload_n 2, 1) := by decide +kernel
theorem dX10_find_27 : decode cX10_find 27 = .ok (.iload 4, 2) := by decide +kernel
theorem dX10_find_29 : decode cX10_find 29 = .ok (.invokestatic 17, 3) := by decide +kernel
theorem dX10_find_32 : decode cX10_find 32 = .ok (.istore 5, 2) := by decide +kernel
theorem dX10_find_34 : decode cX10_find 34 = .ok (.aload_n 0, 1) := by decide +kernel
theorem dX10_find_35 : decode cX10_find 35 = .ok (.getfield 11, 3) := by decide +kernel
theorem dX10_find_38 : decode cX10_find 38 = .ok (.iload 5, 2) := by decide +kernel
theorem dX10_find_40 : decode cX10_find 40 = .ok (.aload_n 1, 1) := by decide +kernel
theorem dX10_find_41 : decode cX10_find 41 = .ok (.iload_n 3, 1) := by decide +kernel
theorem dX10_find_42 : decode cX10_find 42 = .ok (.iload_n 2, 1) := by decide +kernel
theorem dX10_find_43 : decode cX10_find 43 = .ok (.iload 4, 2) := by decide +kernel
theorem dX10_find_45 : decode cX10_find 45 = .ok (.invokevirtual 21, 3) := by decide +kernel
theorem dX10_find_48 : decode cX10_find 48 = .ok (.ifCond .eq 8, 3) := by decide +kernel
theorem dX10_find_51 : decode cX10_find 51 = .ok (.iload 5, 2) := by decide +kernel
theorem dX10_find_53 : decode cX10_find 53 = .ok (.goto 4, 3) := by decide +kernel
theorem dX10_find_56 : decode cX10_find 56 = .ok (.iconst (-1), 1) := by decide +kernel
theorem dX10_find_57 : decode cX10_find 57 = .ok (.iastore, 1) := by decide +kernel
theorem dX10_find_58 : decode cX10_find 58 = .ok (.iinc 4 1, 3) := by decide +kernel
theorem dX10_find_61 : decode cX10_find 61 = .ok (.goto (-42), 3) := by decide +kernel
theorem dX10_find_64 : decode cX10_find 64 = .ok (.iinc 3 1, 3) := by decide +kernel
theorem dX10_find_67 : decode cX10_find 67 = .ok (.goto (-57), 3) := by decide +kernel
theorem dX10_find_70 : decode cX10_find 70 = .ok (.iinc 2 1, 3) := by decide +kernel
theorem dX10_find_73 : decode cX10_find 73 = .ok (.goto (-71), 3) := by decide +kernel
theorem dX10_find_76 : decode cX10_find 76 = .ok (.iconst 0, 1) := by decide +kernel
theorem dX10_find_77 : decode cX10_find 77 = .ok (.istore_n 2, 1) := by decide +kernel
theorem dX10_find_78 : decode cX10_find 78 = .ok (.iload_n 2, 1) := by decide +kernel
theorem dX10_find_79 : decode cX10_find 79 = .ok (.aload_n 1, 1) := by decide +kernel
theorem dX10_find_80 : decode cX10_find 80 = .ok (.getfield 25, 3) := by decide +kernel
theorem dX10_find_83 : decode cX10_find 83 = .ok (.iconst 1, 1) := by decide +kernel
theorem dX10_find_84 : decode cX10_find 84 = .ok (.isub, 1) := by decide +kernel
theorem dX10_find_85 : decode cX10_find 85 = .ok (.if_icmp .ge 33, 3) := by decide +kernel
theorem dX10_find_88 : decode cX10_find 88 = .ok (.iconst 0, 1) := by decide +kernel
theorem dX10_find_89 : decode cX10_find 89 = .ok (.istore_n 3, 1) := by decide +kernel
theorem dX10_find_90 : decode cX10_find 90 = .ok (.iload_n 3, 1) := by decide +kernel
theorem dX10_find_91 : decode cX10_find 91 = .ok (.aload_n 1, 1) := by decide +kernel
theorem dX10_find_92 : decode cX10_find 92 = .ok (.getfield 29, 3) := by decide +kernel
theorem dX10_find_95 : decode cX10_find 95 = .ok (.iconst 1, 1) := by decide +kernel
theorem dX10_find_96 : decode cX10_find 96 = .ok (.isub, 1) := by decide +kernel
theorem dX10_find_97 : decode cX10_find 97 = .ok (.if_icmp .ge 15, 3) := by decide +kernel
theorem dX10_find_100 : decode cX10_find 100 = .ok (.aload_n 0, 1) := by decide +kernel
theorem dX10_find_101 : decode cX10_find 101 = .ok (.iload_n 3, 1) := by decide +kernel
theorem dX10_find_102 : decode cX10_find 102 = .ok (.iload_n 2, 1) := by decide +kernel
theorem dX10_find_103 : decode cX10_find 103 = .ok (.invokevirtual 32, 3) := by decide +kernel
theorem dX10_find_106 : decode cX10_find 106 = .ok (.iinc 3 1, 3) := by decide +kernel
theorem dX10_find_109 : decode cX10_find 109 = .ok (.goto (-19), 3) := by decide +kernel
theorem dX10_find_112 : decode cX10_find 112 = .ok (.iinc 2 1, 3) := by decide +kernel
theorem dX10_find_115 : decode cX10_find 115 = .ok (.goto (-37), 3) := by decide +kernel
theorem dX10_find_118 : decode cX10_find 118 = .ok (.return_, 1) := by decide +kernel
theorem dX10_linksOf_0 : decode cX10_linksOf 0 = .ok (.iconst 0, 1) := by decide +kernel
theorem dX10_linksOf_1 : decode cX10_linksOf 1 = .ok (.istore_n 2, 1) := by decide +kernel
theorem dX10_linksOf_2 : decode cX10_linksOf 2 = .ok (.iconst 0, 1) := by decide +kernel
theorem dX10_linksOf_3 : decode cX10_linksOf 3 = .ok (.istore_n 3, 1) := by decide +kernel
theorem dX10_linksOf_4 : decode cX10_linksOf 4 = .ok (.iload_n 3, 1) := by decide +kernel
theorem dX10_linksOf_5 : decode cX10_linksOf 5 = .ok (.sipush 162, 3) := by decide +kernel
theorem dX10_linksOf_8 : decode cX10_linksOf 8 = .ok (.if_icmp .ge 21, 3) := by decide +kernel
theorem dX10_linksOf_11 : decode cX10_linksOf 11 = .ok (.aload_n 0, 1) := by decide +kernel
theorem dX10_linksOf_12 : decode cX10_linksOf 12 = .ok (.iload_n 3, 1) := by decide +kernel
theorem dX10_linksOf_13 : decode cX10_linksOf 13 = .ok (.invokevirtual 39, 3) := by decide +kernel
theorem dX10_linksOf_16 : decode cX10_linksOf 16 = .ok (.iload_n 1, 1) := by decide +kernel
theorem dX10_linksOf_17 : decode cX10_linksOf 17 = .ok (.if_icmp .ne 6, 3) := by decide +kernel
theorem dX10_linksOf_20 : decode cX10_linksOf 20 = .ok (.iinc 2 1, 3) := by decide +kernel
theorem dX10_linksOf_23 : decode cX10_linksOf 23 = .ok (.iinc 3 1, 3) := by decide +kernel
theorem dX10_linksOf_26 : decode cX10_linksOf 26 = .ok (.goto (-22), 3) := by decide +kernel
theorem dX10_linksOf_29 : decode cX10_linksOf 29 = .ok (.iload_n 2, 1) := by decide +kernel
theorem dX10_linksOf_30 : decode cX10_linksOf 30 = .ok (.ireturn, 1) := by decide +kernel
theorem dX10_mostLinks_0 : decode cX10_mostLinks 0 = .ok (.iconst 0, 1) := by decide +kernel
theorem dX10_mostLinks_1 : decode cX10_mostLinks 1 = .ok (.istore_n 1, 1) := by decide +kernel
theorem dX10_mostLinks_2 : decode cX10_mostLinks 2 = .ok (.iconst 0, 1) := by decide +kernel
theorem dX10_mostLinks_3 : decode cX10_mostLinks 3 = .ok (.istore_n 2, 1) := by decide +kernel
theorem dX10_mostLinks_4 : decode cX10_mostLinks 4 = .ok (.iload_n 2, 1) := by decide +kernel
theorem dX10_mostLinks_5 : decode cX10_mostLinks 5 = .ok (.sipush 162, 3) := by decide +kernel
theorem dX10_mostLinks_8 : decode cX10_mostLinks 8 = .ok (.if_icmp .ge 29, 3) := by decide +kernel
theorem dX10_mostLinks_11 : decode cX10_mostLinks 11 = .ok (.aload_n 0, 1) := by decide +kernel
theorem dX10_mostLinks_12 : decode cX10_mostLinks 12 = .ok (.getfield 11, 3) := by decide +kernel
theorem dX10_mostLinks_15 : decode cX10_mostLinks 15 = .ok (.iload_n 2, 1) := by decide +kernel
theorem dX10_mostLinks_16 : decode cX10_mostLinks 16 = .ok (.iaload, 1) := by decide +kernel
theorem dX10_mostLinks_17 : decode cX10_mostLinks 17 = .ok (.iload_n 2, 1) := by decide +kernel
theorem dX10_mostLinks_18 : decode cX10_mostLinks 18 = .ok (.if_icmp .ne 13, 3) := by decide +kernel
theorem dX10_mostLinks_21 : decode cX10_mostLinks 21 = .ok (.iload_n 1, 1) := by decide +kernel
theorem dX10_mostLinks_22 : decode cX10_mostLinks 22 = .ok (.aload_n 0, 1) := by decide +kernel
theorem dX10_mostLinks_23 : decode cX10_mostLinks 23 = .ok (.iload_n 2, 1) := by decide +kernel
theorem dX10_mostLinks_24 : decode cX10_mostLinks 24 = .ok (.invokevirtual 52, 3) := by decide +kernel
theorem dX10_mostLinks_27 : decode cX10_mostLinks 27 = .ok (.invokestatic 43, 3) := by decide +kernel
theorem dX10_mostLinks_30 : decode cX10_mostLinks 30 = .ok (.istore_n 1, 1) := by decide +kernel
theorem dX10_mostLinks_31 : decode cX10_mostLinks 31 = .ok (.iinc 2 1, 3) := by decide +kernel
theorem dX10_mostLinks_34 : decode cX10_mostLinks 34 = .ok (.goto (-30), 3) := by decide +kernel
theorem dX10_mostLinks_37 : decode cX10_mostLinks 37 = .ok (.iload_n 1, 1) := by decide +kernel
theorem dX10_mostLinks_38 : decode cX10_mostLinks 38 = .ok (.ireturn, 1) := by decide +kernel
theorem dX0_greatestNumber_0 : decode cX0_greatestNumber 0 = .ok (.iconst 0, 1) := by decide +kernel
theorem dX0_greatestNumber_1 : decode cX0_greatestNumber 1 = .ok (.istore_n 1, 1) := by decide +kernel
theorem dX0_greatestNumber_2 : decode cX0_greatestNumber 2 = .ok (.iconst 0, 1) := by decide +kernel
theorem dX0_greatestNumber_3 : decode cX0_greatestNumber 3 = .ok (.istore_n 2, 1) := by decide +kernel
theorem dX0_greatestNumber_4 : decode cX0_greatestNumber 4 = .ok (.iload_n 2, 1) := by decide +kernel
theorem dX0_greatestNumber_5 : decode cX0_greatestNumber 5 = .ok (.aload_n 0, 1) := by decide +kernel
theorem dX0_greatestNumber_6 : decode cX0_greatestNumber 6 = .ok (.getfield 18, 3) := by decide +kernel
theorem dX0_greatestNumber_9 : decode cX0_greatestNumber 9 = .ok (.if_icmp .ge 35, 3) := by decide +kernel
theorem dX0_greatestNumber_12 : decode cX0_greatestNumber 12 = .ok (.iload_n 1, 1) := by decide +kernel
theorem dX0_greatestNumber_13 : decode cX0_greatestNumber 13 = .ok (.aload_n 0, 1) := by decide +kernel
theorem dX0_greatestNumber_14 : decode cX0_greatestNumber 14 = .ok (.iload_n 2, 1) := by decide +kernel
theorem dX0_greatestNumber_15 : decode cX0_greatestNumber 15 = .ok (.iconst 0, 1) := by decide +kernel
theorem dX0_greatestNumber_16 : decode cX0_greatestNumber 16 = .ok (.invokevirtual 38, 3) := by decide +kernel
theorem dX0_greatestNumber_19 : decode cX0_greatestNumber 19 = .ok (.invokestatic 61, 3) := by decide +kernel
theorem dX0_greatestNumber_22 : decode cX0_greatestNumber 22 = .ok (.aload_n 0, 1) := by decide +kernel
theorem dX0_greatestNumber_23 : decode cX0_greatestNumber 23 = .ok (.iload_n 2, 1) := by decide +kernel
theorem dX0_greatestNumber_24 : decode cX0_greatestNumber 24 = .ok (.iconst 1, 1) := by decide +kernel
theorem dX0_greatestNumber_25 : decode cX0_greatestNumber 25 = .ok (.invokevirtual 38, 3) := by decide +kernel
theorem dX0_greatestNumber_28 : decode cX0_greatestNumber 28 = .ok (.invokestatic 61, 3) := by decide +kernel
theorem dX0_greatestNumber_31 : decode cX0_greatestNumber 31 = .ok (.invokestatic 70, 3) := by decide +kernel
theorem dX0_greatestNumber_34 : decode cX0_greatestNumber 34 = .ok (.invokestatic 70, 3) := by decide +kernel
theorem dX0_greatestNumber_37 : decode cX0_greatestNumber 37 = .ok (.istore_n 1, 1) := by decide +kernel
theorem dX0_greatestNumber_38 : decode cX0_greatestNumber 38 = .ok (.iinc 2 1, 3) := by decide +kernel
theorem dX0_greatestNumber_41 : decode cX0_greatestNumber 41 = .ok (.goto (-37), 3) := by decide +kernel
theorem dX0_greatestNumber_44 : decode cX0_greatestNumber 44 = .ok (.iload_n 1, 1) := by decide +kernel
theorem dX0_greatestNumber_45 : decode cX0_greatestNumber 45 = .ok (.ireturn, 1) := by decide +kernel
theorem dX0_withOpposite_0 : decode cX0_withOpposite 0 = .ok (.iconst 0, 1) := by decide +kernel
theorem dX0_withOpposite_1 : decode cX0_withOpposite 1 = .ok (.istore_n 1, 1) := by decide +kernel
theorem dX0_withOpposite_2 : decode cX0_withOpposite 2 = .ok (.iconst 0, 1) := by decide +kernel
theorem dX0_withOpposite_3 : decode cX0_withOpposite 3 = .ok (.istore_n 2, 1) := by decide +kernel
theorem dX0_withOpposite_4 : decode cX0_withOpposite 4 = .ok (.iload_n 2, 1) := by decide +kernel
theorem dX0_withOpposite_5 : decode cX0_withOpposite 5 = .ok (.aload_n 0, 1) := by decide +kernel
theorem dX0_withOpposite_6 : decode cX0_withOpposite 6 = .ok (.getfield 18, 3) := by decide +kernel
theorem dX0_withOpposite_9 : decode cX0_withOpposite 9 = .ok (.if_icmp .ge 20, 3) := by decide +kernel
theorem dX0_withOpposite_12 : decode cX0_withOpposite 12 = .ok (.aload_n 0, 1) := by decide +kernel
theorem dX0_withOpposite_13 : decode cX0_withOpposite 13 = .ok (.iload_n 2, 1) := by decide +kernel
theorem dX0_withOpposite_14 : decode cX0_withOpposite 14 = .ok (.invokevirtual 86, 3) := by decide +kernel
theorem dX0_withOpposite_17 : decode cX0_withOpposite 17 = .ok (.ifCond .eq 6, 3) := by decide +kernel
theorem dX0_withOpposite_20 : decode cX0_withOpposite 20 = .ok (.iinc 1 1, 3) := by decide +kernel
theorem dX0_withOpposite_23 : decode cX0_withOpposite 23 = .ok (.iinc 2 1, 3) := by decide +kernel
theorem dX0_withOpposite_26 : decode cX0_withOpposite 26 = .ok (.goto (-22), 3) := by decide +kernel
theorem dX0_withOpposite_29 : decode cX0_withOpposite 29 = .ok (.iload_n 1, 1) := by decide +kernel
theorem dX0_withOpposite_30 : decode cX0_withOpposite 30 = .ok (.ireturn, 1) := by decide +kernel
theorem dX11_most_0 : decode cX11_most 0 = .ok (.aload_n 0, 1) := by decide +kernel
theorem dX11_most_1 : decode cX11_most 1 = .ok (.invokevirtual 136, 3) := by decide +kernel
theorem dX11_most_4 : decode cX11_most 4 = .ok (.ifCond .eq 5, 3) := by decide +kernel
theorem dX11_most_7 : decode cX11_most 7 = .ok (.iconst (-1), 1) := by decide +kernel
theorem dX11_most_8 : decode cX11_most 8 = .ok (.ireturn, 1) := by decide +kernel
theorem dX11_most_9 : decode cX11_most 9 = .ok (.iload_n 1, 1) := by decide +kernel
theorem dX11_most_10 : decode cX11_most 10 = .ok (.tableswitch 159 0 7 #[46, 57, 68, 83, 94, 115, 137, 148], 46) := by decide +kernel
theorem dX11_most_56 : decode cX11_most 56 = .ok (.aload_n 0, 1) := by decide +kernel
theorem dX11_most_57 : decode cX11_most 57 = .ok (.getfield 28, 3) := by decide +kernel
theorem dX11_most_60 : decode cX11_most 60 = .ok (.getfield 127, 3) := by decide +kernel
theorem dX11_most_63 : decode cX11_most 63 = .ok (.invokevirtual 361, 3) := by decide +kernel
theorem dX11_most_66 : decode cX11_most 66 = .ok (.ireturn, 1) := by decide +kernel
theorem dX11_most_67 : decode cX11_most 67 = .ok (.aload_n 0, 1) := by decide +kernel
theorem dX11_most_68 : decode cX11_most 68 = .ok (.getfield 28, 3) := by decide +kernel
theorem dX11_most_71 : decode cX11_most 71 = .ok (.getfield 127, 3) := by decide +kernel
theorem dX11_most_74 : decode cX11_most 74 = .ok (.invokevirtual 364, 3) := by decide +kernel
theorem dX11_most_77 : decode cX11_most 77 = .ok (.ireturn, 1) := by decide +kernel
theorem dX11_most_78 : decode cX11_most 78 = .ok (.aload_n 0, 1) := by decide +kernel
theorem dX11_most_79 : decode cX11_most 79 = .ok (.getfield 28, 3) := by decide +kernel
theorem dX11_most_82 : decode cX11_most 82 = .ok (.getfield 127, 3) := by decide +kernel
theorem dX11_most_85 : decode cX11_most 85 = .ok (.aload_n 0, 1) := by decide +kernel
theorem dX11_most_86 : decode cX11_most 86 = .ok (.getfield 35, 3) := by decide +kernel
theorem dX11_most_89 : decode cX11_most 89 = .ok (.invokevirtual 367, 3) := by decide +kernel
theorem dX11_most_92 : decode cX11_most 92 = .ok (.ireturn, 1) := by decide +kernel
theorem dX11_most_93 : decode cX11_most 93 = .ok (.aload_n 0, 1) := by decide +kernel
theorem dX11_most_94 : decode cX11_most 94 = .ok (.getfield 28, 3) := by decide +kernel
theorem dX11_most_97 : decode cX11_most 97 = .ok (.getfield 127, 3) := by decide +kernel
theorem dX11_most_100 : decode cX11_most 100 = .ok (.invokevirtual 370, 3) := by decide +kernel
theorem dX11_most_103 : decode cX11_most 103 = .ok (.ireturn, 1) := by decide +kernel
theorem dX11_most_104 : decode cX11_most 104 = .ok (.aload_n 0, 1) := by decide +kernel
theorem dX11_most_105 : decode cX11_most 105 = .ok (.getfield 28, 3) := by decide +kernel
theorem dX11_most_108 : decode cX11_most 108 = .ok (.getfield 127, 3) := by decide +kernel
theorem dX11_most_111 : decode cX11_most 111 = .ok (.aload_n 0, 1) := by decide +kernel
theorem dX11_most_112 : decode cX11_most 112 = .ok (.getfield 28, 3) := by decide +kernel
theorem dX11_most_115 : decode cX11_most 115 = .ok (.getfield 127, 3) := by decide +kernel
theorem dX11_most_118 : decode cX11_most 118 = .ok (.invokevirtual 370, 3) := by decide +kernel
theorem dX11_most_121 : decode cX11_most 121 = .ok (.invokevirtual 373, 3) := by decide +kernel
theorem dX11_most_124 : decode cX11_most 124 = .ok (.ireturn, 1) := by decide +kernel
theorem dX11_most_125 : decode cX11_most 125 = .ok (.aload_n 0, 1) := by decide +kernel
theorem dX11_most_126 : decode cX11_most 126 = .ok (.getfield 76, 3) := by decide +kernel
theorem dX11_most_129 : decode cX11_most 129 = .ok (.aload_n 0, 1) := by decide +kernel
theorem dX11_most_130 : decode cX11_most 130 = .ok (.getfield 28, 3) := by decide +kernel
theorem dX11_most_133 : decode cX11_most 133 = .ok (.getfield 141, 3) := by decide +kernel
theorem dX11_most_136 : decode cX11_most 136 = .ok (.invokevirtual 162, 3) := by decide +kernel
theorem dX11_most_139 : decode cX11_most 139 = .ok (.aload_n 0, 1) := by decide +kernel
theorem dX11_most_140 : decode cX11_most 140 = .ok (.getfield 76, 3) := by decide +kernel
theorem dX11_most_143 : decode cX11_most 143 = .ok (.invokevirtual 376, 3) := by decide +kernel
theorem dX11_most_146 : decode cX11_most 146 = .ok (.ireturn, 1) := by decide +kernel
theorem dX11_most_147 : decode cX11_most 147 = .ok (.aload_n 0, 1) := by decide +kernel
theorem dX11_most_148 : decode cX11_most 148 = .ok (.getfield 28, 3) := by decide +kernel
theorem dX11_most_151 : decode cX11_most 151 = .ok (.getfield 127, 3) := by decide +kernel
theorem dX11_most_154 : decode cX11_most 154 = .ok (.invokevirtual 379, 3) := by decide +kernel
theorem dX11_most_157 : decode cX11_most 157 = .ok (.ireturn, 1) := by decide +kernel
theorem dX11_most_158 : decode cX11_most 158 = .ok (.aload_n 0, 1) := by decide +kernel
theorem dX11_most_159 : decode cX11_most 159 = .ok (.getfield 28, 3) := by decide +kernel
theorem dX11_most_162 : decode cX11_most 162 = .ok (.getfield 127, 3) := by decide +kernel
theorem dX11_most_165 : decode cX11_most 165 = .ok (.invokevirtual 382, 3) := by decide +kernel
theorem dX11_most_168 : decode cX11_most 168 = .ok (.ireturn, 1) := by decide +kernel
theorem dX11_most_169 : decode cX11_most 169 = .ok (.iconst (-1), 1) := by decide +kernel
theorem dX11_most_170 : decode cX11_most 170 = .ok (.ireturn, 1) := by decide +kernel
theorem dX11_wouldSplit_0 : decode cX11_wouldSplit 0 = .ok (.iload 5, 2) := by decide +kernel
theorem dX11_wouldSplit_2 : decode cX11_wouldSplit 2 = .ok (.ifCond .lt 9, 3) := by decide +kernel
theorem dX11_wouldSplit_5 : decode cX11_wouldSplit 5 = .ok (.iload 5, 2) := by decide +kernel
theorem dX11_wouldSplit_7 : decode cX11_wouldSplit 7 = .ok (.iconst 3, 1) := by decide +kernel
theorem dX11_wouldSplit_8 : decode cX11_wouldSplit 8 = .ok (.if_icmp .le 5, 3) := by decide +kernel
theorem dX11_wouldSplit_11 : decode cX11_wouldSplit 11 = .ok (.iconst 0, 1) := by decide +kernel
theorem dX11_wouldSplit_12 : decode cX11_wouldSplit 12 = .ok (.ireturn, 1) := by decide +kernel
theorem dX11_wouldSplit_13 : decode cX11_wouldSplit 13 = .ok (.iload_n 1, 1) := by decide +kernel
theorem dX11_wouldSplit_14 : decode cX11_wouldSplit 14 = .ok (.getstatic 234, 3) := by decide +kernel
theorem dX11_wouldSplit_17 : decode cX11_wouldSplit 17 = .ok (.iload 5, 2) := by decide +kernel
theorem dX11_wouldSplit_19 : decode cX11_wouldSplit 19 = .ok (.iaload, 1) := by decide +kernel
theorem dX11_wouldSplit_20 : decode cX11_wouldSplit 20 = .ok (.iadd, 1) := by decide +kernel
theorem dX11_wouldSplit_21 : decode cX11_wouldSplit 21 = .ok (.istore 6, 2) := by decide +kernel
theorem dX11_wouldSplit_23 : decode cX11_wouldSplit 23 = .ok (.iload_n 2, 1) := by decide +kernel
theorem dX11_wouldSplit_24 : decode cX11_wouldSplit 24 = .ok (.getstatic 237, 3) := by decide +kernel
theorem dX11_wouldSplit_27 : decode cX11_wouldSplit 27 = .ok (.iload 5, 2) := by decide +kernel
theorem dX11_wouldSplit_29 : decode cX11_wouldSplit 29 = .ok (.iaload, 1) := by decide +kernel
theorem dX11_wouldSplit_30 : decode cX11_wouldSplit 30 = .ok (.iadd, 1) := by decide +kernel
theorem dX11_wouldSplit_31 : decode cX11_wouldSplit 31 = .ok (.istore 7, 2) := by decide +kernel
theorem dX11_wouldSplit_33 : decode cX11_wouldSplit 33 = .ok (.aload_n 0, 1) := by decide +kernel
theorem dX11_wouldSplit_34 : decode cX11_wouldSplit 34 = .ok (.getfield 28, 3) := by decide +kernel
theorem dX11_wouldSplit_37 : decode cX11_wouldSplit 37 = .ok (.getfield 141, 3) := by decide +kernel
theorem dX11_wouldSplit_40 : decode cX11_wouldSplit 40 = .ok (.iload_n 1, 1) := by decide +kernel
theorem dX11_wouldSplit_41 : decode cX11_wouldSplit 41 = .ok (.iload_n 2, 1) := by decide +kernel
theorem dX11_wouldSplit_42 : decode cX11_wouldSplit 42 = .ok (.iconst 0, 1) := by decide +kernel
theorem dX11_wouldSplit_43 : decode cX11_wouldSplit 43 = .ok (.invokevirtual 195, 3) := by decide +kernel
theorem dX11_wouldSplit_46 : decode cX11_wouldSplit 46 = .ok (.iload_n 3, 1) := by decide +kernel
theorem dX11_wouldSplit_47 : decode cX11_wouldSplit 47 = .ok (.if_icmp .ne 21, 3) := by decide +kernel
theorem dX11_wouldSplit_50 : decode cX11_wouldSplit 50 = .ok (.aload_n 0, 1) := by decide +kernel
theorem dX11_wouldSplit_51 : decode cX11_wouldSplit 51 = .ok (.getfield 28, 3) := by decide +kernel
theorem dX11_wouldSplit_54 : decode cX11_wouldSplit 54 = .ok (.getfield 141, 3) := by decide +kernel
theorem dX11_wouldSplit_57 : decode cX11_wouldSplit 57 = .ok (.iload_n 1, 1) := by decide +kernel
theorem dX11_wouldSplit_58 : decode cX11_wouldSplit 58 = .ok (.iload_n 2, 1) := by decide +kernel
theorem dX11_wouldSplit_59 : decode cX11_wouldSplit 59 = .ok (.iconst 1, 1) := by decide +kernel
theorem dX11_wouldSplit_60 : decode cX11_wouldSplit 60 = .ok (.invokevirtual 195, 3) := by decide +kernel
theorem dX11_wouldSplit_63 : decode cX11_wouldSplit 63 = .ok (.iload 4, 2) := by decide +kernel
theorem dX11_wouldSplit_65 : decode cX11_wouldSplit 65 = .ok (.if_icmp .eq 7, 3) := by decide +kernel
theorem dX11_wouldSplit_68 : decode cX11_wouldSplit 68 = .ok (.iconst 1, 1) := by decide +kernel
theorem dX11_wouldSplit_69 : decode cX11_wouldSplit 69 = .ok (.goto 4, 3) := by decide +kernel
theorem dX11_wouldSplit_72 : decode cX11_wouldSplit 72 = .ok (.iconst 0, 1) := by decide +kernel
theorem dX11_wouldSplit_73 : decode cX11_wouldSplit 73 = .ok (.istore 8, 2) := by decide +kernel
theorem dX11_wouldSplit_75 : decode cX11_wouldSplit 75 = .ok (.iload 8, 2) := by decide +kernel
theorem dX11_wouldSplit_77 : decode cX11_wouldSplit 77 = .ok (.ifCond .eq 41, 3) := by decide +kernel
theorem dX11_wouldSplit_80 : decode cX11_wouldSplit 80 = .ok (.aload_n 0, 1) := by decide +kernel
theorem dX11_wouldSplit_81 : decode cX11_wouldSplit 81 = .ok (.getfield 28, 3) := by decide +kernel
theorem dX11_wouldSplit_84 : decode cX11_wouldSplit 84 = .ok (.getfield 141, 3) := by decide +kernel
theorem dX11_wouldSplit_87 : decode cX11_wouldSplit 87 = .ok (.iload 6, 2) := by decide +kernel
theorem dX11_wouldSplit_89 : decode cX11_wouldSplit 89 = .ok (.iload 7, 2) := by decide +kernel
theorem dX11_wouldSplit_91 : decode cX11_wouldSplit 91 = .ok (.invokevirtual 188, 3) := by decide +kernel
theorem dX11_wouldSplit_94 : decode cX11_wouldSplit 94 = .ok (.ifCond .eq 24, 3) := by decide +kernel
theorem dX11_wouldSplit_97 : decode cX11_wouldSplit 97 = .ok (.aload_n 0, 1) := by decide +kernel
theorem dX11_wouldSplit_98 : decode cX11_wouldSplit 98 = .ok (.getfield 28, 3) := by decide +kernel
theorem dX11_wouldSplit_101 : decode cX11_wouldSplit 101 = .ok (.getfield 141, 3) := by decide +kernel
theorem dX11_wouldSplit_104 : decode cX11_wouldSplit 104 = .ok (.iload 6, 2) := by decide +kernel
theorem dX11_wouldSplit_106 : decode cX11_wouldSplit 106 = .ok (.iload 7, 2) := by decide +kernel
theorem dX11_wouldSplit_108 : decode cX11_wouldSplit 108 = .ok (.invokevirtual 385, 3) := by decide +kernel
theorem dX11_wouldSplit_111 : decode cX11_wouldSplit 111 = .ok (.ifCond .eq 7, 3) := by decide +kernel
theorem dX11_wouldSplit_114 : decode cX11_wouldSplit 114 = .ok (.iconst 1, 1) := by decide +kernel
theorem dX11_wouldSplit_115 : decode cX11_wouldSplit 115 = .ok (.goto 4, 3) := by decide +kernel
theorem dX11_wouldSplit_118 : decode cX11_wouldSplit 118 = .ok (.iconst 0, 1) := by decide +kernel
theorem dX11_wouldSplit_119 : decode cX11_wouldSplit 119 = .ok (.ireturn, 1) := by decide +kernel
theorem dX11_nextState_0 : decode cX11_nextState 0 = .ok (.lload_n 0, 1) := by decide +kernel
theorem dX11_nextState_1 : decode cX11_nextState 1 = .ok (.ldc2_w 388, 3) := by decide +kernel
theorem dX11_nextState_4 : decode cX11_nextState 4 = .ok (.lmul, 1) := by decide +kernel
theorem dX11_nextState_5 : decode cX11_nextState 5 = .ok (.ldc2_w 390, 3) := by decide +kernel
theorem dX11_nextState_8 : decode cX11_nextState 8 = .ok (.ladd, 1) := by decide +kernel
theorem dX11_nextState_9 : decode cX11_nextState 9 = .ok (.lreturn, 1) := by decide +kernel
theorem dX7_strideFrom_0 : decode cX7_strideFrom 0 = .ok (.iload_n 3, 1) := by decide +kernel
theorem dX7_strideFrom_1 : decode cX7_strideFrom 1 = .ok (.tableswitch 60 0 2 #[27, 37, 47], 27) := by decide +kernel
theorem dX7_strideFrom_28 : decode cX7_strideFrom 28 = .ok (.aload_n 0, 1) := by decide +kernel
theorem dX7_strideFrom_29 : decode cX7_strideFrom 29 = .ok (.iload_n 1, 1) := by decide +kernel
theorem dX7_strideFrom_30 : decode cX7_strideFrom 30 = .ok (.iload_n 2, 1) := by decide +kernel
theorem dX7_strideFrom_31 : decode cX7_strideFrom 31 = .ok (.iconst 0, 1) := by decide +kernel
theorem dX7_strideFrom_32 : decode cX7_strideFrom 32 = .ok (.iload 4, 2) := by decide +kernel
theorem dX7_strideFrom_34 : decode cX7_strideFrom 34 = .ok (.invokevirtual 36, 3) := by decide +kernel
theorem dX7_strideFrom_37 : decode cX7_strideFrom 37 = .ok (.ireturn, 1) := by decide +kernel
theorem dX7_strideFrom_38 : decode cX7_strideFrom 38 = .ok (.aload_n 0, 1) := by decide +kernel
theorem dX7_strideFrom_39 : decode cX7_strideFrom 39 = .ok (.iload_n 1, 1) := by decide +kernel
theorem dX7_strideFrom_40 : decode cX7_strideFrom 40 = .ok (.iload_n 2, 1) := by decide +kernel
theorem dX7_strideFrom_41 : decode cX7_strideFrom 41 = .ok (.iconst 1, 1) := by decide +kernel
theorem dX7_strideFrom_42 : decode cX7_strideFrom 42 = .ok (.iload 4, 2) := by decide +kernel
theorem dX7_strideFrom_44 : decode cX7_strideFrom 44 = .ok (.invokevirtual 36, 3) := by decide +kernel
theorem dX7_strideFrom_47 : decode cX7_strideFrom 47 = .ok (.ireturn, 1) := by decide +kernel
theorem dX7_strideFrom_48 : decode cX7_strideFrom 48 = .ok (.aload_n 0, 1) := by decide +kernel
theorem dX7_strideFrom_49 : decode cX7_strideFrom 49 = .ok (.iload_n 1, 1) := by decide +kernel
theorem dX7_strideFrom_50 : decode cX7_strideFrom 50 = .ok (.iconst 1, 1) := by decide +kernel
theorem dX7_strideFrom_51 : decode cX7_strideFrom 51 = .ok (.isub, 1) := by decide +kernel
theorem dX7_strideFrom_52 : decode cX7_strideFrom 52 = .ok (.iload_n 2, 1) := by decide +kernel
theorem dX7_strideFrom_53 : decode cX7_strideFrom 53 = .ok (.iconst 0, 1) := by decide +kernel
theorem dX7_strideFrom_54 : decode cX7_strideFrom 54 = .ok (.iload 4, 2) := by decide +kernel
theorem dX7_strideFrom_56 : decode cX7_strideFrom 56 = .ok (.invokevirtual 36, 3) := by decide +kernel
theorem dX7_strideFrom_59 : decode cX7_strideFrom 59 = .ok (.ineg, 1) := by decide +kernel
theorem dX7_strideFrom_60 : decode cX7_strideFrom 60 = .ok (.ireturn, 1) := by decide +kernel
theorem dX7_strideFrom_61 : decode cX7_strideFrom 61 = .ok (.aload_n 0, 1) := by decide +kernel
theorem dX7_strideFrom_62 : decode cX7_strideFrom 62 = .ok (.iload_n 1, 1) := by decide +kernel
theorem dX7_strideFrom_63 : decode cX7_strideFrom 63 = .ok (.iload_n 2, 1) := by decide +kernel
theorem dX7_strideFrom_64 : decode cX7_strideFrom 64 = .ok (.iconst 1, 1) := by decide +kernel
theorem dX7_strideFrom_65 : decode cX7_strideFrom 65 = .ok (.isub, 1) := by decide +kernel
theorem dX7_strideFrom_66 : decode cX7_strideFrom 66 = .ok (.iconst 1, 1) := by decide +kernel
theorem dX7_strideFrom_67 : decode cX7_strideFrom 67 = .ok (.iload 4, 2) := by decide +kernel
theorem dX7_strideFrom_69 : decode cX7_strideFrom 69 = .ok (.invokevirtual 36, 3) := by decide +kernel
theorem dX7_strideFrom_72 : decode cX7_strideFrom 72 = .ok (.ineg, 1) := by decide +kernel
theorem dX7_strideFrom_73 : decode cX7_strideFrom 73 = .ok (.ireturn, 1) := by decide +kernel
theorem dX11_path_0 : decode cX11_path 0 = .ok (.aload_n 0, 1) := by decide +kernel
theorem dX11_path_1 : decode cX11_path 1 = .ok (.getfield 28, 3) := by decide +kernel
theorem dX11_path_4 : decode cX11_path 4 = .ok (.getfield 141, 3) := by decide +kernel
theorem dX11_path_7 : decode cX11_path 7 = .ok (.iload_n 1, 1) := by decide +kernel
theorem dX11_path_8 : decode cX11_path 8 = .ok (.iload_n 2, 1) := by decide +kernel
theorem dX11_path_9 : decode cX11_path 9 = .ok (.invokevirtual 207, 3) := by decide +kernel
theorem dX11_path_12 : decode cX11_path 12 = .ok (.ifCond .ne 5, 3) := by decide +kernel
theorem dX11_path_15 : decode cX11_path 15 = .ok (.iconst (-1), 1) := by decide +kernel
theorem dX11_path_16 : decode cX11_path 16 = .ok (.ireturn, 1) := by decide +kernel
theorem dX11_path_17 : decode cX11_path 17 = .ok (.iload_n 1, 1) := by decide +kernel
theorem dX11_path_18 : decode cX11_path 18 = .ok (.istore_n 3, 1) := by decide +kernel
theorem dX11_path_19 : decode cX11_path 19 = .ok (.iload_n 2, 1) := by decide +kernel
theorem dX11_path_20 : decode cX11_path 20 = .ok (.istore 4, 2) := by decide +kernel
theorem dX11_path_22 : decode cX11_path 22 = .ok (.iconst 0, 1) := by decide +kernel
theorem dX11_path_23 : decode cX11_path 23 = .ok (.istore 5, 2) := by decide +kernel
theorem dX11_path_25 : decode cX11_path 25 = .ok (.iconst 0, 1) := by decide +kernel
theorem dX11_path_26 : decode cX11_path 26 = .ok (.istore 6, 2) := by decide +kernel
theorem dX11_path_28 : decode cX11_path 28 = .ok (.iconst 0, 1) := by decide +kernel
theorem dX11_path_29 : decode cX11_path 29 = .ok (.istore 7, 2) := by decide +kernel
theorem dX11_path_31 : decode cX11_path 31 = .ok (.iload 7, 2) := by decide +kernel
theorem dX11_path_33 : decode cX11_path 33 = .ok (.aload_n 0, 1) := by decide +kernel
theorem dX11_path_34 : decode cX11_path 34 = .ok (.getfield 10, 3) := by decide +kernel
theorem dX11_path_37 : decode cX11_path 37 = .ok (.getfield 91, 3) := by decide +kernel
theorem dX11_path_40 : decode cX11_path 40 = .ok (.if_icmp .ge 143, 3) := by decide +kernel
theorem dX11_path_43 : decode cX11_path 43 = .ok (.iload 7, 2) := by decide +kernel
theorem dX11_path_45 : decode cX11_path 45 = .ok (.bipush 120, 2) := by decide +kernel
theorem dX11_path_47 : decode cX11_path 47 = .ok (.if_icmp .ge 18, 3) := by decide +kernel
theorem dX11_path_50 : decode cX11_path 50 = .ok (.aload_n 0, 1) := by decide +kernel
theorem dX11_path_51 : decode cX11_path 51 = .ok (.getfield 10, 3) := by decide +kernel
theorem dX11_path_54 : decode cX11_path 54 = .ok (.iload 7, 2) := by decide +kernel
theorem dX11_path_56 : decode cX11_path 56 = .ok (.invokevirtual 228, 3) := by decide +kernel
theorem dX11_path_59 : decode cX11_path 59 = .ok (.invokestatic 231, 3) := by decide +kernel
theorem dX11_path_62 : decode cX11_path 62 = .ok (.goto 4, 3) := by decide +kernel
theorem dX11_path_65 : decode cX11_path 65 = .ok (.iconst (-1), 1) := by decide +kernel
theorem dX11_path_66 : decode cX11_path 66 = .ok (.istore 8, 2) := by decide +kernel
theorem dX11_path_68 : decode cX11_path 68 = .ok (.iload 8, 2) := by decide +kernel
theorem dX11_path_70 : decode cX11_path 70 = .ok (.ifCond .lt 39, 3) := by decide +kernel
theorem dX11_path_73 : decode cX11_path 73 = .ok (.iload 8, 2) := by decide +kernel
theorem dX11_path_75 : decode cX11_path 75 = .ok (.iconst 3, 1) := by decide +kernel
theorem dX11_path_76 : decode cX11_path 76 = .ok (.if_icmp .gt 33, 3) := by decide +kernel
theorem dX11_path_79 : decode cX11_path 79 = .ok (.aload_n 0, 1) := by decide +kernel
theorem dX11_path_80 : decode cX11_path 80 = .ok (.getfield 28, 3) := by decide +kernel
theorem dX11_path_83 : decode cX11_path 83 = .ok (.getfield 141, 3) := by decide +kernel
theorem dX11_path_86 : decode cX11_path 86 = .ok (.iload_n 3, 1) := by decide +kernel
theorem dX11_path_87 : decode cX11_path 87 = .ok (.getstatic 234, 3) := by decide +kernel
theorem dX11_path_90 : decode cX11_path 90 = .ok (.iload 8, 2) := by decide +kernel
theorem dX11_path_92 : decode cX11_path 92 = .ok (.iaload, 1) := by decide +kernel
theorem dX11_path_93 : decode cX11_path 93 = .ok (.iadd, 1) := by decide +kernel
theorem dX11_path_94 : decode cX11_path 94 = .ok (.iload 4, 2) := by decide +kernel
theorem dX11_path_96 : decode cX11_path 96 = .ok (.getstatic 237, 3) := by decide +kernel
theorem dX11_path_99 : decode cX11_path 99 = .ok (.iload 8, 2) := by decide +kernel
theorem dX11_path_101 : decode cX11_path 101 = .ok (.iaload, 1) := by decide +kernel
theorem dX11_path_102 : decode cX11_path 102 = .ok (.iadd, 1) := by decide +kernel
theorem dX11_path_103 : decode cX11_path 103 = .ok (.invokevirtual 207, 3) := by decide +kernel
theorem dX11_path_106 : decode cX11_path 106 = .ok (.ifCond .ne 9, 3) := by decide +kernel
theorem dX11_path_109 : decode cX11_path 109 = .ok (.bipush (-2), 2) := by decide +kernel
theorem dX11_path_111 : decode cX11_path 111 = .ok (.iload 7, 2) := by decide +kernel
theorem dX11_path_113 : decode cX11_path 113 = .ok (.isub, 1) := by decide +kernel
theorem dX11_path_114 : decode cX11_path 114 = .ok (.ireturn, 1) := by decide +kernel
theorem dX11_path_115 : decode cX11_path 115 = .ok (.iload 5, 2) := by decide +kernel
theorem dX11_path_117 : decode cX11_path 117 = .ok (.aload_n 0, 1) := by decide +kernel
theorem dX11_path_118 : decode cX11_path 118 = .ok (.getfield 28, 3) := by decide +kernel
theorem dX11_path_121 : decode cX11_path 121 = .ok (.getfield 141, 3) := by decide +kernel
theorem dX11_path_124 : decode cX11_path 124 = .ok (.iload_n 3, 1) := by decide +kernel
theorem dX11_path_125 : decode cX11_path 125 = .ok (.iload 4, 2) := by decide +kernel
theorem dX11_path_127 : decode cX11_path 127 = .ok (.iload 8, 2) := by decide +kernel
theorem dX11_path_129 : decode cX11_path 129 = .ok (.iconst 0, 1) := by decide +kernel
theorem dX11_path_130 : decode cX11_path 130 = .ok (.invokevirtual 240, 3) := by decide +kernel
theorem dX11_path_133 : decode cX11_path 133 = .ok (.iadd, 1) := by decide +kernel
theorem dX11_path_134 : decode cX11_path 134 = .ok (.istore 5, 2) := by decide +kernel
theorem dX11_path_136 : decode cX11_path 136 = .ok (.iload 6, 2) := by decide +kernel
theorem dX11_path_138 : decode cX11_path 138 = .ok (.aload_n 0, 1) := by decide +kernel
theorem dX11_path_139 : decode cX11_path 139 = .ok (.getfield 28, 3) := by decide +kernel
theorem dX11_path_142 : decode cX11_path 142 = .ok (.getfield 141, 3) := by decide +kernel
theorem dX11_path_145 : decode cX11_path 145 = .ok (.iload_n 3, 1) := by decide +kernel
theorem dX11_path_146 : decode cX11_path 146 = .ok (.iload 4, 2) := by decide +kernel
theorem dX11_path_148 : decode cX11_path 148 = .ok (.iload 8, 2) := by decide +kernel
theorem dX11_path_150 : decode cX11_path 150 = .ok (.iconst 1, 1) := by decide +kernel
theorem dX11_path_151 : decode cX11_path 151 = .ok (.invokevirtual 240, 3) := by decide +kernel
theorem dX11_path_154 : decode cX11_path 154 = .ok (.iadd, 1) := by decide +kernel
theorem dX11_path_155 : decode cX11_path 155 = .ok (.istore 6, 2) := by decide +kernel
theorem dX11_path_157 : decode cX11_path 157 = .ok (.iload_n 3, 1) := by decide +kernel
theorem dX11_path_158 : decode cX11_path 158 = .ok (.getstatic 234, 3) := by decide +kernel
theorem dX11_path_161 : decode cX11_path 161 = .ok (.iload 8, 2) := by decide +kernel
theorem dX11_path_163 : decode cX11_path 163 = .ok (.iaload, 1) := by decide +kernel
theorem dX11_path_164 : decode cX11_path 164 = .ok (.iadd, 1) := by decide +kernel
theorem dX11_path_165 : decode cX11_path 165 = .ok (.istore_n 3, 1) := by decide +kernel
theorem dX11_path_166 : decode cX11_path 166 = .ok (.iload 4, 2) := by decide +kernel
theorem dX11_path_168 : decode cX11_path 168 = .ok (.getstatic 237, 3) := by decide +kernel
theorem dX11_path_171 : decode cX11_path 171 = .ok (.iload 8, 2) := by decide +kernel
theorem dX11_path_173 : decode cX11_path 173 = .ok (.iaload, 1) := by decide +kernel
theorem dX11_path_174 : decode cX11_path 174 = .ok (.iadd, 1) := by decide +kernel
theorem dX11_path_175 : decode cX11_path 175 = .ok (.istore 4, 2) := by decide +kernel
theorem dX11_path_177 : decode cX11_path 177 = .ok (.iinc 7 1, 3) := by decide +kernel
theorem dX11_path_180 : decode cX11_path 180 = .ok (.goto (-149), 3) := by decide +kernel
theorem dX11_path_183 : decode cX11_path 183 = .ok (.aload_n 0, 1) := by decide +kernel
theorem dX11_path_184 : decode cX11_path 184 = .ok (.getfield 60, 3) := by decide +kernel
theorem dX11_path_187 : decode cX11_path 187 = .ok (.iconst 0, 1) := by decide +kernel
theorem dX11_path_188 : decode cX11_path 188 = .ok (.iload 5, 2) := by decide +kernel
theorem dX11_path_190 : decode cX11_path 190 = .ok (.iastore, 1) := by decide +kernel
theorem dX11_path_191 : decode cX11_path 191 = .ok (.aload_n 0, 1) := by decide +kernel
theorem dX11_path_192 : decode cX11_path 192 = .ok (.getfield 60, 3) := by decide +kernel
theorem dX11_path_195 : decode cX11_path 195 = .ok (.iconst 1, 1) := by decide +kernel
theorem dX11_path_196 : decode cX11_path 196 = .ok (.iload 6, 2) := by decide +kernel
theorem dX11_path_198 : decode cX11_path 198 = .ok (.iastore, 1) := by decide +kernel
theorem dX11_path_199 : decode cX11_path 199 = .ok (.aload_n 0, 1) := by decide +kernel
theorem dX11_path_200 : decode cX11_path 200 = .ok (.getfield 60, 3) := by decide +kernel
theorem dX11_path_203 : decode cX11_path 203 = .ok (.iconst 2, 1) := by decide +kernel
theorem dX11_path_204 : decode cX11_path 204 = .ok (.aload_n 0, 1) := by decide +kernel
theorem dX11_path_205 : decode cX11_path 205 = .ok (.getfield 10, 3) := by decide +kernel
theorem dX11_path_208 : decode cX11_path 208 = .ok (.getfield 91, 3) := by decide +kernel
theorem dX11_path_211 : decode cX11_path 211 = .ok (.iastore, 1) := by decide +kernel
theorem dX11_path_212 : decode cX11_path 212 = .ok (.aload_n 0, 1) := by decide +kernel
theorem dX11_path_213 : decode cX11_path 213 = .ok (.getfield 60, 3) := by decide +kernel
theorem dX11_path_216 : decode cX11_path 216 = .ok (.iconst 3, 1) := by decide +kernel
theorem dX11_path_217 : decode cX11_path 217 = .ok (.iload_n 3, 1) := by decide +kernel
theorem dX11_path_218 : decode cX11_path 218 = .ok (.iastore, 1) := by decide +kernel
theorem dX11_path_219 : decode cX11_path 219 = .ok (.aload_n 0, 1) := by decide +kernel
theorem dX11_path_220 : decode cX11_path 220 = .ok (.getfield 60, 3) := by decide +kernel
theorem dX11_path_223 : decode cX11_path 223 = .ok (.iconst 4, 1) := by decide +kernel
theorem dX11_path_224 : decode cX11_path 224 = .ok (.iload 4, 2) := by decide +kernel
theorem dX11_path_226 : decode cX11_path 226 = .ok (.iastore, 1) := by decide +kernel
theorem dX11_path_227 : decode cX11_path 227 = .ok (.aload_n 0, 1) := by decide +kernel
theorem dX11_path_228 : decode cX11_path 228 = .ok (.iconst 1, 1) := by decide +kernel
theorem dX11_path_229 : decode cX11_path 229 = .ok (.putfield 124, 3) := by decide +kernel
theorem dX11_path_232 : decode cX11_path 232 = .ok (.aload_n 0, 1) := by decide +kernel
theorem dX11_path_233 : decode cX11_path 233 = .ok (.getfield 10, 3) := by decide +kernel
theorem dX11_path_236 : decode cX11_path 236 = .ok (.iconst 0, 1) := by decide +kernel
theorem dX11_path_237 : decode cX11_path 237 = .ok (.putfield 91, 3) := by decide +kernel
theorem dX11_path_240 : decode cX11_path 240 = .ok (.iload_n 3, 1) := by decide +kernel
theorem dX11_path_241 : decode cX11_path 241 = .ok (.iload_n 1, 1) := by decide +kernel
theorem dX11_path_242 : decode cX11_path 242 = .ok (.if_icmp .ne 13, 3) := by decide +kernel
theorem dX11_path_245 : decode cX11_path 245 = .ok (.iload 4, 2) := by decide +kernel
theorem dX11_path_247 : decode cX11_path 247 = .ok (.iload_n 2, 1) := by decide +kernel
theorem dX11_path_248 : decode cX11_path 248 = .ok (.if_icmp .ne 7, 3) := by decide +kernel
theorem dX11_path_251 : decode cX11_path 251 = .ok (.iconst 1, 1) := by decide +kernel
theorem dX11_path_252 : decode cX11_path 252 = .ok (.goto 4, 3) := by decide +kernel
theorem dX11_path_255 : decode cX11_path 255 = .ok (.iconst 0, 1) := by decide +kernel
theorem dX11_path_256 : decode cX11_path 256 = .ok (.ireturn, 1) := by decide +kernel
theorem dX11_rests_0 : decode cX11_rests 0 = .ok (.aload_n 0, 1) := by decide +kernel
theorem dX11_rests_1 : decode cX11_rests 1 = .ok (.invokevirtual 136, 3) := by decide +kernel
theorem dX11_rests_4 : decode cX11_rests 4 = .ok (.ifCond .eq 5, 3) := by decide +kernel
theorem dX11_rests_7 : decode cX11_rests 7 = .ok (.iconst (-1), 1) := by decide +kernel
theorem dX11_rests_8 : decode cX11_rests 8 = .ok (.ireturn, 1) := by decide +kernel
theorem dX11_rests_9 : decode cX11_rests 9 = .ok (.aload_n 0, 1) := by decide +kernel
theorem dX11_rests_10 : decode cX11_rests 10 = .ok (.getfield 32, 3) := by decide +kernel
theorem dX11_rests_13 : decode cX11_rests 13 = .ok (.aload_n 0, 1) := by decide +kernel
theorem dX11_rests_14 : decode cX11_rests 14 = .ok (.getfield 28, 3) := by decide +kernel
theorem dX11_rests_17 : decode cX11_rests 17 = .ok (.invokevirtual 325, 3) := by decide +kernel
theorem dX11_rests_20 : decode cX11_rests 20 = .ok (.iconst 0, 1) := by decide +kernel
theorem dX11_rests_21 : decode cX11_rests 21 = .ok (.istore_n 1, 1) := by decide +kernel
theorem dX11_rests_22 : decode cX11_rests 22 = .ok (.iload_n 1, 1) := by decide +kernel
theorem dX11_rests_23 : decode cX11_rests 23 = .ok (.bipush 40, 2) := by decide +kernel
theorem dX11_rests_25 : decode cX11_rests 25 = .ok (.if_icmp .gt 45, 3) := by decide +kernel
theorem dX11_rests_28 : decode cX11_rests 28 = .ok (.aload_n 0, 1) := by decide +kernel
theorem dX11_rests_29 : decode cX11_rests 29 = .ok (.getfield 32, 3) := by decide +kernel
theorem dX11_rests_32 : decode cX11_rests 32 = .ok (.getfield 127, 3) := by decide +kernel
theorem dX11_rests_35 : decode cX11_rests 35 = .ok (.aload_n 0, 1) := by decide +kernel
theorem dX11_rests_36 : decode cX11_rests 36 = .ok (.getfield 35, 3) := by decide +kernel
theorem dX11_rests_39 : decode cX11_rests 39 = .ok (.invokevirtual 329, 3) := by decide +kernel
theorem dX11_rests_42 : decode cX11_rests 42 = .ok (.aload_n 0, 1) := by decide +kernel
theorem dX11_rests_43 : decode cX11_rests 43 = .ok (.getfield 35, 3) := by decide +kernel
theorem dX11_rests_46 : decode cX11_rests 46 = .ok (.iconst 2, 1) := by decide +kernel
theorem dX11_rests_47 : decode cX11_rests 47 = .ok (.iaload, 1) := by decide +kernel
theorem dX11_rests_48 : decode cX11_rests 48 = .ok (.if_icmp .gt 5, 3) := by decide +kernel
theorem dX11_rests_51 : decode cX11_rests 51 = .ok (.iload_n 1, 1) := by decide +kernel
theorem dX11_rests_52 : decode cX11_rests 52 = .ok (.ireturn, 1) := by decide +kernel
theorem dX11_rests_53 : decode cX11_rests 53 = .ok (.aload_n 0, 1) := by decide +kernel
theorem dX11_rests_54 : decode cX11_rests 54 = .ok (.getfield 32, 3) := by decide +kernel
theorem dX11_rests_57 : decode cX11_rests 57 = .ok (.aload_n 0, 1) := by decide +kernel
theorem dX11_rests_58 : decode cX11_rests 58 = .ok (.getfield 35, 3) := by decide +kernel
theorem dX11_rests_61 : decode cX11_rests 61 = .ok (.invokevirtual 264, 3) := by decide +kernel
theorem dX11_rests_64 : decode cX11_rests 64 = .ok (.iinc 1 1, 3) := by decide +kernel
theorem dX11_rests_67 : decode cX11_rests 67 = .ok (.goto (-45), 3) := by decide +kernel
theorem dX11_rests_70 : decode cX11_rests 70 = .ok (.iconst (-1), 1) := by decide +kernel
theorem dX11_rests_71 : decode cX11_rests 71 = .ok (.ireturn, 1) := by decide +kernel
theorem dX7_sumRoundAll_0 : decode cX7_sumRoundAll 0 = .ok (.aload_n 0, 1) := by decide +kernel
theorem dX7_sumRoundAll_1 : decode cX7_sumRoundAll 1 = .ok (.iconst 0, 1) := by decide +kernel
theorem dX7_sumRoundAll_2 : decode cX7_sumRoundAll 2 = .ok (.iconst 0, 1) := by decide +kernel
theorem dX7_sumRoundAll_3 : decode cX7_sumRoundAll 3 = .ok (.aload_n 0, 1) := by decide +kernel
theorem dX7_sumRoundAll_4 : decode cX7_sumRoundAll 4 = .ok (.getfield 15, 3) := by decide +kernel
theorem dX7_sumRoundAll_7 : decode cX7_sumRoundAll 7 = .ok (.iconst 1, 1) := by decide +kernel
theorem dX7_sumRoundAll_8 : decode cX7_sumRoundAll 8 = .ok (.isub, 1) := by decide +kernel
theorem dX7_sumRoundAll_9 : decode cX7_sumRoundAll 9 = .ok (.aload_n 0, 1) := by decide +kernel
theorem dX7_sumRoundAll_10 : decode cX7_sumRoundAll 10 = .ok (.getfield 19, 3) := by decide +kernel
theorem dX7_sumRoundAll_13 : decode cX7_sumRoundAll 13 = .ok (.iconst 1, 1) := by decide +kernel
theorem dX7_sumRoundAll_14 : decode cX7_sumRoundAll 14 = .ok (.isub, 1) := by decide +kernel
theorem dX7_sumRoundAll_15 : decode cX7_sumRoundAll 15 = .ok (.iload_n 1, 1) := by decide +kernel
theorem dX7_sumRoundAll_16 : decode cX7_sumRoundAll 16 = .ok (.invokevirtual 47, 3) := by decide +kernel
theorem dX7_sumRoundAll_19 : decode cX7_sumRoundAll 19 = .ok (.ireturn, 1) := by decide +kernel
theorem dX10_size_0 : decode cX10_size 0 = .ok (.iconst 0, 1) := by decide +kernel
theorem dX10_size_1 : decode cX10_size 1 = .ok (.istore_n 1, 1) := by decide +kernel
theorem dX10_size_2 : decode cX10_size 2 = .ok (.iconst 0, 1) := by decide +kernel
theorem dX10_size_3 : decode cX10_size 3 = .ok (.istore_n 2, 1) := by decide +kernel
theorem dX10_size_4 : decode cX10_size 4 = .ok (.iload_n 2, 1) := by decide +kernel
theorem dX10_size_5 : decode cX10_size 5 = .ok (.sipush 162, 3) := by decide +kernel
theorem dX10_size_8 : decode cX10_size 8 = .ok (.if_icmp .ge 22, 3) := by decide +kernel
theorem dX10_size_11 : decode cX10_size 11 = .ok (.aload_n 0, 1) := by decide +kernel
theorem dX10_size_12 : decode cX10_size 12 = .ok (.getfield 11, 3) := by decide +kernel
theorem dX10_size_15 : decode cX10_size 15 = .ok (.iload_n 2, 1) := by decide +kernel
theorem dX10_size_16 : decode cX10_size 16 = .ok (.iaload, 1) := by decide +kernel
theorem dX10_size_17 : decode cX10_size 17 = .ok (.iload_n 2, 1) := by decide +kernel
theorem dX10_size_18 : decode cX10_size 18 = .ok (.if_icmp .ne 6, 3) := by decide +kernel
theorem dX10_size_21 : decode cX10_size 21 = .ok (.iinc 1 1, 3) := by decide +kernel
theorem dX10_size_24 : decode cX10_size 24 = .ok (.iinc 2 1, 3) := by decide +kernel
theorem dX10_size_27 : decode cX10_size 27 = .ok (.goto (-23), 3) := by decide +kernel
theorem dX10_size_30 : decode cX10_size 30 = .ok (.iload_n 1, 1) := by decide +kernel
theorem dX10_size_31 : decode cX10_size 31 = .ok (.ireturn, 1) := by decide +kernel
theorem dX0_withoutWay_0 : decode cX0_withoutWay 0 = .ok (.iconst 0, 1) := by decide +kernel
theorem dX0_withoutWay_1 : decode cX0_withoutWay 1 = .ok (.istore_n 1, 1) := by decide +kernel
theorem dX0_withoutWay_2 : decode cX0_withoutWay 2 = .ok (.iconst 0, 1) := by decide +kernel
theorem dX0_withoutWay_3 : decode cX0_withoutWay 3 = .ok (.istore_n 2, 1) := by decide +kernel
theorem dX0_withoutWay_4 : decode cX0_withoutWay 4 = .ok (.iload_n 2, 1) := by decide +kernel
theorem dX0_withoutWay_5 : decode cX0_withoutWay 5 = .ok (.aload_n 0, 1) := by decide +kernel
theorem dX0_withoutWay_6 : decode cX0_withoutWay 6 = .ok (.getfield 18, 3) := by decide +kernel
theorem dX0_withoutWay_9 : decode cX0_withoutWay 9 = .ok (.if_icmp .ge 21, 3) := by decide +kernel
theorem dX0_withoutWay_12 : decode cX0_withoutWay 12 = .ok (.aload_n 0, 1) := by decide +kernel
theorem dX0_withoutWay_13 : decode cX0_withoutWay 13 = .ok (.iload_n 2, 1) := by decide +kernel
theorem dX0_withoutWay_14 : decode cX0_withoutWay 14 = .ok (.invokevirtual 48, 3) := by decide +kernel
theorem dX0_withoutWay_17 : decode cX0_withoutWay 17 = .ok (.iconst (-1), 1) := by decide +kernel
theorem dX0_withoutWay_18 : decode cX0_withoutWay 18 = .ok (.if_icmp .ne 6, 3) := by decide +kernel
theorem dX0_withoutWay_21 : decode cX0_withoutWay 21 = .ok (.iinc 1 1, 3) := by decide +kernel
theorem dX0_withoutWay_24 : decode cX0_withoutWay 24 = .ok (.iinc 2 1, 3) := by decide +kernel
theorem dX0_withoutWay_27 : decode cX0_withoutWay 27 = .ok (.goto (-23), 3) := by decide +kernel
theorem dX0_withoutWay_30 : decode cX0_withoutWay 30 = .ok (.iload_n 1, 1) := by decide +kernel
theorem dX0_withoutWay_31 : decode cX0_withoutWay 31 = .ok (.ireturn, 1) := by decide +kernel
theorem dX11_rule_0 : decode cX11_rule 0 = .ok (.aload_n 0, 1) := by decide +kernel
theorem dX11_rule_1 : decode cX11_rule 1 = .ok (.invokevirtual 136, 3) := by decide +kernel
theorem dX11_rule_4 : decode cX11_rule 4 = .ok (.ifCond .eq 6, 3) := by decide +kernel
theorem dX11_rule_7 : decode cX11_rule 7 = .ok (.ldc 140, 2) := by decide +kernel
theorem dX11_rule_9 : decode cX11_rule 9 = .ok (.ireturn, 1) := by decide +kernel
theorem dX11_rule_10 : decode cX11_rule 10 = .ok (.iload_n 1, 1) := by decide +kernel
theorem dX11_rule_11 : decode cX11_rule 11 = .ok (.tableswitch 189 0 13 #[69, 80, 91, 91, 91, 91, 100, 111, 122, 130, 130, 145, 156, 178], 69) := by decide +kernel
theorem dX11_rule_80 : decode cX11_rule 80 = .ok (.aload_n 0, 1) := by decide +kernel
theorem dX11_rule_81 : decode cX11_rule 81 = .ok (.getfield 28, 3) := by decide +kernel
theorem dX11_rule_84 : decode cX11_rule 84 = .ok (.getfield 141, 3) := by decide +kernel
theorem dX11_rule_87 : decode cX11_rule 87 = .ok (.getfield 145, 3) := by decide +kernel
theorem dX11_rule_90 : decode cX11_rule 90 = .ok (.ireturn, 1) := by decide +kernel
theorem dX11_rule_91 : decode cX11_rule 91 = .ok (.aload_n 0, 1) := by decide +kernel
theorem dX11_rule_92 : decode cX11_rule 92 = .ok (.getfield 28, 3) := by decide +kernel
theorem dX11_rule_95 : decode cX11_rule 95 = .ok (.getfield 141, 3) := by decide +kernel
theorem dX11_rule_98 : decode cX11_rule 98 = .ok (.getfield 150, 3) := by decide +kernel
theorem dX11_rule_101 : decode cX11_rule 101 = .ok (.ireturn, 1) := by decide +kernel
theorem dX11_rule_102 : decode cX11_rule 102 = .ok (.aload_n 0, 1) := by decide +kernel
theorem dX11_rule_103 : decode cX11_rule 103 = .ok (.getfield 35, 3) := by decide +kernel
theorem dX11_rule_106 : decode cX11_rule 106 = .ok (.iload_n 1, 1) := by decide +kernel
theorem dX11_rule_107 : decode cX11_rule 107 = .ok (.iconst 2, 1) := by decide +kernel
theorem dX11_rule_108 : decode cX11_rule 108 = .ok (.isub, 1) := by decide +kernel
theorem dX11_rule_109 : decode cX11_rule 109 = .ok (.iaload, 1) := by decide +kernel
theorem dX11_rule_110 : decode cX11_rule 110 = .ok (.ireturn, 1) := by decide +kernel
theorem dX11_rule_111 : decode cX11_rule 111 = .ok (.aload_n 0, 1) := by decide +kernel
theorem dX11_rule_112 : decode cX11_rule 112 = .ok (.getfield 28, 3) := by decide +kernel
theorem dX11_rule_115 : decode cX11_rule 115 = .ok (.getfield 127, 3) := by decide +kernel
theorem dX11_rule_118 : decode cX11_rule 118 = .ok (.getfield 131, 3) := by decide +kernel
theorem dX11_rule_121 : decode cX11_rule 121 = .ok (.ireturn, 1) := by decide +kernel
theorem dX11_rule_122 : decode cX11_rule 122 = .ok (.aload_n 0, 1) := by decide +kernel
theorem dX11_rule_123 : decode cX11_rule 123 = .ok (.getfield 28, 3) := by decide +kernel
theorem dX11_rule_126 : decode cX11_rule 126 = .ok (.getfield 141, 3) := by decide +kernel
theorem dX11_rule_129 : decode cX11_rule 129 = .ok (.invokevirtual 153, 3) := by decide +kernel
theorem dX11_rule_132 : decode cX11_rule 132 = .ok (.ireturn, 1) := by decide +kernel
theorem dX11_rule_133 : decode cX11_rule 133 = .ok (.aload_n 0, 1) := by decide +kernel
theorem dX11_rule_134 : decode cX11_rule 134 = .ok (.getfield 42, 3) := by decide +kernel
theorem dX11_rule_137 : decode cX11_rule 137 = .ok (.getfield 114, 3) := by decide +kernel
theorem dX11_rule_140 : decode cX11_rule 140 = .ok (.ireturn, 1) := by decide +kernel
theorem dX11_rule_141 : decode cX11_rule 141 = .ok (.aload_n 0, 1) := by decide +kernel
theorem dX11_rule_142 : decode cX11_rule 142 = .ok (.getfield 28, 3) := by decide +kernel
theorem dX11_rule_145 : decode cX11_rule 145 = .ok (.getfield 141, 3) := by decide +kernel
theorem dX11_rule_148 : decode cX11_rule 148 = .ok (.iload_n 1, 1) := by decide +kernel
theorem dX11_rule_149 : decode cX11_rule 149 = .ok (.bipush 9, 2) := by decide +kernel
theorem dX11_rule_151 : decode cX11_rule 151 = .ok (.isub, 1) := by decide +kernel
theorem dX11_rule_152 : decode cX11_rule 152 = .ok (.invokevirtual 156, 3) := by decide +kernel
theorem dX11_rule_155 : decode cX11_rule 155 = .ok (.ireturn, 1) := by decide +kernel
theorem dX11_rule_156 : decode cX11_rule 156 = .ok (.aload_n 0, 1) := by decide +kernel
theorem dX11_rule_157 : decode cX11_rule 157 = .ok (.getfield 28, 3) := by decide +kernel
theorem dX11_rule_160 : decode cX11_rule 160 = .ok (.getfield 127, 3) := by decide +kernel
theorem dX11_rule_163 : decode cX11_rule 163 = .ok (.invokevirtual 159, 3) := by decide +kernel
theorem dX11_rule_166 : decode cX11_rule 166 = .ok (.ireturn, 1) := by decide +kernel
theorem dX11_rule_167 : decode cX11_rule 167 = .ok (.aload_n 0, 1) := by decide +kernel
theorem dX11_rule_168 : decode cX11_rule 168 = .ok (.getfield 76, 3) := by decide +kernel
theorem dX11_rule_171 : decode cX11_rule 171 = .ok (.aload_n 0, 1) := by decide +kernel
theorem dX11_rule_172 : decode cX11_rule 172 = .ok (.getfield 28, 3) := by decide +kernel
theorem dX11_rule_175 : decode cX11_rule 175 = .ok (.getfield 141, 3) := by decide +kernel
theorem dX11_rule_178 : decode cX11_rule 178 = .ok (.invokevirtual 162, 3) := by decide +kernel
theorem dX11_rule_181 : decode cX11_rule 181 = .ok (.aload_n 0, 1) := by decide +kernel
theorem dX11_rule_182 : decode cX11_rule 182 = .ok (.getfield 76, 3) := by decide +kernel
theorem dX11_rule_185 : decode cX11_rule 185 = .ok (.invokevirtual 166, 3) := by decide +kernel
theorem dX11_rule_188 : decode cX11_rule 188 = .ok (.ireturn, 1) := by decide +kernel
theorem dX11_rule_189 : decode cX11_rule 189 = .ok (.aload_n 0, 1) := by decide +kernel
theorem dX11_rule_190 : decode cX11_rule 190 = .ok (.getfield 28, 3) := by decide +kernel
theorem dX11_rule_193 : decode cX11_rule 193 = .ok (.getfield 127, 3) := by decide +kernel
theorem dX11_rule_196 : decode cX11_rule 196 = .ok (.invokevirtual 168, 3) := by decide +kernel
theorem dX11_rule_199 : decode cX11_rule 199 = .ok (.ireturn, 1) := by decide +kernel
theorem dX11_rule_200 : decode cX11_rule 200 = .ok (.ldc 140, 2) := by decide +kernel
theorem dX11_rule_202 : decode cX11_rule 202 = .ok (.ireturn, 1) := by decide +kernel
theorem dX11_set_0 : decode cX11_set 0 = .ok (.aload_n 0, 1) := by decide +kernel
theorem dX11_set_1 : decode cX11_set 1 = .ok (.invokevirtual 136, 3) := by decide +kernel
theorem dX11_set_4 : decode cX11_set 4 = .ok (.ifCond .eq 12, 3) := by decide +kernel
theorem dX11_set_7 : decode cX11_set 7 = .ok (.aload_n 0, 1) := by decide +kernel
theorem dX11_set_8 : decode cX11_set 8 = .ok (.iconst 0, 1) := by decide +kernel
theorem dX11_set_9 : decode cX11_set 9 = .ok (.invokevirtual 243, 3) := by decide +kernel
theorem dX11_set_12 : decode cX11_set 12 = .ok (.pop, 1) := by decide +kernel
theorem dX11_set_13 : decode cX11_set 13 = .ok (.ldc 140, 2) := by decide +kernel
theorem dX11_set_15 : decode cX11_set 15 = .ok (.ireturn, 1) := by decide +kernel
theorem dX11_set_16 : decode cX11_set 16 = .ok (.iload_n 1, 1) := by decide +kernel
theorem dX11_set_17 : decode cX11_set 17 = .ok (.ifCond .lt 30, 3) := by decide +kernel
theorem dX11_set_20 : decode cX11_set 20 = .ok (.iload_n 1, 1) := by decide +kernel
theorem dX11_set_21 : decode cX11_set 21 = .ok (.aload_n 0, 1) := by decide +kernel
theorem dX11_set_22 : decode cX11_set 22 = .ok (.getfield 35, 3) := by decide +kernel
theorem dX11_set_25 : decode cX11_set 25 = .ok (.arraylength, 1) := by decide +kernel
theorem dX11_set_26 : decode cX11_set 26 = .ok (.if_icmp .ge 21, 3) := by decide +kernel
theorem dX11_set_29 : decode cX11_set 29 = .ok (.iload_n 2, 1) := by decide +kernel
theorem dX11_set_30 : decode cX11_set 30 = .ok (.getstatic 299, 3) := by decide +kernel
theorem dX11_set_33 : decode cX11_set 33 = .ok (.iload_n 1, 1) := by decide +kernel
theorem dX11_set_34 : decode cX11_set 34 = .ok (.iaload, 1) := by decide +kernel
theorem dX11_set_35 : decode cX11_set 35 = .ok (.if_icmp .lt 12, 3) := by decide +kernel
theorem dX11_set_38 : decode cX11_set 38 = .ok (.iload_n 2, 1) := by decide +kernel
theorem dX11_set_39 : decode cX11_set 39 = .ok (.getstatic 302, 3) := by decide +kernel
theorem dX11_set_42 : decode cX11_set 42 = .ok (.iload_n 1, 1) := by decide +kernel
theorem dX11_set_43 : decode cX11_set 43 = .ok (.iaload, 1) := by decide +kernel
theorem dX11_set_44 : decode cX11_set 44 = .ok (.if_icmp .le 12, 3) := by decide +kernel
theorem dX11_set_47 : decode cX11_set 47 = .ok (.aload_n 0, 1) := by decide +kernel
theorem dX11_set_48 : decode cX11_set 48 = .ok (.iconst 2, 1) := by decide +kernel
theorem dX11_set_49 : decode cX11_set 49 = .ok (.invokevirtual 243, 3) := by decide +kernel
theorem dX11_set_52 : decode cX11_set 52 = .ok (.pop, 1) := by decide +kernel
theorem dX11_set_53 : decode cX11_set 53 = .ok (.ldc 140, 2) := by decide +kernel
theorem dX11_set_55 : decode cX11_set 55 = .ok (.ireturn, 1) := by decide +kernel
theorem dX11_set_56 : decode cX11_set 56 = .ok (.aload_n 0, 1) := by decide +kernel
theorem dX11_set_57 : decode cX11_set 57 = .ok (.getfield 35, 3) := by decide +kernel
theorem dX11_set_60 : decode cX11_set 60 = .ok (.iload_n 1, 1) := by decide +kernel
theorem dX11_set_61 : decode cX11_set 61 = .ok (.iaload, 1) := by decide +kernel
theorem dX11_set_62 : decode cX11_set 62 = .ok (.istore_n 3, 1) := by decide +kernel
theorem dX11_set_63 : decode cX11_set 63 = .ok (.aload_n 0, 1) := by decide +kernel
theorem dX11_set_64 : decode cX11_set 64 = .ok (.getfield 35, 3) := by decide +kernel
theorem dX11_set_67 : decode cX11_set 67 = .ok (.iload_n 1, 1) := by decide +kernel
theorem dX11_set_68 : decode cX11_set 68 = .ok (.iload_n 2, 1) := by decide +kernel
theorem dX11_set_69 : decode cX11_set 69 = .ok (.iastore, 1) := by decide +kernel
theorem dX11_set_70 : decode cX11_set 70 = .ok (.iload_n 3, 1) := by decide +kernel
theorem dX11_set_71 : decode cX11_set 71 = .ok (.ireturn, 1) := by decide +kernel
theorem dX7_shiftSite_0 : decode cX7_shiftSite 0 = .ok (.aload_n 0, 1) := by decide +kernel
theorem dX7_shiftSite_1 : decode cX7_shiftSite 1 = .ok (.iload_n 1, 1) := by decide +kernel
theorem dX7_shiftSite_2 : decode cX7_shiftSite 2 = .ok (.iconst 1, 1) := by decide +kernel
theorem dX7_shiftSite_3 : decode cX7_shiftSite 3 = .ok (.isub, 1) := by decide +kernel
theorem dX7_shiftSite_4 : decode cX7_shiftSite 4 = .ok (.iload_n 2, 1) := by decide +kernel
theorem dX7_shiftSite_5 : decode cX7_shiftSite 5 = .ok (.iconst 0, 1) := by decide +kernel
theorem dX7_shiftSite_6 : decode cX7_shiftSite 6 = .ok (.iload_n 3, 1) := by decide +kernel
theorem dX7_shiftSite_7 : decode cX7_shiftSite 7 = .ok (.iload 4, 2) := by decide +kernel
theorem dX7_shiftSite_9 : decode cX7_shiftSite 9 = .ok (.invokevirtual 58, 3) := by decide +kernel
theorem dX7_shiftSite_12 : decode cX7_shiftSite 12 = .ok (.aload_n 0, 1) := by decide +kernel
theorem dX7_shiftSite_13 : decode cX7_shiftSite 13 = .ok (.iload_n 1, 1) := by decide +kernel
theorem dX7_shiftSite_14 : decode cX7_shiftSite 14 = .ok (.iload_n 2, 1) := by decide +kernel
theorem dX7_shiftSite_15 : decode cX7_shiftSite 15 = .ok (.iconst 1, 1) := by decide +kernel
theorem dX7_shiftSite_16 : decode cX7_shiftSite 16 = .ok (.isub, 1) := by decide +kernel
theorem dX7_shiftSite_17 : decode cX7_shiftSite 17 = .ok (.iconst 1, 1) := by decide +kernel
theorem dX7_shiftSite_18 : decode cX7_shiftSite 18 = .ok (.iload_n 3, 1) := by decide +kernel
theorem dX7_shiftSite_19 : decode cX7_shiftSite 19 = .ok (.iload 4, 2) := by decide +kernel
theorem dX7_shiftSite_21 : decode cX7_shiftSite 21 = .ok (.invokevirtual 58, 3) := by decide +kernel
theorem dX7_shiftSite_24 : decode cX7_shiftSite 24 = .ok (.aload_n 0, 1) := by decide +kernel
theorem dX7_shiftSite_25 : decode cX7_shiftSite 25 = .ok (.iload_n 1, 1) := by decide +kernel
theorem dX7_shiftSite_26 : decode cX7_shiftSite 26 = .ok (.iload_n 2, 1) := by decide +kernel
theorem dX7_shiftSite_27 : decode cX7_shiftSite 27 = .ok (.iconst 0, 1) := by decide +kernel
theorem dX7_shiftSite_28 : decode cX7_shiftSite 28 = .ok (.iload_n 3, 1) := by decide +kernel
theorem dX7_shiftSite_29 : decode cX7_shiftSite 29 = .ok (.ineg, 1) := by decide +kernel
theorem dX7_shiftSite_30 : decode cX7_shiftSite 30 = .ok (.iload 4, 2) := by decide +kernel
theorem dX7_shiftSite_32 : decode cX7_shiftSite 32 = .ok (.ineg, 1) := by decide +kernel
theorem dX7_shiftSite_33 : decode cX7_shiftSite 33 = .ok (.invokevirtual 58, 3) := by decide +kernel
theorem dX7_shiftSite_36 : decode cX7_shiftSite 36 = .ok (.aload_n 0, 1) := by decide +kernel
theorem dX7_shiftSite_37 : decode cX7_shiftSite 37 = .ok (.iload_n 1, 1) := by decide +kernel
theorem dX7_shiftSite_38 : decode cX7_shiftSite 38 = .ok (.iload_n 2, 1) := by decide +kernel
theorem dX7_shiftSite_39 : decode cX7_shiftSite 39 = .ok (.iconst 1, 1) := by decide +kernel
theorem dX7_shiftSite_40 : decode cX7_shiftSite 40 = .ok (.iload_n 3, 1) := by decide +kernel
theorem dX7_shiftSite_41 : decode cX7_shiftSite 41 = .ok (.ineg, 1) := by decide +kernel
theorem dX7_shiftSite_42 : decode cX7_shiftSite 42 = .ok (.iload 4, 2) := by decide +kernel
theorem dX7_shiftSite_44 : decode cX7_shiftSite 44 = .ok (.ineg, 1) := by decide +kernel
theorem dX7_shiftSite_45 : decode cX7_shiftSite 45 = .ok (.invokevirtual 58, 3) := by decide +kernel
theorem dX7_shiftSite_48 : decode cX7_shiftSite 48 = .ok (.return_, 1) := by decide +kernel
theorem dX11_status_0 : decode cX11_status 0 = .ok (.iload_n 1, 1) := by decide +kernel
theorem dX11_status_1 : decode cX11_status 1 = .ok (.ifCond .lt 21, 3) := by decide +kernel
theorem dX11_status_4 : decode cX11_status 4 = .ok (.iload_n 1, 1) := by decide +kernel
theorem dX11_status_5 : decode cX11_status 5 = .ok (.aload_n 0, 1) := by decide +kernel
theorem dX11_status_6 : decode cX11_status 6 = .ok (.getfield 63, 3) := by decide +kernel
theorem dX11_status_9 : decode cX11_status 9 = .ok (.arraylength, 1) := by decide +kernel
theorem dX11_status_10 : decode cX11_status 10 = .ok (.if_icmp .ge 12, 3) := by decide +kernel
theorem dX11_status_13 : decode cX11_status 13 = .ok (.aload_n 0, 1) := by decide +kernel
theorem dX11_status_14 : decode cX11_status 14 = .ok (.getfield 63, 3) := by decide +kernel
theorem dX11_status_17 : decode cX11_status 17 = .ok (.iload_n 1, 1) := by decide +kernel
theorem dX11_status_18 : decode cX11_status 18 = .ok (.iaload, 1) := by decide +kernel
theorem dX11_status_19 : decode cX11_status 19 = .ok (.goto 4, 3) := by decide +kernel
theorem dX11_status_22 : decode cX11_status 22 = .ok (.iconst (-1), 1) := by decide +kernel
theorem dX11_status_23 : decode cX11_status 23 = .ok (.ireturn, 1) := by decide +kernel
theorem dX11_stills_0 : decode cX11_stills 0 = .ok (.aload_n 0, 1) := by decide +kernel
theorem dX11_stills_1 : decode cX11_stills 1 = .ok (.invokevirtual 136, 3) := by decide +kernel
theorem dX11_stills_4 : decode cX11_stills 4 = .ok (.ifCond .eq 5, 3) := by decide +kernel
theorem dX11_stills_7 : decode cX11_stills 7 = .ok (.iconst (-1), 1) := by decide +kernel
theorem dX11_stills_8 : decode cX11_stills 8 = .ok (.ireturn, 1) := by decide +kernel
theorem dX11_stills_9 : decode cX11_stills 9 = .ok (.aload_n 0, 1) := by decide +kernel
theorem dX11_stills_10 : decode cX11_stills 10 = .ok (.getfield 28, 3) := by decide +kernel
theorem dX11_stills_13 : decode cX11_stills 13 = .ok (.getfield 127, 3) := by decide +kernel
theorem dX11_stills_16 : decode cX11_stills 16 = .ok (.aload_n 0, 1) := by decide +kernel
theorem dX11_stills_17 : decode cX11_stills 17 = .ok (.getfield 35, 3) := by decide +kernel
theorem dX11_stills_20 : decode cX11_stills 20 = .ok (.invokevirtual 329, 3) := by decide +kernel
theorem dX11_stills_23 : decode cX11_stills 23 = .ok (.istore_n 1, 1) := by decide +kernel
theorem dX11_stills_24 : decode cX11_stills 24 = .ok (.iload_n 1, 1) := by decide +kernel
theorem dX11_stills_25 : decode cX11_stills 25 = .ok (.bipush 99, 2) := by decide +kernel
theorem dX11_stills_27 : decode cX11_stills 27 = .ok (.if_icmp .le 7, 3) := by decide +kernel
theorem dX11_stills_30 : decode cX11_stills 30 = .ok (.iconst (-1), 1) := by decide +kernel
theorem dX11_stills_31 : decode cX11_stills 31 = .ok (.goto 4, 3) := by decide +kernel
theorem dX11_stills_34 : decode cX11_stills 34 = .ok (.iload_n 1, 1) := by decide +kernel
theorem dX11_stills_35 : decode cX11_stills 35 = .ok (.ireturn, 1) := by decide +kernel
theorem dX7_lay_0 : decode cX7_lay 0 = .ok (.aload_n 0, 1) := by decide +kernel
theorem dX7_lay_1 : decode cX7_lay 1 = .ok (.iload_n 1, 1) := by decide +kernel
theorem dX7_lay_2 : decode cX7_lay 2 = .ok (.putfield 15, 3) := by decide +kernel
theorem dX7_lay_5 : decode cX7_lay 5 = .ok (.aload_n 0, 1) := by decide +kernel
theorem dX7_lay_6 : decode cX7_lay 6 = .ok (.iload_n 2, 1) := by decide +kernel
theorem dX7_lay_7 : decode cX7_lay 7 = .ok (.putfield 19, 3) := by decide +kernel
theorem dX7_lay_10 : decode cX7_lay 10 = .ok (.iconst 0, 1) := by decide +kernel
theorem dX7_lay_11 : decode cX7_lay 11 = .ok (.istore_n 3, 1) := by decide +kernel
theorem dX7_lay_12 : decode cX7_lay 12 = .ok (.iload_n 3, 1) := by decide +kernel
theorem dX7_lay_13 : decode cX7_lay 13 = .ok (.iconst 3, 1) := by decide +kernel
theorem dX7_lay_14 : decode cX7_lay 14 = .ok (.iadd, 1) := by decide +kernel
theorem dX7_lay_15 : decode cX7_lay 15 = .ok (.aload_n 0, 1) := by decide +kernel
theorem dX7_lay_16 : decode cX7_lay 16 = .ok (.getfield 11, 3) := by decide +kernel
theorem dX7_lay_19 : decode cX7_lay 19 = .ok (.arraylength, 1) := by decide +kernel
theorem dX7_lay_20 : decode cX7_lay 20 = .ok (.if_icmp .ge 43, 3) := by decide +kernel
theorem dX7_lay_23 : decode cX7_lay 23 = .ok (.aload_n 0, 1) := by decide +kernel
theorem dX7_lay_24 : decode cX7_lay 24 = .ok (.getfield 11, 3) := by decide +kernel
theorem dX7_lay_27 : decode cX7_lay 27 = .ok (.iload_n 3, 1) := by decide +kernel
theorem dX7_lay_28 : decode cX7_lay 28 = .ok (.iconst 1, 1) := by decide +kernel
theorem dX7_lay_29 : decode cX7_lay 29 = .ok (.iastore, 1) := by decide +kernel
theorem dX7_lay_30 : decode cX7_lay 30 = .ok (.aload_n 0, 1) := by decide +kernel
theorem dX7_lay_31 : decode cX7_lay 31 = .ok (.getfield 11, 3) := by decide +kernel
theorem dX7_lay_34 : decode cX7_lay 34 = .ok (.iload_n 3, 1) := by decide +kernel
theorem dX7_lay_35 : decode cX7_lay 35 = .ok (.iconst 1, 1) := by decide +kernel
theorem dX7_lay_36 : decode cX7_lay 36 = .ok (.iadd, 1) := by decide +kernel
theorem dX7_lay_37 : decode cX7_lay 37 = .ok (.iconst 0, 1) := by decide +kernel
theorem dX7_lay_38 : decode cX7_lay 38 = .ok (.iastore, 1) := by decide +kernel
theorem dX7_lay_39 : decode cX7_lay 39 = .ok (.aload_n 0, 1) := by decide +kernel
theorem dX7_lay_40 : decode cX7_lay 40 = .ok (.getfield 11, 3) := by decide +kernel
theorem dX7_lay_43 : decode cX7_lay 43 = .ok (.iload_n 3, 1) := by decide +kernel
theorem dX7_lay_44 : decode cX7_lay 44 = .ok (.iconst 2, 1) := by decide +kernel
theorem dX7_lay_45 : decode cX7_lay 45 = .ok (.iadd, 1) := by decide +kernel
theorem dX7_lay_46 : decode cX7_lay 46 = .ok (.iconst 0, 1) := by decide +kernel
theorem dX7_lay_47 : decode cX7_lay 47 = .ok (.iastore, 1) := by decide +kernel
theorem dX7_lay_48 : decode cX7_lay 48 = .ok (.aload_n 0, 1) := by decide +kernel
theorem dX7_lay_49 : decode cX7_lay 49 = .ok (.getfield 11, 3) := by decide +kernel
theorem dX7_lay_52 : decode cX7_lay 52 = .ok (.iload_n 3, 1) := by decide +kernel
theorem dX7_lay_53 : decode cX7_lay 53 = .ok (.iconst 3, 1) := by decide +kernel
theorem dX7_lay_54 : decode cX7_lay 54 = .ok (.iadd, 1) := by decide +kernel
theorem dX7_lay_55 : decode cX7_lay 55 = .ok (.iconst 1, 1) := by decide +kernel
theorem dX7_lay_56 : decode cX7_lay 56 = .ok (.iastore, 1) := by decide +kernel
theorem dX7_lay_57 : decode cX7_lay 57 = .ok (.iinc 3 4, 3) := by decide +kernel
theorem dX7_lay_60 : decode cX7_lay 60 = .ok (.goto (-48), 3) := by decide +kernel
theorem dX7_lay_63 : decode cX7_lay 63 = .ok (.return_, 1) := by decide +kernel
theorem dX1_build_0 : decode cX1_build 0 = .ok (.aload_n 0, 1) := by decide +kernel
theorem dX1_build_1 : decode cX1_build 1 = .ok (.getfield 12, 3) := by decide +kernel
theorem dX1_build_4 : decode cX1_build 4 = .ok (.aload_n 1, 1) := by decide +kernel
theorem dX1_build_5 : decode cX1_build 5 = .ok (.getfield 29, 3) := by decide +kernel
theorem dX1_build_8 : decode cX1_build 8 = .ok (.aload_n 1, 1) := by decide +kernel
theorem dX1_build_9 : decode cX1_build 9 = .ok (.getfield 35, 3) := by decide +kernel
theorem dX1_build_12 : decode cX1_build 12 = .ok (.invokevirtual 38, 3) := by decide +kernel
theorem dX1_build_15 : decode cX1_build 15 = .ok (.iconst 0, 1) := by decide +kernel
theorem dX1_build_16 : decode cX1_build 16 = .ok (.istore_n 2, 1) := by decide +kernel
theorem dX1_build_17 : decode cX1_build 17 = .ok (.iload_n 2, 1) := by decide +kernel
theorem dX1_build_18 : decode cX1_build 18 = .ok (.aload_n 1, 1) := by decide +kernel
theorem dX1_build_19 : decode cX1_build 19 = .ok (.getfield 42, 3) := by decide +kernel
theorem dX1_build_22 : decode cX1_build 22 = .ok (.if_icmp .ge 81, 3) := by decide +kernel
theorem dX1_build_25 : decode cX1_build 25 = .ok (.iconst 2, 1) := by decide +kernel
theorem dX1_build_26 : decode cX1_build 26 = .ok (.iload_n 2, 1) := by decide +kernel
theorem dX1_build_27 : decode cX1_build 27 = .ok (.imul, 1) := by decide +kernel
theorem dX1_build_28 : decode cX1_build 28 = .ok (.iconst 1, 1) := by decide +kernel
theorem dX1_build_29 : decode cX1_build 29 = .ok (.iadd, 1) := by decide +kernel
theorem dX1_build_30 : decode cX1_build 30 = .ok (.aload_n 1, 1) := by decide +kernel
theorem dX1_build_31 : decode cX1_build 31 = .ok (.getfield 44, 3) := by decide +kernel
theorem dX1_build_34 : decode cX1_build 34 = .ok (.arraylength, 1) := by decide +kernel
theorem dX1_build_35 : decode cX1_build 35 = .ok (.if_icmp .ge 68, 3) := by decide +kernel
theorem dX1_build_38 : decode cX1_build 38 = .ok (.iconst 0, 1) := by decide +kernel
theorem dX1_build_39 : decode cX1_build 39 = .ok (.istore_n 3, 1) := by decide +kernel
theorem dX1_build_40 : decode cX1_build 40 = .ok (.iload_n 3, 1) := by decide +kernel
theorem dX1_build_41 : decode cX1_build 41 = .ok (.aload_n 1, 1) := by decide +kernel
theorem dX1_build_42 : decode cX1_build 42 = .ok (.getfield 44, 3) := by decide +kernel
theorem dX1_build_45 : decode cX1_build 45 = .ok (.iconst 2, 1) := by decide +kernel
theorem dX1_build_46 : decode cX1_build 46 = .ok (.iload_n 2, 1) := by decide +kernel
theorem dX1_build_47 : decode cX1_build 47 = .ok (.imul, 1) := by decide +kernel
theorem dX1_build_48 : decode cX1_build 48 = .ok (.iaload, 1) := by decide +kernel
theorem dX1_build_49 : decode cX1_build 49 = .ok (.if_icmp .gt 48, 3) := by decide +kernel
theorem dX1_build_52 : decode cX1_build 52 = .ok (.aload_n 0, 1) := by decide +kernel
theorem dX1_build_53 : decode cX1_build 53 = .ok (.getfield 12, 3) := by decide +kernel
theorem dX1_build_56 : decode cX1_build 56 = .ok (.iload_n 3, 1) := by decide +kernel
theorem dX1_build_57 : decode cX1_build 57 = .ok (.aload_n 1, 1) := by decide +kernel
theorem dX1_build_58 : decode cX1_build 58 = .ok (.getfield 44, 3) := by decide +kernel
theorem dX1_build_61 : decode cX1_build 61 = .ok (.iconst 2, 1) := by decide +kernel
theorem dX1_build_62 : decode cX1_build 62 = .ok (.iload_n 2, 1) := by decide +kernel
theorem dX1_build_63 : decode cX1_build 63 = .ok (.imul, 1) := by decide +kernel
theorem dX1_build_64 : decode cX1_build 64 = .ok (.iconst 1, 1) := by decide +kernel
theorem dX1_build_65 : decode cX1_build 65 = .ok (.iadd, 1) := by decide +kernel
theorem dX1_build_66 : decode cX1_build 66 = .ok (.iaload, 1) := by decide +kernel
theorem dX1_build_67 : decode cX1_build 67 = .ok (.iconst 1, 1) := by decide +kernel
theorem dX1_build_68 : decode cX1_build 68 = .ok (.aload_n 1, 1) := by decide +kernel
theorem dX1_build_69 : decode cX1_build 69 = .ok (.getfield 47, 3) := by decide +kernel
theorem dX1_build_72 : decode cX1_build 72 = .ok (.iconst 2, 1) := by decide +kernel
theorem dX1_build_73 : decode cX1_build 73 = .ok (.iload_n 2, 1) := by decide +kernel
theorem dX1_build_74 : decode cX1_build 74 = .ok (.imul, 1) := by decide +kernel
theorem dX1_build_75 : decode cX1_build 75 = .ok (.iaload, 1) := by decide +kernel
theorem dX1_build_76 : decode cX1_build 76 = .ok (.ineg, 1) := by decide +kernel
theorem dX1_build_77 : decode cX1_build 77 = .ok (.aload_n 1, 1) := by decide +kernel
theorem dX1_build_78 : decode cX1_build 78 = .ok (.getfield 47, 3) := by decide +kernel
theorem dX1_build_81 : decode cX1_build 81 = .ok (.iconst 2, 1) := by decide +kernel
theorem dX1_build_82 : decode cX1_build 82 = .ok (.iload_n 2, 1) := by decide +kernel
theorem dX1_build_83 : decode cX1_build 83 = .ok (.imul, 1) := by decide +kernel
theorem dX1_build_84 : decode cX1_build 84 = .ok (.iconst 1, 1) := by decide +kernel
theorem dX1_build_85 : decode cX1_build 85 = .ok (.iadd, 1) := by decide +kernel
theorem dX1_build_86 : decode cX1_build 86 = .ok (.iaload, 1) := by decide +kernel
theorem dX1_build_87 : decode cX1_build 87 = .ok (.ineg, 1) := by decide +kernel
theorem dX1_build_88 : decode cX1_build 88 = .ok (.invokevirtual 50, 3) := by decide +kernel
theorem dX1_build_91 : decode cX1_build 91 = .ok (.iinc 3 1, 3) := by decide +kernel
theorem dX1_build_94 : decode cX1_build 94 = .ok (.goto (-54), 3) := by decide +kernel
theorem dX1_build_97 : decode cX1_build 97 = .ok (.iinc 2 1, 3) := by decide +kernel
theorem dX1_build_100 : decode cX1_build 100 = .ok (.goto (-83), 3) := by decide +kernel
theorem dX1_build_103 : decode cX1_build 103 = .ok (.aload_n 0, 1) := by decide +kernel
theorem dX1_build_104 : decode cX1_build 104 = .ok (.getfield 21, 3) := by decide +kernel
theorem dX1_build_107 : decode cX1_build 107 = .ok (.aload_n 0, 1) := by decide +kernel
theorem dX1_build_108 : decode cX1_build 108 = .ok (.getfield 12, 3) := by decide +kernel
theorem dX1_build_111 : decode cX1_build 111 = .ok (.invokevirtual 54, 3) := by decide +kernel
theorem dX1_build_114 : decode cX1_build 114 = .ok (.return_, 1) := by decide +kernel
theorem dX11_text_0 : decode cX11_text 0 = .ok (.aload_n 0, 1) := by decide +kernel
theorem dX11_text_1 : decode cX11_text 1 = .ok (.getfield 21, 3) := by decide +kernel
theorem dX11_text_4 : decode cX11_text 4 = .ok (.invokevirtual 99, 3) := by decide +kernel
theorem dX11_text_7 : decode cX11_text 7 = .ok (.iconst (-1), 1) := by decide +kernel
theorem dX11_text_8 : decode cX11_text 8 = .ok (.if_icmp .eq 5, 3) := by decide +kernel
theorem dX11_text_11 : decode cX11_text 11 = .ok (.iconst (-1), 1) := by decide +kernel
theorem dX11_text_12 : decode cX11_text 12 = .ok (.ireturn, 1) := by decide +kernel
theorem dX11_text_13 : decode cX11_text 13 = .ok (.aload_n 0, 1) := by decide +kernel
theorem dX11_text_14 : decode cX11_text 14 = .ok (.getfield 10, 3) := by decide +kernel
theorem dX11_text_17 : decode cX11_text 17 = .ok (.iconst 0, 1) := by decide +kernel
theorem dX11_text_18 : decode cX11_text 18 = .ok (.putfield 91, 3) := by decide +kernel
theorem dX11_text_21 : decode cX11_text 21 = .ok (.aload_n 0, 1) := by decide +kernel
theorem dX11_text_22 : decode cX11_text 22 = .ok (.getfield 28, 3) := by decide +kernel
theorem dX11_text_25 : decode cX11_text 25 = .ok (.aload_n 0, 1) := by decide +kernel
theorem dX11_text_26 : decode cX11_text 26 = .ok (.getfield 21, 3) := by decide +kernel
theorem dX11_text_29 : decode cX11_text 29 = .ok (.invokevirtual 103, 3) := by decide +kernel
theorem dX11_text_32 : decode cX11_text 32 = .ok (.aload_n 0, 1) := by decide +kernel
theorem dX11_text_33 : decode cX11_text 33 = .ok (.getfield 21, 3) := by decide +kernel
theorem dX11_text_36 : decode cX11_text 36 = .ok (.getfield 107, 3) := by decide +kernel
theorem dX11_text_39 : decode cX11_text 39 = .ok (.iconst 0, 1) := by decide +kernel
theorem dX11_text_40 : decode cX11_text 40 = .ok (.aload_n 0, 1) := by decide +kernel
theorem dX11_text_41 : decode cX11_text 41 = .ok (.getfield 35, 3) := by decide +kernel
theorem dX11_text_44 : decode cX11_text 44 = .ok (.iconst 0, 1) := by decide +kernel
theorem dX11_text_45 : decode cX11_text 45 = .ok (.aload_n 0, 1) := by decide +kernel
theorem dX11_text_46 : decode cX11_text 46 = .ok (.getfield 35, 3) := by decide +kernel
theorem dX11_text_49 : decode cX11_text 49 = .ok (.arraylength, 1) := by decide +kernel
theorem dX11_text_50 : decode cX11_text 50 = .ok (.invokestatic 108, 3) := by decide +kernel
theorem dX11_text_53 : decode cX11_text 53 = .ok (.aload_n 0, 1) := by decide +kernel
theorem dX11_text_54 : decode cX11_text 54 = .ok (.getfield 42, 3) := by decide +kernel
theorem dX11_text_57 : decode cX11_text 57 = .ok (.iconst 0, 1) := by decide +kernel
theorem dX11_text_58 : decode cX11_text 58 = .ok (.putfield 114, 3) := by decide +kernel
theorem dX11_text_61 : decode cX11_text 61 = .ok (.aload_n 0, 1) := by decide +kernel
theorem dX11_text_62 : decode cX11_text 62 = .ok (.getfield 49, 3) := by decide +kernel
theorem dX11_text_65 : decode cX11_text 65 = .ok (.invokevirtual 117, 3) := by decide +kernel
theorem dX11_text_68 : decode cX11_text 68 = .ok (.aload_n 0, 1) := by decide +kernel
theorem dX11_text_69 : decode cX11_text 69 = .ok (.iconst 0, 1) := by decide +kernel
theorem dX11_text_70 : decode cX11_text 70 = .ok (.putfield 120, 3) := by decide +kernel
theorem dX11_text_73 : decode cX11_text 73 = .ok (.aload_n 0, 1) := by decide +kernel
theorem dX11_text_74 : decode cX11_text 74 = .ok (.iconst 0, 1) := by decide +kernel
theorem dX11_text_75 : decode cX11_text 75 = .ok (.putfield 124, 3) := by decide +kernel
theorem dX11_text_78 : decode cX11_text 78 = .ok (.aload_n 0, 1) := by decide +kernel
theorem dX11_text_79 : decode cX11_text 79 = .ok (.getfield 28, 3) := by decide +kernel
theorem dX11_text_82 : decode cX11_text 82 = .ok (.getfield 127, 3) := by decide +kernel
theorem dX11_text_85 : decode cX11_text 85 = .ok (.getfield 131, 3) := by decide +kernel
theorem dX11_text_88 : decode cX11_text 88 = .ok (.ireturn, 1) := by decide +kernel
theorem dX10_firstLinkOf_0 : decode cX10_firstLinkOf 0 = .ok (.iload_n 1, 1) := by decide +kernel
theorem dX10_firstLinkOf_1 : decode cX10_firstLinkOf 1 = .ok (.istore_n 2, 1) := by decide +kernel
theorem dX10_firstLinkOf_2 : decode cX10_firstLinkOf 2 = .ok (.iconst 0, 1) := by decide +kernel
theorem dX10_firstLinkOf_3 : decode cX10_firstLinkOf 3 = .ok (.istore_n 3, 1) := by decide +kernel
theorem dX10_firstLinkOf_4 : decode cX10_firstLinkOf 4 = .ok (.iload_n 3, 1) := by decide +kernel
theorem dX10_firstLinkOf_5 : decode cX10_firstLinkOf 5 = .ok (.sipush 162, 3) := by decide +kernel
theorem dX10_firstLinkOf_8 : decode cX10_firstLinkOf 8 = .ok (.if_icmp .ge 32, 3) := by decide +kernel
theorem dX10_firstLinkOf_11 : decode cX10_firstLinkOf 11 = .ok (.iload_n 2, 1) := by decide +kernel
theorem dX10_firstLinkOf_12 : decode cX10_firstLinkOf 12 = .ok (.ifCond .lt 28, 3) := by decide +kernel
theorem dX10_firstLinkOf_15 : decode cX10_firstLinkOf 15 = .ok (.aload_n 0, 1) := by decide +kernel
theorem dX10_firstLinkOf_16 : decode cX10_firstLinkOf 16 = .ok (.getfield 11, 3) := by decide +kernel
theorem dX10_firstLinkOf_19 : decode cX10_firstLinkOf 19 = .ok (.iload_n 3, 1) := by decide +kernel
theorem dX10_firstLinkOf_20 : decode cX10_firstLinkOf 20 = .ok (.iaload, 1) := by decide +kernel
theorem dX10_firstLinkOf_21 : decode cX10_firstLinkOf 21 = .ok (.iload_n 3, 1) := by decide +kernel
theorem dX10_firstLinkOf_22 : decode cX10_firstLinkOf 22 = .ok (.if_icmp .ne 12, 3) := by decide +kernel
theorem dX10_firstLinkOf_25 : decode cX10_firstLinkOf 25 = .ok (.iload_n 2, 1) := by decide +kernel
theorem dX10_firstLinkOf_26 : decode cX10_firstLinkOf 26 = .ok (.ifCond .ne 5, 3) := by decide +kernel
theorem dX10_firstLinkOf_29 : decode cX10_firstLinkOf 29 = .ok (.iload_n 3, 1) := by decide +kernel
theorem dX10_firstLinkOf_30 : decode cX10_firstLinkOf 30 = .ok (.ireturn, 1) := by decide +kernel
theorem dX10_firstLinkOf_31 : decode cX10_firstLinkOf 31 = .ok (.iinc 2 (-1), 3) := by decide +kernel
theorem dX10_firstLinkOf_34 : decode cX10_firstLinkOf 34 = .ok (.iinc 3 1, 3) := by decide +kernel
theorem dX10_firstLinkOf_37 : decode cX10_firstLinkOf 37 = .ok (.goto (-33), 3) := by decide +kernel
theorem dX10_firstLinkOf_40 : decode cX10_firstLinkOf 40 = .ok (.iconst (-1), 1) := by decide +kernel
theorem dX10_firstLinkOf_41 : decode cX10_firstLinkOf 41 = .ok (.ireturn, 1) := by decide +kernel
theorem dX10_isBeside_0 : decode cX10_isBeside 0 = .ok (.iconst 0, 1) := by decide +kernel
theorem dX10_isBeside_1 : decode cX10_isBeside 1 = .ok (.istore 4, 2) := by decide +kernel
theorem dX10_isBeside_3 : decode cX10_isBeside 3 = .ok (.iload 4, 2) := by decide +kernel
theorem dX10_isBeside_5 : decode cX10_isBeside 5 = .ok (.iconst 4, 1) := by decide +kernel
theorem dX10_isBeside_6 : decode cX10_isBeside 6 = .ok (.if_icmp .ge 26, 3) := by decide +kernel
theorem dX10_isBeside_9 : decode cX10_isBeside 9 = .ok (.aload_n 0, 1) := by decide +kernel
theorem dX10_isBeside_10 : decode cX10_isBeside 10 = .ok (.iload_n 2, 1) := by decide +kernel
theorem dX10_isBeside_11 : decode cX10_isBeside 11 = .ok (.iload_n 3, 1) := by decide +kernel
theorem dX10_isBeside_12 : decode cX10_isBeside 12 = .ok (.iload 4, 2) := by decide +kernel
theorem dX10_isBeside_14 : decode cX10_isBeside 14 = .ok (.invokestatic 36, 3) := by decide +kernel
theorem dX10_isBeside_17 : decode cX10_isBeside 17 = .ok (.invokevirtual 39, 3) := by decide +kernel
theorem dX10_isBeside_20 : decode cX10_isBeside 20 = .ok (.iload_n 1, 1) := by decide +kernel
theorem dX10_isBeside_21 : decode cX10_isBeside 21 = .ok (.if_icmp .ne 5, 3) := by decide +kernel
theorem dX10_isBeside_24 : decode cX10_isBeside 24 = .ok (.iconst 1, 1) := by decide +kernel
theorem dX10_isBeside_25 : decode cX10_isBeside 25 = .ok (.ireturn, 1) := by decide +kernel
theorem dX10_isBeside_26 : decode cX10_isBeside 26 = .ok (.iinc 4 1, 3) := by decide +kernel
theorem dX10_isBeside_29 : decode cX10_isBeside 29 = .ok (.goto (-26), 3) := by decide +kernel
theorem dX10_isBeside_32 : decode cX10_isBeside 32 = .ok (.iconst 0, 1) := by decide +kernel
theorem dX10_isBeside_33 : decode cX10_isBeside 33 = .ok (.ireturn, 1) := by decide +kernel
theorem dX10_coresBeside_0 : decode cX10_coresBeside 0 = .ok (.iconst 0, 1) := by decide +kernel
theorem dX10_coresBeside_1 : decode cX10_coresBeside 1 = .ok (.istore_n 3, 1) := by decide +kernel
theorem dX10_coresBeside_2 : decode cX10_coresBeside 2 = .ok (.iconst 0, 1) := by decide +kernel
theorem dX10_coresBeside_3 : decode cX10_coresBeside 3 = .ok (.istore 4, 2) := by decide +kernel
theorem dX10_coresBeside_5 : decode cX10_coresBeside 5 = .ok (.iload 4, 2) := by decide +kernel
theorem dX10_coresBeside_7 : decode cX10_coresBeside 7 = .ok (.aload_n 2, 1) := by decide +kernel
theorem dX10_coresBeside_8 : decode cX10_coresBeside 8 = .ok (.getfield 55, 3) := by decide +kernel
theorem dX10_coresBeside_11 : decode cX10_coresBeside 11 = .ok (.if_icmp .ge 34, 3) := by decide +kernel
theorem dX10_coresBeside_14 : decode cX10_coresBeside 14 = .ok (.aload_n 0, 1) := by decide +kernel
theorem dX10_coresBeside_15 : decode cX10_coresBeside 15 = .ok (.iload_n 1, 1) := by decide +kernel
theorem dX10_coresBeside_16 : decode cX10_coresBeside 16 = .ok (.aload_n 2, 1) := by decide +kernel
theorem dX10_coresBeside_17 : decode cX10_coresBeside 17 = .ok (.iload 4, 2) := by decide +kernel
theorem dX10_coresBeside_19 : decode cX10_coresBeside 19 = .ok (.iconst 0, 1) := by decide +kernel
theorem dX10_coresBeside_20 : decode cX10_coresBeside 20 = .ok (.invokevirtual 60, 3) := by decide +kernel
theorem dX10_coresBeside_23 : decode cX10_coresBeside 23 = .ok (.aload_n 2, 1) := by decide +kernel
theorem dX10_coresBeside_24 : decode cX10_coresBeside 24 = .ok (.iload 4, 2) := by decide +kernel
theorem dX10_coresBeside_26 : decode cX10_coresBeside 26 = .ok (.iconst 1, 1) := by decide +kernel
theorem dX10_coresBeside_27 : decode cX10_coresBeside 27 = .ok (.invokevirtual 60, 3) := by decide +kernel
theorem dX10_coresBeside_30 : decode cX10_coresBeside 30 = .ok (.invokevirtual 63, 3) := by decide +kernel
theorem dX10_coresBeside_33 : decode cX10_coresBeside 33 = .ok (.ifCond .eq 6, 3) := by decide +kernel
theorem dX10_coresBeside_36 : decode cX10_coresBeside 36 = .ok (.iinc 3 1, 3) := by decide +kernel
theorem dX10_coresBeside_39 : decode cX10_coresBeside 39 = .ok (.iinc 4 1, 3) := by decide +kernel
theorem dX10_coresBeside_42 : decode cX10_coresBeside 42 = .ok (.goto (-37), 3) := by decide +kernel
theorem dX10_coresBeside_45 : decode cX10_coresBeside 45 = .ok (.iload_n 3, 1) := by decide +kernel
theorem dX10_coresBeside_46 : decode cX10_coresBeside 46 = .ok (.ireturn, 1) := by decide +kernel
theorem dX11_wall_0 : decode cX11_wall 0 = .ok (.aload_n 0, 1) := by decide +kernel
theorem dX11_wall_1 : decode cX11_wall 1 = .ok (.invokevirtual 136, 3) := by decide +kernel
theorem dX11_wall_4 : decode cX11_wall 4 = .ok (.ifCond .ne 12, 3) := by decide +kernel
theorem dX11_wall_7 : decode cX11_wall 7 = .ok (.iload_n 2, 1) := by decide +kernel
theorem dX11_wall_8 : decode cX11_wall 8 = .ok (.ifCond .lt 8, 3) := by decide +kernel
theorem dX11_wall_11 : decode cX11_wall 11 = .ok (.iload_n 2, 1) := by decide +kernel
theorem dX11_wall_12 : decode cX11_wall 12 = .ok (.iconst 4, 1) := by decide +kernel
theorem dX11_wall_13 : decode cX11_wall 13 = .ok (.if_icmp .le 5, 3) := by decide +kernel
theorem dX11_wall_16 : decode cX11_wall 16 = .ok (.iconst (-1), 1) := by decide +kernel
theorem dX11_wall_17 : decode cX11_wall 17 = .ok (.ireturn, 1) := by decide +kernel
theorem dX11_wall_18 : decode cX11_wall 18 = .ok (.aload_n 0, 1) := by decide +kernel
theorem dX11_wall_19 : decode cX11_wall 19 = .ok (.getfield 76, 3) := by decide +kernel
theorem dX11_wall_22 : decode cX11_wall 22 = .ok (.aload_n 0, 1) := by decide +kernel
theorem dX11_wall_23 : decode cX11_wall 23 = .ok (.getfield 28, 3) := by decide +kernel
theorem dX11_wall_26 : decode cX11_wall 26 = .ok (.getfield 141, 3) := by decide +kernel
theorem dX11_wall_29 : decode cX11_wall 29 = .ok (.invokevirtual 162, 3) := by decide +kernel
theorem dX11_wall_32 : decode cX11_wall 32 = .ok (.aload_n 0, 1) := by decide +kernel
theorem dX11_wall_33 : decode cX11_wall 33 = .ok (.getfield 76, 3) := by decide +kernel
theorem dX11_wall_36 : decode cX11_wall 36 = .ok (.iload_n 1, 1) := by decide +kernel
theorem dX11_wall_37 : decode cX11_wall 37 = .ok (.invokevirtual 305, 3) := by decide +kernel
theorem dX11_wall_40 : decode cX11_wall 40 = .ok (.istore_n 3, 1) := by decide +kernel
theorem dX11_wall_41 : decode cX11_wall 41 = .ok (.iload_n 3, 1) := by decide +kernel
theorem dX11_wall_42 : decode cX11_wall 42 = .ok (.iconst (-1), 1) := by decide +kernel
theorem dX11_wall_43 : decode cX11_wall 43 = .ok (.if_icmp .ne 5, 3) := by decide +kernel
theorem dX11_wall_46 : decode cX11_wall 46 = .ok (.iconst (-1), 1) := by decide +kernel
theorem dX11_wall_47 : decode cX11_wall 47 = .ok (.ireturn, 1) := by decide +kernel
theorem dX11_wall_48 : decode cX11_wall 48 = .ok (.iload_n 2, 1) := by decide +kernel
theorem dX11_wall_49 : decode cX11_wall 49 = .ok (.tableswitch 58 0 3 #[31, 40, 47, 54], 31) := by decide +kernel
theorem dX11_wall_80 : decode cX11_wall 80 = .ok (.aload_n 0, 1) := by decide +kernel
theorem dX11_wall_81 : decode cX11_wall 81 = .ok (.getfield 76, 3) := by decide +kernel
theorem dX11_wall_84 : decode cX11_wall 84 = .ok (.iload_n 3, 1) := by decide +kernel
theorem dX11_wall_85 : decode cX11_wall 85 = .ok (.invokevirtual 308, 3) := by decide +kernel
theorem dX11_wall_88 : decode cX11_wall 88 = .ok (.ireturn, 1) := by decide +kernel
theorem dX11_wall_89 : decode cX11_wall 89 = .ok (.iload_n 3, 1) := by decide +kernel
theorem dX11_wall_90 : decode cX11_wall 90 = .ok (.iconst 2, 1) := by decide +kernel
theorem dX11_wall_91 : decode cX11_wall 91 = .ok (.idiv, 1) := by decide +kernel
theorem dX11_wall_92 : decode cX11_wall 92 = .ok (.bipush 9, 2) := by decide +kernel
theorem dX11_wall_94 : decode cX11_wall 94 = .ok (.irem, 1) := by decide +kernel
theorem dX11_wall_95 : decode cX11_wall 95 = .ok (.ireturn, 1) := by decide +kernel
theorem dX11_wall_96 : decode cX11_wall 96 = .ok (.iload_n 3, 1) := by decide +kernel
theorem dX11_wall_97 : decode cX11_wall 97 = .ok (.iconst 2, 1) := by decide +kernel
theorem dX11_wall_98 : decode cX11_wall 98 = .ok (.idiv, 1) := by decide +kernel
theorem dX11_wall_99 : decode cX11_wall 99 = .ok (.bipush 9, 2) := by decide +kernel
theorem dX11_wall_101 : decode cX11_wall 101 = .ok (.idiv, 1) := by decide +kernel
theorem dX11_wall_102 : decode cX11_wall 102 = .ok (.ireturn, 1) := by decide +kernel
theorem dX11_wall_103 : decode cX11_wall 103 = .ok (.iload_n 3, 1) := by decide +kernel
theorem dX11_wall_104 : decode cX11_wall 104 = .ok (.iconst 2, 1) := by decide +kernel
theorem dX11_wall_105 : decode cX11_wall 105 = .ok (.irem, 1) := by decide +kernel
theorem dX11_wall_106 : decode cX11_wall 106 = .ok (.ireturn, 1) := by decide +kernel
theorem dX11_wall_107 : decode cX11_wall 107 = .ok (.aload_n 0, 1) := by decide +kernel
theorem dX11_wall_108 : decode cX11_wall 108 = .ok (.getfield 76, 3) := by decide +kernel
theorem dX11_wall_111 : decode cX11_wall 111 = .ok (.iload_n 3, 1) := by decide +kernel
theorem dX11_wall_112 : decode cX11_wall 112 = .ok (.aload_n 0, 1) := by decide +kernel
theorem dX11_wall_113 : decode cX11_wall 113 = .ok (.getfield 28, 3) := by decide +kernel
theorem dX11_wall_116 : decode cX11_wall 116 = .ok (.getfield 127, 3) := by decide +kernel
theorem dX11_wall_119 : decode cX11_wall 119 = .ok (.invokevirtual 311, 3) := by decide +kernel
theorem dX11_wall_122 : decode cX11_wall 122 = .ok (.ireturn, 1) := by decide +kernel
theorem dX12_isCrystal_0 : decode cX12_isCrystal 0 = .ok (.aload_n 0, 1) := by decide +kernel
theorem dX12_isCrystal_1 : decode cX12_isCrystal 1 = .ok (.getfield 205, 3) := by decide +kernel
theorem dX12_isCrystal_4 : decode cX12_isCrystal 4 = .ok (.ifCond .le 7, 3) := by decide +kernel
theorem dX12_isCrystal_7 : decode cX12_isCrystal 7 = .ok (.iconst 1, 1) := by decide +kernel
theorem dX12_isCrystal_8 : decode cX12_isCrystal 8 = .ok (.goto 4, 3) := by decide +kernel
theorem dX12_isCrystal_11 : decode cX12_isCrystal 11 = .ok (.iconst 0, 1) := by decide +kernel
theorem dX12_isCrystal_12 : decode cX12_isCrystal 12 = .ok (.ireturn, 1) := by decide +kernel
theorem dX12_in_0 : decode cX12_in 0 = .ok (.lload_n 0, 1) := by decide +kernel
theorem dX12_in_1 : decode cX12_in 1 = .ok (.lload_n 2, 1) := by decide +kernel
theorem dX12_in_2 : decode cX12_in 2 = .ok (.lcmp, 1) := by decide +kernel
theorem dX12_in_3 : decode cX12_in 3 = .ok (.ifCond .lt 14, 3) := by decide +kernel
theorem dX12_in_6 : decode cX12_in 6 = .ok (.lload_n 0, 1) := by decide +kernel
theorem dX12_in_7 : decode cX12_in 7 = .ok (.lload 4, 2) := by decide +kernel
theorem dX12_in_9 : decode cX12_in 9 = .ok (.lcmp, 1) := by decide +kernel
theorem dX12_in_10 : decode cX12_in 10 = .ok (.ifCond .gt 7, 3) := by decide +kernel
theorem dX12_in_13 : decode cX12_in 13 = .ok (.iconst 1, 1) := by decide +kernel
theorem dX12_in_14 : decode cX12_in 14 = .ok (.goto 4, 3) := by decide +kernel
theorem dX12_in_17 : decode cX12_in 17 = .ok (.iconst 0, 1) := by decide +kernel
theorem dX12_in_18 : decode cX12_in 18 = .ok (.ireturn, 1) := by decide +kernel
theorem dX12_putAside_0 : decode cX12_putAside 0 = .ok (.iconst 0, 1) := by decide +kernel
theorem dX12_putAside_1 : decode cX12_putAside 1 = .ok (.istore_n 1, 1) := by decide +kernel
theorem dX12_putAside_2 : decode cX12_putAside 2 = .ok (.iload_n 1, 1) := by decide +kernel
theorem dX12_putAside_3 : decode cX12_putAside 3 = .ok (.sipush 486, 3) := by decide +kernel
theorem dX12_putAside_6 : decode cX12_putAside 6 = .ok (.if_icmp .ge 21, 3) := by decide +kernel
theorem dX12_putAside_9 : decode cX12_putAside 9 = .ok (.aload_n 0, 1) := by decide +kernel
theorem dX12_putAside_10 : decode cX12_putAside 10 = .ok (.getfield 80, 3) := by decide +kernel
theorem dX12_putAside_13 : decode cX12_putAside 13 = .ok (.iload_n 1, 1) := by decide +kernel
theorem dX12_putAside_14 : decode cX12_putAside 14 = .ok (.aload_n 0, 1) := by decide +kernel
theorem dX12_putAside_15 : decode cX12_putAside 15 = .ok (.getfield 28, 3) := by decide +kernel
theorem dX12_putAside_18 : decode cX12_putAside 18 = .ok (.iload_n 1, 1) := by decide +kernel
theorem dX12_putAside_19 : decode cX12_putAside 19 = .ok (.iaload, 1) := by decide +kernel
theorem dX12_putAside_20 : decode cX12_putAside 20 = .ok (.iastore, 1) := by decide +kernel
theorem dX12_putAside_21 : decode cX12_putAside 21 = .ok (.iinc 1 1, 3) := by decide +kernel
theorem dX12_putAside_24 : decode cX12_putAside 24 = .ok (.goto (-22), 3) := by decide +kernel
theorem dX12_putAside_27 : decode cX12_putAside 27 = .ok (.return_, 1) := by decide +kernel
theorem dX12_counts_0 : decode cX12_counts 0 = .ok (.aload_n 0, 1) := by decide +kernel
theorem dX12_counts_1 : decode cX12_counts 1 = .ok (.iconst 0, 1) := by decide +kernel
theorem dX12_counts_2 : decode cX12_counts 2 = .ok (.putfield 376, 3) := by decide +kernel
theorem dX12_counts_5 : decode cX12_counts 5 = .ok (.aload_n 0, 1) := by decide +kernel
theorem dX12_counts_6 : decode cX12_counts 6 = .ok (.iconst 0, 1) := by decide +kernel
theorem dX12_counts_7 : decode cX12_counts 7 = .ok (.putfield 379, 3) := by decide +kernel
theorem dX12_counts_10 : decode cX12_counts 10 = .ok (.aload_n 0, 1) := by decide +kernel
theorem dX12_counts_11 : decode cX12_counts 11 = .ok (.iconst 0, 1) := by decide +kernel
theorem dX12_counts_12 : decode cX12_counts 12 = .ok (.putfield 382, 3) := by decide +kernel
theorem dX12_counts_15 : decode cX12_counts 15 = .ok (.return_, 1) := by decide +kernel
theorem dX12_linkAt_0 : decode cX12_linkAt 0 = .ok (.iconst 4, 1) := by decide +kernel
theorem dX12_linkAt_1 : decode cX12_linkAt 1 = .ok (.bipush 9, 2) := by decide +kernel
theorem dX12_linkAt_3 : decode cX12_linkAt 3 = .ok (.iload_n 1, 1) := by decide +kernel
theorem dX12_linkAt_4 : decode cX12_linkAt 4 = .ok (.imul, 1) := by decide +kernel
theorem dX12_linkAt_5 : decode cX12_linkAt 5 = .ok (.iload_n 0, 1) := by decide +kernel
theorem dX12_linkAt_6 : decode cX12_linkAt 6 = .ok (.iadd, 1) := by decide +kernel
theorem dX12_linkAt_7 : decode cX12_linkAt 7 = .ok (.imul, 1) := by decide +kernel
theorem dX12_linkAt_8 : decode cX12_linkAt 8 = .ok (.iload_n 2, 1) := by decide +kernel
theorem dX12_linkAt_9 : decode cX12_linkAt 9 = .ok (.ifCond .eq 7, 3) := by decide +kernel
theorem dX12_linkAt_12 : decode cX12_linkAt 12 = .ok (.iconst 2, 1) := by decide +kernel
theorem dX12_linkAt_13 : decode cX12_linkAt 13 = .ok (.goto 4, 3) := by decide +kernel
theorem dX12_linkAt_16 : decode cX12_linkAt 16 = .ok (.iconst 0, 1) := by decide +kernel
theorem dX12_linkAt_17 : decode cX12_linkAt 17 = .ok (.iadd, 1) := by decide +kernel
theorem dX12_linkAt_18 : decode cX12_linkAt 18 = .ok (.iload_n 3, 1) := by decide +kernel
theorem dX12_linkAt_19 : decode cX12_linkAt 19 = .ok (.iadd, 1) := by decide +kernel
theorem dX12_linkAt_20 : decode cX12_linkAt 20 = .ok (.ireturn, 1) := by decide +kernel
theorem dX12_step_0 : decode cX12_step 0 = .ok (.aload_n 0, 1) := by decide +kernel
theorem dX12_step_1 : decode cX12_step 1 = .ok (.getfield 28, 3) := by decide +kernel
theorem dX12_step_4 : decode cX12_step 4 = .ok (.iload_n 1, 1) := by decide +kernel
theorem dX12_step_5 : decode cX12_step 5 = .ok (.iload_n 2, 1) := by decide +kernel
theorem dX12_step_6 : decode cX12_step 6 = .ok (.iload_n 3, 1) := by decide +kernel
theorem dX12_step_7 : decode cX12_step 7 = .ok (.iload 4, 2) := by decide +kernel
theorem dX12_step_9 : decode cX12_step 9 = .ok (.invokestatic 211, 3) := by decide +kernel
theorem dX12_step_12 : decode cX12_step 12 = .ok (.iaload, 1) := by decide +kernel
theorem dX12_step_13 : decode cX12_step 13 = .ok (.ireturn, 1) := by decide +kernel
theorem dX12_vector_0 : decode cX12_vector 0 = .ok (.aload_n 0, 1) := by decide +kernel
theorem dX12_vector_1 : decode cX12_vector 1 = .ok (.iload_n 1, 1) := by decide +kernel
theorem dX12_vector_2 : decode cX12_vector 2 = .ok (.iload_n 2, 1) := by decide +kernel
theorem dX12_vector_3 : decode cX12_vector 3 = .ok (.iconst 0, 1) := by decide +kernel
theorem dX12_vector_4 : decode cX12_vector 4 = .ok (.iload_n 3, 1) := by decide +kernel
theorem dX12_vector_5 : decode cX12_vector 5 = .ok (.invokevirtual 218, 3) := by decide +kernel
theorem dX12_vector_8 : decode cX12_vector 8 = .ok (.aload_n 0, 1) := by decide +kernel
theorem dX12_vector_9 : decode cX12_vector 9 = .ok (.iload_n 1, 1) := by decide +kernel
theorem dX12_vector_10 : decode cX12_vector 10 = .ok (.iconst 1, 1) := by decide +kernel
theorem dX12_vector_11 : decode cX12_vector 11 = .ok (.iadd, 1) := by decide +kernel
theorem dX12_vector_12 : decode cX12_vector 12 = .ok (.iload_n 2, 1) := by decide +kernel
theorem dX12_vector_13 : decode cX12_vector 13 = .ok (.iconst 1, 1) := by decide +kernel
theorem dX12_vector_14 : decode cX12_vector 14 = .ok (.iload_n 3, 1) := by decide +kernel
theorem dX12_vector_15 : decode cX12_vector 15 = .ok (.invokevirtual 218, 3) := by decide +kernel
theorem dX12_vector_18 : decode cX12_vector 18 = .ok (.iadd, 1) := by decide +kernel
theorem dX12_vector_19 : decode cX12_vector 19 = .ok (.aload_n 0, 1) := by decide +kernel
theorem dX12_vector_20 : decode cX12_vector 20 = .ok (.iload_n 1, 1) := by decide +kernel
theorem dX12_vector_21 : decode cX12_vector 21 = .ok (.iload_n 2, 1) := by decide +kernel
theorem dX12_vector_22 : decode cX12_vector 22 = .ok (.iconst 1, 1) := by decide +kernel
theorem dX12_vector_23 : decode cX12_vector 23 = .ok (.iadd, 1) := by decide +kernel
theorem dX12_vector_24 : decode cX12_vector 24 = .ok (.iconst 0, 1) := by decide +kernel
theorem dX12_vector_25 : decode cX12_vector 25 = .ok (.iload_n 3, 1) := by decide +kernel
theorem dX12_vector_26 : decode cX12_vector 26 = .ok (.invokevirtual 218, 3) := by decide +kernel
theorem dX12_vector_29 : decode cX12_vector 29 = .ok (.isub, 1) := by decide +kernel
theorem dX12_vector_30 : decode cX12_vector 30 = .ok (.aload_n 0, 1) := by decide +kernel
theorem dX12_vector_31 : decode cX12_vector 31 = .ok (.iload_n 1, 1) := by decide +kernel
theorem dX12_vector_32 : decode cX12_vector 32 = .ok (.iload_n 2, 1) := by decide +kernel
theorem dX12_vector_33 : decode cX12_vector 33 = .ok (.iconst 1, 1) := by decide +kernel
theorem dX12_vector_34 : decode cX12_vector 34 = .ok (.iload_n 3, 1) := by decide +kernel
theorem dX12_vector_35 : decode cX12_vector 35 = .ok (.invokevirtual 218, 3) := by decide +kernel
theorem dX12_vector_38 : decode cX12_vector 38 = .ok (.isub, 1) := by decide +kernel
theorem dX12_vector_39 : decode cX12_vector 39 = .ok (.ireturn, 1) := by decide +kernel
theorem dX12_isCore_0 : decode cX12_isCore 0 = .ok (.aload_n 0, 1) := by decide +kernel
theorem dX12_isCore_1 : decode cX12_isCore 1 = .ok (.iload_n 1, 1) := by decide +kernel
theorem dX12_isCore_2 : decode cX12_isCore 2 = .ok (.iload_n 2, 1) := by decide +kernel
theorem dX12_isCore_3 : decode cX12_isCore 3 = .ok (.iconst 0, 1) := by decide +kernel
theorem dX12_isCore_4 : decode cX12_isCore 4 = .ok (.invokevirtual 221, 3) := by decide +kernel
theorem dX12_isCore_7 : decode cX12_isCore 7 = .ok (.ifCond .ne 13, 3) := by decide +kernel
theorem dX12_isCore_10 : decode cX12_isCore 10 = .ok (.aload_n 0, 1) := by decide +kernel
theorem dX12_isCore_11 : decode cX12_isCore 11 = .ok (.iload_n 1, 1) := by decide +kernel
theorem dX12_isCore_12 : decode cX12_isCore 12 = .ok (.iload_n 2, 1) := by decide +kernel
theorem dX12_isCore_13 : decode cX12_isCore 13 = .ok (.iconst 1, 1) := by decide +kernel
theorem dX12_isCore_14 : decode cX12_isCore 14 = .ok (.invokevirtual 221, 3) := by decide +kernel
theorem dX12_isCore_17 : decode cX12_isCore 17 = .ok (.ifCond .eq 7, 3) := by decide +kernel
theorem dX12_isCore_20 : decode cX12_isCore 20 = .ok (.iconst 1, 1) := by decide +kernel
theorem dX12_isCore_21 : decode cX12_isCore 21 = .ok (.goto 4, 3) := by decide +kernel
theorem dX12_isCore_24 : decode cX12_isCore 24 = .ok (.iconst 0, 1) := by decide +kernel
theorem dX12_isCore_25 : decode cX12_isCore 25 = .ok (.ireturn, 1) := by decide +kernel
theorem dX12_wayOf_0 : decode cX12_wayOf 0 = .ok (.iload_n 1, 1) := by decide +kernel
theorem dX12_wayOf_1 : decode cX12_wayOf 1 = .ok (.ifCond .ne 7, 3) := by decide +kernel
theorem dX12_wayOf_4 : decode cX12_wayOf 4 = .ok (.iconst 0, 1) := by decide +kernel
theorem dX12_wayOf_5 : decode cX12_wayOf 5 = .ok (.goto 12, 3) := by decide +kernel
theorem dX12_wayOf_8 : decode cX12_wayOf 8 = .ok (.iload_n 0, 1) := by decide +kernel
theorem dX12_wayOf_9 : decode cX12_wayOf 9 = .ok (.ifCond .ne 7, 3) := by decide +kernel
theorem dX12_wayOf_12 : decode cX12_wayOf 12 = .ok (.iconst 1, 1) := by decide +kernel
theorem dX12_wayOf_13 : decode cX12_wayOf 13 = .ok (.goto 4, 3) := by decide +kernel
theorem dX12_wayOf_16 : decode cX12_wayOf 16 = .ok (.iconst (-1), 1) := by decide +kernel
theorem dX12_wayOf_17 : decode cX12_wayOf 17 = .ok (.ireturn, 1) := by decide +kernel
theorem dX12_way_0 : decode cX12_way 0 = .ok (.aload_n 0, 1) := by decide +kernel
theorem dX12_way_1 : decode cX12_way 1 = .ok (.getfield 40, 3) := by decide +kernel
theorem dX12_way_4 : decode cX12_way 4 = .ok (.iload_n 1, 1) := by decide +kernel
theorem dX12_way_5 : decode cX12_way 5 = .ok (.iaload, 1) := by decide +kernel
theorem dX12_way_6 : decode cX12_way 6 = .ok (.aload_n 0, 1) := by decide +kernel
theorem dX12_way_7 : decode cX12_way 7 = .ok (.getfield 43, 3) := by decide +kernel
theorem dX12_way_10 : decode cX12_way 10 = .ok (.iload_n 1, 1) := by decide +kernel
theorem dX12_way_11 : decode cX12_way 11 = .ok (.iaload, 1) := by decide +kernel
theorem dX12_way_12 : decode cX12_way 12 = .ok (.invokestatic 250, 3) := by decide +kernel
theorem dX12_way_15 : decode cX12_way 15 = .ok (.ireturn, 1) := by decide +kernel
theorem dX12_along_0 : decode cX12_along 0 = .ok (.iload_n 2, 1) := by decide +kernel
theorem dX12_along_1 : decode cX12_along 1 = .ok (.ifCond .ne 12, 3) := by decide +kernel
theorem dX12_along_4 : decode cX12_along 4 = .ok (.aload_n 0, 1) := by decide +kernel
theorem dX12_along_5 : decode cX12_along 5 = .ok (.getfield 40, 3) := by decide +kernel
theorem dX12_along_8 : decode cX12_along 8 = .ok (.iload_n 1, 1) := by decide +kernel
theorem dX12_along_9 : decode cX12_along 9 = .ok (.iaload, 1) := by decide +kernel
theorem dX12_along_10 : decode cX12_along 10 = .ok (.goto 9, 3) := by decide +kernel
theorem dX12_along_13 : decode cX12_along 13 = .ok (.aload_n 0, 1) := by decide +kernel
theorem dX12_along_14 : decode cX12_along 14 = .ok (.getfield 43, 3) := by decide +kernel
theorem dX12_along_17 : decode cX12_along 17 = .ok (.iload_n 1, 1) := by decide +kernel
theorem dX12_along_18 : decode cX12_along 18 = .ok (.iaload, 1) := by decide +kernel
theorem dX12_along_19 : decode cX12_along 19 = .ok (.ireturn, 1) := by decide +kernel
theorem dX12_placeAlong_0 : decode cX12_placeAlong 0 = .ok (.iload_n 2, 1) := by decide +kernel
theorem dX12_placeAlong_1 : decode cX12_placeAlong 1 = .ok (.ifCond .ne 12, 3) := by decide +kernel
theorem dX12_placeAlong_4 : decode cX12_placeAlong 4 = .ok (.aload_n 0, 1) := by decide +kernel
theorem dX12_placeAlong_5 : decode cX12_placeAlong 5 = .ok (.getfield 34, 3) := by decide +kernel
theorem dX12_placeAlong_8 : decode cX12_placeAlong 8 = .ok (.iload_n 1, 1) := by decide +kernel
theorem dX12_placeAlong_9 : decode cX12_placeAlong 9 = .ok (.iaload, 1) := by decide +kernel
theorem dX12_placeAlong_10 : decode cX12_placeAlong 10 = .ok (.goto 9, 3) := by decide +kernel
theorem dX12_placeAlong_13 : decode cX12_placeAlong 13 = .ok (.aload_n 0, 1) := by decide +kernel
theorem dX12_placeAlong_14 : decode cX12_placeAlong 14 = .ok (.getfield 37, 3) := by decide +kernel
theorem dX12_placeAlong_17 : decode cX12_placeAlong 17 = .ok (.iload_n 1, 1) := by decide +kernel
theorem dX12_placeAlong_18 : decode cX12_placeAlong 18 = .ok (.iaload, 1) := by decide +kernel
theorem dX12_placeAlong_19 : decode cX12_placeAlong 19 = .ok (.ireturn, 1) := by decide +kernel
theorem dJ13_signum_95d88_0 : decode cJ13_signum_95d88 0 = .ok (.lload_n 0, 1) := by decide +kernel
theorem dJ13_signum_95d88_1 : decode cJ13_signum_95d88 1 = .ok (.bipush 63, 2) := by decide +kernel
theorem dJ13_signum_95d88_3 : decode cJ13_signum_95d88 3 = .ok (.lshr, 1) := by decide +kernel
theorem dJ13_signum_95d88_4 : decode cJ13_signum_95d88 4 = .ok (.lload_n 0, 1) := by decide +kernel
theorem dJ13_signum_95d88_5 : decode cJ13_signum_95d88 5 = .ok (.lneg, 1) := by decide +kernel
theorem dJ13_signum_95d88_6 : decode cJ13_signum_95d88 6 = .ok (.bipush 63, 2) := by decide +kernel
theorem dJ13_signum_95d88_8 : decode cJ13_signum_95d88 8 = .ok (.lushr, 1) := by decide +kernel
theorem dJ13_signum_95d88_9 : decode cJ13_signum_95d88 9 = .ok (.lor, 1) := by decide +kernel
theorem dJ13_signum_95d88_10 : decode cJ13_signum_95d88 10 = .ok (.l2i, 1) := by decide +kernel
theorem dJ13_signum_95d88_11 : decode cJ13_signum_95d88 11 = .ok (.ireturn, 1) := by decide +kernel
theorem dJ9_abs_067f4_0 : decode cJ9_abs_067f4 0 = .ok (.lload_n 0, 1) := by decide +kernel
theorem dJ9_abs_067f4_1 : decode cJ9_abs_067f4 1 = .ok (.lconst 0, 1) := by decide +kernel
theorem dJ9_abs_067f4_2 : decode cJ9_abs_067f4 2 = .ok (.lcmp, 1) := by decide +kernel
theorem dJ9_abs_067f4_3 : decode cJ9_abs_067f4 3 = .ok (.ifCond .ge 8, 3) := by decide +kernel
theorem dJ9_abs_067f4_6 : decode cJ9_abs_067f4 6 = .ok (.lload_n 0, 1) := by decide +kernel
theorem dJ9_abs_067f4_7 : decode cJ9_abs_067f4 7 = .ok (.lneg, 1) := by decide +kernel
theorem dJ9_abs_067f4_8 : decode cJ9_abs_067f4 8 = .ok (.goto 4, 3) := by decide +kernel
theorem dJ9_abs_067f4_11 : decode cJ9_abs_067f4 11 = .ok (.lload_n 0, 1) := by decide +kernel
theorem dJ9_abs_067f4_12 : decode cJ9_abs_067f4 12 = .ok (.lreturn, 1) := by decide +kernel
theorem dX12_forceBy_0 : decode cX12_forceBy 0 = .ok (.aload_n 0, 1) := by decide +kernel
theorem dX12_forceBy_1 : decode cX12_forceBy 1 = .ok (.getfield 31, 3) := by decide +kernel
theorem dX12_forceBy_4 : decode cX12_forceBy 4 = .ok (.iconst 3, 1) := by decide +kernel
theorem dX12_forceBy_5 : decode cX12_forceBy 5 = .ok (.iaload, 1) := by decide +kernel
theorem dX12_forceBy_6 : decode cX12_forceBy 6 = .ok (.ifCond .ne 42, 3) := by decide +kernel
theorem dX12_forceBy_9 : decode cX12_forceBy 9 = .ok (.ldc2_w 253, 3) := by decide +kernel
theorem dX12_forceBy_12 : decode cX12_forceBy 12 = .ok (.lload_n 1, 1) := by decide +kernel
theorem dX12_forceBy_13 : decode cX12_forceBy 13 = .ok (.lmul, 1) := by decide +kernel
theorem dX12_forceBy_14 : decode cX12_forceBy 14 = .ok (.lload_n 3, 1) := by decide +kernel
theorem dX12_forceBy_15 : decode cX12_forceBy 15 = .ok (.lmul, 1) := by decide +kernel
theorem dX12_forceBy_16 : decode cX12_forceBy 16 = .ok (.lload_n 3, 1) := by decide +kernel
theorem dX12_forceBy_17 : decode cX12_forceBy 17 = .ok (.lload_n 3, 1) := by decide +kernel
theorem dX12_forceBy_18 : decode cX12_forceBy 18 = .ok (.lmul, 1) := by decide +kernel
theorem dX12_forceBy_19 : decode cX12_forceBy 19 = .ok (.lload 5, 2) := by decide +kernel
theorem dX12_forceBy_21 : decode cX12_forceBy 21 = .ok (.lload 5, 2) := by decide +kernel
theorem dX12_forceBy_23 : decode cX12_forceBy 23 = .ok (.lmul, 1) := by decide +kernel
theorem dX12_forceBy_24 : decode cX12_forceBy 24 = .ok (.lsub, 1) := by decide +kernel
theorem dX12_forceBy_25 : decode cX12_forceBy 25 = .ok (.lmul, 1) := by decide +kernel
theorem dX12_forceBy_26 : decode cX12_forceBy 26 = .ok (.lload_n 3, 1) := by decide +kernel
theorem dX12_forceBy_27 : decode cX12_forceBy 27 = .ok (.lload_n 3, 1) := by decide +kernel
theorem dX12_forceBy_28 : decode cX12_forceBy 28 = .ok (.lmul, 1) := by decide +kernel
theorem dX12_forceBy_29 : decode cX12_forceBy 29 = .ok (.lload 5, 2) := by decide +kernel
theorem dX12_forceBy_31 : decode cX12_forceBy 31 = .ok (.lload 5, 2) := by decide +kernel
theorem dX12_forceBy_33 : decode cX12_forceBy 33 = .ok (.lmul, 1) := by decide +kernel
theorem dX12_forceBy_34 : decode cX12_forceBy 34 = .ok (.ladd, 1) := by decide +kernel
theorem dX12_forceBy_35 : decode cX12_forceBy 35 = .ok (.lload_n 3, 1) := by decide +kernel
theorem dX12_forceBy_36 : decode cX12_forceBy 36 = .ok (.lload_n 3, 1) := by decide +kernel
theorem dX12_forceBy_37 : decode cX12_forceBy 37 = .ok (.lmul, 1) := by decide +kernel
theorem dX12_forceBy_38 : decode cX12_forceBy 38 = .ok (.lload 5, 2) := by decide +kernel
theorem dX12_forceBy_40 : decode cX12_forceBy 40 = .ok (.lload 5, 2) := by decide +kernel
theorem dX12_forceBy_42 : decode cX12_forceBy 42 = .ok (.lmul, 1) := by decide +kernel
theorem dX12_forceBy_43 : decode cX12_forceBy 43 = .ok (.ladd, 1) := by decide +kernel
theorem dX12_forceBy_44 : decode cX12_forceBy 44 = .ok (.lmul, 1) := by decide +kernel
theorem dX12_forceBy_45 : decode cX12_forceBy 45 = .ok (.ldiv, 1) := by decide +kernel
theorem dX12_forceBy_46 : decode cX12_forceBy 46 = .ok (.l2i, 1) := by decide +kernel
theorem dX12_forceBy_47 : decode cX12_forceBy 47 = .ok (.ireturn, 1) := by decide +kernel
theorem dX12_forceBy_48 : decode cX12_forceBy 48 = .ok (.aload_n 0, 1) := by decide +kernel
theorem dX12_forceBy_49 : decode cX12_forceBy 49 = .ok (.getfield 31, 3) := by decide +kernel
theorem dX12_forceBy_52 : decode cX12_forceBy 52 = .ok (.iconst 3, 1) := by decide +kernel
theorem dX12_forceBy_53 : decode cX12_forceBy 53 = .ok (.iaload, 1) := by decide +kernel
theorem dX12_forceBy_54 : decode cX12_forceBy 54 = .ok (.iconst 1, 1) := by decide +kernel
theorem dX12_forceBy_55 : decode cX12_forceBy 55 = .ok (.if_icmp .ne 27, 3) := by decide +kernel
theorem dX12_forceBy_58 : decode cX12_forceBy 58 = .ok (.ldc2_w 255, 3) := by decide +kernel
theorem dX12_forceBy_61 : decode cX12_forceBy 61 = .ok (.lload_n 1, 1) := by decide +kernel
theorem dX12_forceBy_62 : decode cX12_forceBy 62 = .ok (.lmul, 1) := by decide +kernel
theorem dX12_forceBy_63 : decode cX12_forceBy 63 = .ok (.lload_n 3, 1) := by decide +kernel
theorem dX12_forceBy_64 : decode cX12_forceBy 64 = .ok (.invokestatic 257, 3) := by decide +kernel
theorem dX12_forceBy_67 : decode cX12_forceBy 67 = .ok (.i2l, 1) := by decide +kernel
theorem dX12_forceBy_68 : decode cX12_forceBy 68 = .ok (.lmul, 1) := by decide +kernel
theorem dX12_forceBy_69 : decode cX12_forceBy 69 = .ok (.lload_n 3, 1) := by decide +kernel
theorem dX12_forceBy_70 : decode cX12_forceBy 70 = .ok (.invokestatic 263, 3) := by decide +kernel
theorem dX12_forceBy_73 : decode cX12_forceBy 73 = .ok (.lload 5, 2) := by decide +kernel
theorem dX12_forceBy_75 : decode cX12_forceBy 75 = .ok (.invokestatic 263, 3) := by decide +kernel
theorem dX12_forceBy_78 : decode cX12_forceBy 78 = .ok (.ladd, 1) := by decide +kernel
theorem dX12_forceBy_79 : decode cX12_forceBy 79 = .ok (.ldiv, 1) := by decide +kernel
theorem dX12_forceBy_80 : decode cX12_forceBy 80 = .ok (.l2i, 1) := by decide +kernel
theorem dX12_forceBy_81 : decode cX12_forceBy 81 = .ok (.ireturn, 1) := by decide +kernel
theorem dX12_forceBy_82 : decode cX12_forceBy 82 = .ok (.ldc2_w 267, 3) := by decide +kernel
theorem dX12_forceBy_85 : decode cX12_forceBy 85 = .ok (.lload_n 1, 1) := by decide +kernel
theorem dX12_forceBy_86 : decode cX12_forceBy 86 = .ok (.lmul, 1) := by decide +kernel
theorem dX12_forceBy_87 : decode cX12_forceBy 87 = .ok (.lload_n 3, 1) := by decide +kernel
theorem dX12_forceBy_88 : decode cX12_forceBy 88 = .ok (.lmul, 1) := by decide +kernel
theorem dX12_forceBy_89 : decode cX12_forceBy 89 = .ok (.lload_n 3, 1) := by decide +kernel
theorem dX12_forceBy_90 : decode cX12_forceBy 90 = .ok (.lload_n 3, 1) := by decide +kernel
theorem dX12_forceBy_91 : decode cX12_forceBy 91 = .ok (.lmul, 1) := by decide +kernel
theorem dX12_forceBy_92 : decode cX12_forceBy 92 = .ok (.lload 5, 2) := by decide +kernel
theorem dX12_forceBy_94 : decode cX12_forceBy 94 = .ok (.lload 5, 2) := by decide +kernel
theorem dX12_forceBy_96 : decode cX12_forceBy 96 = .ok (.lmul, 1) := by decide +kernel
theorem dX12_forceBy_97 : decode cX12_forceBy 97 = .ok (.ladd, 1) := by decide +kernel
theorem dX12_forceBy_98 : decode cX12_forceBy 98 = .ok (.ldiv, 1) := by decide +kernel
theorem dX12_forceBy_99 : decode cX12_forceBy 99 = .ok (.l2i, 1) := by decide +kernel
theorem dX12_forceBy_100 : decode cX12_forceBy 100 = .ok (.ireturn, 1) := by decide +kernel
theorem dX12_forceOn_0 : decode cX12_forceOn 0 = .ok (.aload_n 0, 1) := by decide +kernel
theorem dX12_forceOn_1 : decode cX12_forceOn 1 = .ok (.iload_n 1, 1) := by decide +kernel
theorem dX12_forceOn_2 : decode cX12_forceOn 2 = .ok (.invokevirtual 269, 3) := by decide +kernel
theorem dX12_forceOn_5 : decode cX12_forceOn 5 = .ok (.istore_n 2, 1) := by decide +kernel
theorem dX12_forceOn_6 : decode cX12_forceOn 6 = .ok (.iload_n 2, 1) := by decide +kernel
theorem dX12_forceOn_7 : decode cX12_forceOn 7 = .ok (.iconst (-1), 1) := by decide +kernel
theorem dX12_forceOn_8 : decode cX12_forceOn 8 = .ok (.if_icmp .ne 5, 3) := by decide +kernel
theorem dX12_forceOn_11 : decode cX12_forceOn 11 = .ok (.iconst 0, 1) := by decide +kernel
theorem dX12_forceOn_12 : decode cX12_forceOn 12 = .ok (.ireturn, 1) := by decide +kernel
theorem dX12_forceOn_13 : decode cX12_forceOn 13 = .ok (.aload_n 0, 1) := by decide +kernel
theorem dX12_forceOn_14 : decode cX12_forceOn 14 = .ok (.getfield 31, 3) := by decide +kernel
theorem dX12_forceOn_17 : decode cX12_forceOn 17 = .ok (.iload_n 2, 1) := by decide +kernel
theorem dX12_forceOn_18 : decode cX12_forceOn 18 = .ok (.ifCond .ne 7, 3) := by decide +kernel
theorem dX12_forceOn_21 : decode cX12_forceOn 21 = .ok (.iconst 0, 1) := by decide +kernel
theorem dX12_forceOn_22 : decode cX12_forceOn 22 = .ok (.goto 4, 3) := by decide +kernel
theorem dX12_forceOn_25 : decode cX12_forceOn 25 = .ok (.iconst 1, 1) := by decide +kernel
theorem dX12_forceOn_26 : decode cX12_forceOn 26 = .ok (.iaload, 1) := by decide +kernel
theorem dX12_forceOn_27 : decode cX12_forceOn 27 = .ok (.aload_n 0, 1) := by decide +kernel
theorem dX12_forceOn_28 : decode cX12_forceOn 28 = .ok (.iload_n 1, 1) := by decide +kernel
theorem dX12_forceOn_29 : decode cX12_forceOn 29 = .ok (.iload_n 2, 1) := by decide +kernel
theorem dX12_forceOn_30 : decode cX12_forceOn 30 = .ok (.invokevirtual 272, 3) := by decide +kernel
theorem dX12_forceOn_33 : decode cX12_forceOn 33 = .ok (.imul, 1) := by decide +kernel
theorem dX12_forceOn_34 : decode cX12_forceOn 34 = .ok (.istore_n 3, 1) := by decide +kernel
theorem dX12_forceOn_35 : decode cX12_forceOn 35 = .ok (.iconst 0, 1) := by decide +kernel
theorem dX12_forceOn_36 : decode cX12_forceOn 36 = .ok (.istore 4, 2) := by decide +kernel
theorem dX12_forceOn_38 : decode cX12_forceOn 38 = .ok (.iload 4, 2) := by decide +kernel
theorem dX12_forceOn_40 : decode cX12_forceOn 40 = .ok (.aload_n 0, 1) := by decide +kernel
theorem dX12_forceOn_41 : decode cX12_forceOn 41 = .ok (.getfield 241, 3) := by decide +kernel
theorem dX12_forceOn_44 : decode cX12_forceOn 44 = .ok (.if_icmp .ge 80, 3) := by decide +kernel
theorem dX12_forceOn_47 : decode cX12_forceOn 47 = .ok (.iload 4, 2) := by decide +kernel
theorem dX12_forceOn_49 : decode cX12_forceOn 49 = .ok (.iload_n 1, 1) := by decide +kernel
theorem dX12_forceOn_50 : decode cX12_forceOn 50 = .ok (.if_icmp .eq 68, 3) := by decide +kernel
theorem dX12_forceOn_53 : decode cX12_forceOn 53 = .ok (.aload_n 0, 1) := by decide +kernel
theorem dX12_forceOn_54 : decode cX12_forceOn 54 = .ok (.iload_n 1, 1) := by decide +kernel
theorem dX12_forceOn_55 : decode cX12_forceOn 55 = .ok (.iload_n 2, 1) := by decide +kernel
theorem dX12_forceOn_56 : decode cX12_forceOn 56 = .ok (.invokevirtual 275, 3) := by decide +kernel
theorem dX12_forceOn_59 : decode cX12_forceOn 59 = .ok (.aload_n 0, 1) := by decide +kernel
theorem dX12_forceOn_60 : decode cX12_forceOn 60 = .ok (.iload 4, 2) := by decide +kernel
theorem dX12_forceOn_62 : decode cX12_forceOn 62 = .ok (.iload_n 2, 1) := by decide +kernel
theorem dX12_forceOn_63 : decode cX12_forceOn 63 = .ok (.invokevirtual 275, 3) := by decide +kernel
theorem dX12_forceOn_66 : decode cX12_forceOn 66 = .ok (.isub, 1) := by decide +kernel
theorem dX12_forceOn_67 : decode cX12_forceOn 67 = .ok (.istore 5, 2) := by decide +kernel
theorem dX12_forceOn_69 : decode cX12_forceOn 69 = .ok (.aload_n 0, 1) := by decide +kernel
theorem dX12_forceOn_70 : decode cX12_forceOn 70 = .ok (.iload_n 1, 1) := by decide +kernel
theorem dX12_forceOn_71 : decode cX12_forceOn 71 = .ok (.iconst 1, 1) := by decide +kernel
theorem dX12_forceOn_72 : decode cX12_forceOn 72 = .ok (.iload_n 2, 1) := by decide +kernel
theorem dX12_forceOn_73 : decode cX12_forceOn 73 = .ok (.isub, 1) := by decide +kernel
theorem dX12_forceOn_74 : decode cX12_forceOn 74 = .ok (.invokevirtual 275, 3) := by decide +kernel
theorem dX12_forceOn_77 : decode cX12_forceOn 77 = .ok (.aload_n 0, 1) := by decide +kernel
theorem dX12_forceOn_78 : decode cX12_forceOn 78 = .ok (.iload 4, 2) := by decide +kernel
theorem dX12_forceOn_80 : decode cX12_forceOn 80 = .ok (.iconst 1, 1) := by decide +kernel
theorem dX12_forceOn_81 : decode cX12_forceOn 81 = .ok (.iload_n 2, 1) := by decide +kernel
theorem dX12_forceOn_82 : decode cX12_forceOn 82 = .ok (.isub, 1) := by decide +kernel
theorem dX12_forceOn_83 : decode cX12_forceOn 83 = .ok (.invokevirtual 275, 3) := by decide +kernel
theorem dX12_forceOn_86 : decode cX12_forceOn 86 = .ok (.isub, 1) := by decide +kernel
theorem dX12_forceOn_87 : decode cX12_forceOn 87 = .ok (.istore 6, 2) := by decide +kernel
theorem dX12_forceOn_89 : decode cX12_forceOn 89 = .ok (.iload_n 3, 1) := by decide +kernel
theorem dX12_forceOn_90 : decode cX12_forceOn 90 = .ok (.aload_n 0, 1) := by decide +kernel
theorem dX12_forceOn_91 : decode cX12_forceOn 91 = .ok (.aload_n 0, 1) := by decide +kernel
theorem dX12_forceOn_92 : decode cX12_forceOn 92 = .ok (.iload_n 1, 1) := by decide +kernel
theorem dX12_forceOn_93 : decode cX12_forceOn 93 = .ok (.iload_n 2, 1) := by decide +kernel
theorem dX12_forceOn_94 : decode cX12_forceOn 94 = .ok (.invokevirtual 272, 3) := by decide +kernel
theorem dX12_forceOn_97 : decode cX12_forceOn 97 = .ok (.i2l, 1) := by decide +kernel
theorem dX12_forceOn_98 : decode cX12_forceOn 98 = .ok (.aload_n 0, 1) := by decide +kernel
theorem dX12_forceOn_99 : decode cX12_forceOn 99 = .ok (.iload 4, 2) := by decide +kernel
theorem dX12_forceOn_101 : decode cX12_forceOn 101 = .ok (.iload_n 2, 1) := by decide +kernel
theorem dX12_forceOn_102 : decode cX12_forceOn 102 = .ok (.invokevirtual 272, 3) := by decide +kernel
theorem dX12_forceOn_105 : decode cX12_forceOn 105 = .ok (.i2l, 1) := by decide +kernel
theorem dX12_forceOn_106 : decode cX12_forceOn 106 = .ok (.lmul, 1) := by decide +kernel
theorem dX12_forceOn_107 : decode cX12_forceOn 107 = .ok (.iload 5, 2) := by decide +kernel
theorem dX12_forceOn_109 : decode cX12_forceOn 109 = .ok (.i2l, 1) := by decide +kernel
theorem dX12_forceOn_110 : decode cX12_forceOn 110 = .ok (.iload 6, 2) := by decide +kernel
theorem dX12_forceOn_112 : decode cX12_forceOn 112 = .ok (.i2l, 1) := by decide +kernel
theorem dX12_forceOn_113 : decode cX12_forceOn 113 = .ok (.invokevirtual 278, 3) := by decide +kernel
theorem dX12_forceOn_116 : decode cX12_forceOn 116 = .ok (.iadd, 1) := by decide +kernel
theorem dX12_forceOn_117 : decode cX12_forceOn 117 = .ok (.istore_n 3, 1) := by decide +kernel
theorem dX12_forceOn_118 : decode cX12_forceOn 118 = .ok (.iinc 4 1, 3) := by decide +kernel
theorem dX12_forceOn_121 : decode cX12_forceOn 121 = .ok (.goto (-83), 3) := by decide +kernel
theorem dX12_forceOn_124 : decode cX12_forceOn 124 = .ok (.iload_n 3, 1) := by decide +kernel
theorem dX12_forceOn_125 : decode cX12_forceOn 125 = .ok (.ireturn, 1) := by decide +kernel
theorem dX12_laysCores_0 : decode cX12_laysCores 0 = .ok (.aload_n 0, 1) := by decide +kernel
theorem dX12_laysCores_1 : decode cX12_laysCores 1 = .ok (.iconst 0, 1) := by decide +kernel
theorem dX12_laysCores_2 : decode cX12_laysCores 2 = .ok (.putfield 241, 3) := by decide +kernel
theorem dX12_laysCores_5 : decode cX12_laysCores 5 = .ok (.iconst 0, 1) := by decide +kernel
theorem dX12_laysCores_6 : decode cX12_laysCores 6 = .ok (.istore_n 1, 1) := by decide +kernel
theorem dX12_laysCores_7 : decode cX12_laysCores 7 = .ok (.iload_n 1, 1) := by decide +kernel
theorem dX12_laysCores_8 : decode cX12_laysCores 8 = .ok (.aload_n 0, 1) := by decide +kernel
theorem dX12_laysCores_9 : decode cX12_laysCores 9 = .ok (.getfield 208, 3) := by decide +kernel
theorem dX12_laysCores_12 : decode cX12_laysCores 12 = .ok (.iconst 1, 1) := by decide +kernel
