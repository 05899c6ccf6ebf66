theorem dX0_forceOn_0 : decode cX0_forceOn 0 = .ok (.aload_n 0, 1) := by decide +kernel
theorem dX0_forceOn_1 : decode cX0_forceOn 1 = .ok (.iload_n 1, 1) := by decide +kernel
theorem dX0_forceOn_2 : decode cX0_forceOn 2 = .ok (.invokevirtual 48, 3) := by decide +kernel
theorem dX0_forceOn_5 : decode cX0_forceOn 5 = .ok (.istore_n 3, 1) := by decide +kernel
theorem dX0_forceOn_6 : decode cX0_forceOn 6 = .ok (.iload_n 3, 1) := by decide +kernel
theorem dX0_forceOn_7 : decode cX0_forceOn 7 = .ok (.ifCond .lt 9, 3) := by decide +kernel
theorem dX0_forceOn_10 : decode cX0_forceOn 10 = .ok (.aload_n 2, 1) := by decide +kernel
theorem dX0_forceOn_11 : decode cX0_forceOn 11 = .ok (.arraylength, 1) := by decide +kernel
theorem dX0_forceOn_12 : decode cX0_forceOn 12 = .ok (.iconst 3, 1) := by decide +kernel
theorem dX0_forceOn_13 : decode cX0_forceOn 13 = .ok (.if_icmp .gt 5, 3) := by decide +kernel
theorem dX0_forceOn_16 : decode cX0_forceOn 16 = .ok (.iconst 0, 1) := by decide +kernel
theorem dX0_forceOn_17 : decode cX0_forceOn 17 = .ok (.ireturn, 1) := by decide +kernel
theorem dX0_forceOn_18 : decode cX0_forceOn 18 = .ok (.aload_n 0, 1) := by decide +kernel
theorem dX0_forceOn_19 : decode cX0_forceOn 19 = .ok (.iload_n 1, 1) := by decide +kernel
theorem dX0_forceOn_20 : decode cX0_forceOn 20 = .ok (.iload_n 3, 1) := by decide +kernel
theorem dX0_forceOn_21 : decode cX0_forceOn 21 = .ok (.invokevirtual 38, 3) := by decide +kernel
theorem dX0_forceOn_24 : decode cX0_forceOn 24 = .ok (.istore 4, 2) := by decide +kernel
theorem dX0_forceOn_26 : decode cX0_forceOn 26 = .ok (.aload_n 2, 1) := by decide +kernel
theorem dX0_forceOn_27 : decode cX0_forceOn 27 = .ok (.iload_n 3, 1) := by decide +kernel
theorem dX0_forceOn_28 : decode cX0_forceOn 28 = .ok (.iaload, 1) := by decide +kernel
theorem dX0_forceOn_29 : decode cX0_forceOn 29 = .ok (.iload 4, 2) := by decide +kernel
theorem dX0_forceOn_31 : decode cX0_forceOn 31 = .ok (.imul, 1) := by decide +kernel
theorem dX0_forceOn_32 : decode cX0_forceOn 32 = .ok (.istore 5, 2) := by decide +kernel
theorem dX0_forceOn_34 : decode cX0_forceOn 34 = .ok (.iconst 0, 1) := by decide +kernel
theorem dX0_forceOn_35 : decode cX0_forceOn 35 = .ok (.istore 6, 2) := by decide +kernel
theorem dX0_forceOn_37 : decode cX0_forceOn 37 = .ok (.iload 6, 2) := by decide +kernel
theorem dX0_forceOn_39 : decode cX0_forceOn 39 = .ok (.aload_n 0, 1) := by decide +kernel
theorem dX0_forceOn_40 : decode cX0_forceOn 40 = .ok (.getfield 18, 3) := by decide +kernel
theorem dX0_forceOn_43 : decode cX0_forceOn 43 = .ok (.if_icmp .ge 76, 3) := by decide +kernel
theorem dX0_forceOn_46 : decode cX0_forceOn 46 = .ok (.iload 6, 2) := by decide +kernel
theorem dX0_forceOn_48 : decode cX0_forceOn 48 = .ok (.iload_n 1, 1) := by decide +kernel
theorem dX0_forceOn_49 : decode cX0_forceOn 49 = .ok (.if_icmp .eq 64, 3) := by decide +kernel
theorem dX0_forceOn_52 : decode cX0_forceOn 52 = .ok (.aload_n 0, 1) := by decide +kernel
theorem dX0_forceOn_53 : decode cX0_forceOn 53 = .ok (.iload_n 1, 1) := by decide +kernel
theorem dX0_forceOn_54 : decode cX0_forceOn 54 = .ok (.iload_n 3, 1) := by decide +kernel
theorem dX0_forceOn_55 : decode cX0_forceOn 55 = .ok (.invokevirtual 45, 3) := by decide +kernel
theorem dX0_forceOn_58 : decode cX0_forceOn 58 = .ok (.aload_n 0, 1) := by decide +kernel
theorem dX0_forceOn_59 : decode cX0_forceOn 59 = .ok (.iload 6, 2) := by decide +kernel
theorem dX0_forceOn_61 : decode cX0_forceOn 61 = .ok (.iload_n 3, 1) := by decide +kernel
theorem dX0_forceOn_62 : decode cX0_forceOn 62 = .ok (.invokevirtual 45, 3) := by decide +kernel
theorem dX0_forceOn_65 : decode cX0_forceOn 65 = .ok (.isub, 1) := by decide +kernel
theorem dX0_forceOn_66 : decode cX0_forceOn 66 = .ok (.istore 7, 2) := by decide +kernel
theorem dX0_forceOn_68 : decode cX0_forceOn 68 = .ok (.aload_n 0, 1) := by decide +kernel
theorem dX0_forceOn_69 : decode cX0_forceOn 69 = .ok (.iload_n 1, 1) := by decide +kernel
theorem dX0_forceOn_70 : decode cX0_forceOn 70 = .ok (.iconst 1, 1) := by decide +kernel
theorem dX0_forceOn_71 : decode cX0_forceOn 71 = .ok (.iload_n 3, 1) := by decide +kernel
theorem dX0_forceOn_72 : decode cX0_forceOn 72 = .ok (.isub, 1) := by decide +kernel
theorem dX0_forceOn_73 : decode cX0_forceOn 73 = .ok (.invokevirtual 45, 3) := by decide +kernel
theorem dX0_forceOn_76 : decode cX0_forceOn 76 = .ok (.aload_n 0, 1) := by decide +kernel
theorem dX0_forceOn_77 : decode cX0_forceOn 77 = .ok (.iload 6, 2) := by decide +kernel
theorem dX0_forceOn_79 : decode cX0_forceOn 79 = .ok (.iconst 1, 1) := by decide +kernel
theorem dX0_forceOn_80 : decode cX0_forceOn 80 = .ok (.iload_n 3, 1) := by decide +kernel
theorem dX0_forceOn_81 : decode cX0_forceOn 81 = .ok (.isub, 1) := by decide +kernel
theorem dX0_forceOn_82 : decode cX0_forceOn 82 = .ok (.invokevirtual 45, 3) := by decide +kernel
theorem dX0_forceOn_85 : decode cX0_forceOn 85 = .ok (.isub, 1) := by decide +kernel
theorem dX0_forceOn_86 : decode cX0_forceOn 86 = .ok (.istore 8, 2) := by decide +kernel
theorem dX0_forceOn_88 : decode cX0_forceOn 88 = .ok (.iload 5, 2) := by decide +kernel
theorem dX0_forceOn_90 : decode cX0_forceOn 90 = .ok (.aload_n 2, 1) := by decide +kernel
theorem dX0_forceOn_91 : decode cX0_forceOn 91 = .ok (.iconst 3, 1) := by decide +kernel
theorem dX0_forceOn_92 : decode cX0_forceOn 92 = .ok (.iaload, 1) := by decide +kernel
theorem dX0_forceOn_93 : decode cX0_forceOn 93 = .ok (.iload 4, 2) := by decide +kernel
theorem dX0_forceOn_95 : decode cX0_forceOn 95 = .ok (.aload_n 0, 1) := by decide +kernel
theorem dX0_forceOn_96 : decode cX0_forceOn 96 = .ok (.iload 6, 2) := by decide +kernel
theorem dX0_forceOn_98 : decode cX0_forceOn 98 = .ok (.iload_n 3, 1) := by decide +kernel
theorem dX0_forceOn_99 : decode cX0_forceOn 99 = .ok (.invokevirtual 38, 3) := by decide +kernel
theorem dX0_forceOn_102 : decode cX0_forceOn 102 = .ok (.imul, 1) := by decide +kernel
theorem dX0_forceOn_103 : decode cX0_forceOn 103 = .ok (.iload 7, 2) := by decide +kernel
theorem dX0_forceOn_105 : decode cX0_forceOn 105 = .ok (.iload 8, 2) := by decide +kernel
theorem dX0_forceOn_107 : decode cX0_forceOn 107 = .ok (.invokestatic 52, 3) := by decide +kernel
theorem dX0_forceOn_110 : decode cX0_forceOn 110 = .ok (.iadd, 1) := by decide +kernel
theorem dX0_forceOn_111 : decode cX0_forceOn 111 = .ok (.istore 5, 2) := by decide +kernel
theorem dX0_forceOn_113 : decode cX0_forceOn 113 = .ok (.iinc 6 1, 3) := by decide +kernel
theorem dX0_forceOn_116 : decode cX0_forceOn 116 = .ok (.goto (-79), 3) := by decide +kernel
theorem dX0_forceOn_119 : decode cX0_forceOn 119 = .ok (.iload 5, 2) := by decide +kernel
theorem dX0_forceOn_121 : decode cX0_forceOn 121 = .ok (.ireturn, 1) := by decide +kernel
theorem dX0_greatestForce_0 : decode cX0_greatestForce 0 = .ok (.iconst 0, 1) := by decide +kernel
theorem dX0_greatestForce_1 : decode cX0_greatestForce 1 = .ok (.istore_n 2, 1) := by decide +kernel
theorem dX0_greatestForce_2 : decode cX0_greatestForce 2 = .ok (.iconst 0, 1) := by decide +kernel
theorem dX0_greatestForce_3 : decode cX0_greatestForce 3 = .ok (.istore_n 3, 1) := by decide +kernel
theorem dX0_greatestForce_4 : decode cX0_greatestForce 4 = .ok (.iload_n 3, 1) := by decide +kernel
theorem dX0_greatestForce_5 : decode cX0_greatestForce 5 = .ok (.aload_n 0, 1) := by decide +kernel
theorem dX0_greatestForce_6 : decode cX0_greatestForce 6 = .ok (.getfield 18, 3) := by decide +kernel
theorem dX0_greatestForce_9 : decode cX0_greatestForce 9 = .ok (.if_icmp .ge 23, 3) := by decide +kernel
theorem dX0_greatestForce_12 : decode cX0_greatestForce 12 = .ok (.iload_n 2, 1) := by decide +kernel
theorem dX0_greatestForce_13 : decode cX0_greatestForce 13 = .ok (.aload_n 0, 1) := by decide +kernel
theorem dX0_greatestForce_14 : decode cX0_greatestForce 14 = .ok (.iload_n 3, 1) := by decide +kernel
theorem dX0_greatestForce_15 : decode cX0_greatestForce 15 = .ok (.aload_n 1, 1) := by decide +kernel
theorem dX0_greatestForce_16 : decode cX0_greatestForce 16 = .ok (.invokevirtual 66, 3) := by decide +kernel
theorem dX0_greatestForce_19 : decode cX0_greatestForce 19 = .ok (.invokestatic 61, 3) := by decide +kernel
theorem dX0_greatestForce_22 : decode cX0_greatestForce 22 = .ok (.invokestatic 70, 3) := by decide +kernel
theorem dX0_greatestForce_25 : decode cX0_greatestForce 25 = .ok (.istore_n 2, 1) := by decide +kernel
theorem dX0_greatestForce_26 : decode cX0_greatestForce 26 = .ok (.iinc 3 1, 3) := by decide +kernel
theorem dX0_greatestForce_29 : decode cX0_greatestForce 29 = .ok (.goto (-25), 3) := by decide +kernel
theorem dX0_greatestForce_32 : decode cX0_greatestForce 32 = .ok (.iload_n 2, 1) := by decide +kernel
theorem dX0_greatestForce_33 : decode cX0_greatestForce 33 = .ok (.ireturn, 1) := by decide +kernel
theorem dX0_greatestNumber_0 : decode cX0_greatestNumber 0 = .ok (.iconst 0, 1) := by decide +kernel
theorem dX0_greatestNumber_1 : decode cX0_greatestNumber 1 = .ok (.istore_n 1, 1) := by decide +kernel
theorem dX0_greatestNumber_2 : decode cX0_greatestNumber 2 = .ok (.iconst 0, 1) := by decide +kernel
theorem dX0_greatestNumber_3 : decode cX0_greatestNumber 3 = .ok (.istore_n 2, 1) := by decide +kernel
theorem dX0_greatestNumber_4 : decode cX0_greatestNumber 4 = .ok (.iload_n 2, 1) := by decide +kernel
theorem dX0_greatestNumber_5 : decode cX0_greatestNumber 5 = .ok (.aload_n 0, 1) := by decide +kernel
theorem dX0_greatestNumber_6 : decode cX0_greatestNumber 6 = .ok (.getfield 18, 3) := by decide +kernel
theorem dX0_greatestNumber_9 : decode cX0_greatestNumber 9 = .ok (.if_icmp .ge 35, 3) := by decide +kernel
theorem dX0_greatestNumber_12 : decode cX0_greatestNumber 12 = .ok (.iload_n 1, 1) := by decide +kernel
theorem dX0_greatestNumber_13 : decode cX0_greatestNumber 13 = .ok (.aload_n 0, 1) := by decide +kernel
theorem dX0_greatestNumber_14 : decode cX0_greatestNumber 14 = .ok (.iload_n 2, 1) := by decide +kernel
theorem dX0_greatestNumber_15 : decode cX0_greatestNumber 15 = .ok (.iconst 0, 1) := by decide +kernel
theorem dX0_greatestNumber_16 : decode cX0_greatestNumber 16 = .ok (.invokevirtual 38, 3) := by decide +kernel
theorem dX0_greatestNumber_19 : decode cX0_greatestNumber 19 = .ok (.invokestatic 61, 3) := by decide +kernel
theorem dX0_greatestNumber_22 : decode cX0_greatestNumber 22 = .ok (.aload_n 0, 1) := by decide +kernel
theorem dX0_greatestNumber_23 : decode cX0_greatestNumber 23 = .ok (.iload_n 2, 1) := by decide +kernel
theorem dX0_greatestNumber_24 : decode cX0_greatestNumber 24 = .ok (.iconst 1, 1) := by decide +kernel
theorem dX0_greatestNumber_25 : decode cX0_greatestNumber 25 = .ok (.invokevirtual 38, 3) := by decide +kernel
theorem dX0_greatestNumber_28 : decode cX0_greatestNumber 28 = .ok (.invokestatic 61, 3) := by decide +kernel
theorem dX0_greatestNumber_31 : decode cX0_greatestNumber 31 = .ok (.invokestatic 70, 3) := by decide +kernel
theorem dX0_greatestNumber_34 : decode cX0_greatestNumber 34 = .ok (.invokestatic 70, 3) := by decide +kernel
theorem dX0_greatestNumber_37 : decode cX0_greatestNumber 37 = .ok (.istore_n 1, 1) := by decide +kernel
theorem dX0_greatestNumber_38 : decode cX0_greatestNumber 38 = .ok (.iinc 2 1, 3) := by decide +kernel
theorem dX0_greatestNumber_41 : decode cX0_greatestNumber 41 = .ok (.goto (-37), 3) := by decide +kernel
theorem dX0_greatestNumber_44 : decode cX0_greatestNumber 44 = .ok (.iload_n 1, 1) := by decide +kernel
theorem dX0_greatestNumber_45 : decode cX0_greatestNumber 45 = .ok (.ireturn, 1) := by decide +kernel
theorem dX0_has_0 : decode cX0_has 0 = .ok (.iload_n 1, 1) := by decide +kernel
theorem dX0_has_1 : decode cX0_has 1 = .ok (.ifCond .lt 30, 3) := by decide +kernel
theorem dX0_has_4 : decode cX0_has 4 = .ok (.iload_n 1, 1) := by decide +kernel
theorem dX0_has_5 : decode cX0_has 5 = .ok (.aload_n 0, 1) := by decide +kernel
theorem dX0_has_6 : decode cX0_has 6 = .ok (.getfield 18, 3) := by decide +kernel
theorem dX0_has_9 : decode cX0_has 9 = .ok (.if_icmp .ge 22, 3) := by decide +kernel
theorem dX0_has_12 : decode cX0_has 12 = .ok (.iload_n 1, 1) := by decide +kernel
theorem dX0_has_13 : decode cX0_has 13 = .ok (.bipush 12, 2) := by decide +kernel
theorem dX0_has_15 : decode cX0_has 15 = .ok (.if_icmp .ge 16, 3) := by decide +kernel
theorem dX0_has_18 : decode cX0_has 18 = .ok (.iload_n 2, 1) := by decide +kernel
theorem dX0_has_19 : decode cX0_has 19 = .ok (.ifCond .eq 8, 3) := by decide +kernel
theorem dX0_has_22 : decode cX0_has 22 = .ok (.iload_n 2, 1) := by decide +kernel
theorem dX0_has_23 : decode cX0_has 23 = .ok (.iconst 1, 1) := by decide +kernel
theorem dX0_has_24 : decode cX0_has 24 = .ok (.if_icmp .ne 7, 3) := by decide +kernel
theorem dX0_has_27 : decode cX0_has 27 = .ok (.iconst 1, 1) := by decide +kernel
theorem dX0_has_28 : decode cX0_has 28 = .ok (.goto 4, 3) := by decide +kernel
theorem dX0_has_31 : decode cX0_has 31 = .ok (.iconst 0, 1) := by decide +kernel
theorem dX0_has_32 : decode cX0_has 32 = .ok (.ireturn, 1) := by decide +kernel
theorem dX0_hasOpposite_0 : decode cX0_hasOpposite 0 = .ok (.iconst 0, 1) := by decide +kernel
theorem dX0_hasOpposite_1 : decode cX0_hasOpposite 1 = .ok (.istore_n 2, 1) := by decide +kernel
theorem dX0_hasOpposite_2 : decode cX0_hasOpposite 2 = .ok (.iload_n 2, 1) := by decide +kernel
theorem dX0_hasOpposite_3 : decode cX0_hasOpposite 3 = .ok (.aload_n 0, 1) := by decide +kernel
theorem dX0_hasOpposite_4 : decode cX0_hasOpposite 4 = .ok (.getfield 18, 3) := by decide +kernel
theorem dX0_hasOpposite_7 : decode cX0_hasOpposite 7 = .ok (.if_icmp .ge 25, 3) := by decide +kernel
theorem dX0_hasOpposite_10 : decode cX0_hasOpposite 10 = .ok (.iload_n 2, 1) := by decide +kernel
theorem dX0_hasOpposite_11 : decode cX0_hasOpposite 11 = .ok (.iload_n 1, 1) := by decide +kernel
theorem dX0_hasOpposite_12 : decode cX0_hasOpposite 12 = .ok (.if_icmp .eq 14, 3) := by decide +kernel
theorem dX0_hasOpposite_15 : decode cX0_hasOpposite 15 = .ok (.aload_n 0, 1) := by decide +kernel
theorem dX0_hasOpposite_16 : decode cX0_hasOpposite 16 = .ok (.iload_n 1, 1) := by decide +kernel
theorem dX0_hasOpposite_17 : decode cX0_hasOpposite 17 = .ok (.iload_n 2, 1) := by decide +kernel
theorem dX0_hasOpposite_18 : decode cX0_hasOpposite 18 = .ok (.invokevirtual 83, 3) := by decide +kernel
theorem dX0_hasOpposite_21 : decode cX0_hasOpposite 21 = .ok (.ifCond .eq 5, 3) := by decide +kernel
theorem dX0_hasOpposite_24 : decode cX0_hasOpposite 24 = .ok (.iconst 1, 1) := by decide +kernel
theorem dX0_hasOpposite_25 : decode cX0_hasOpposite 25 = .ok (.ireturn, 1) := by decide +kernel
theorem dX0_hasOpposite_26 : decode cX0_hasOpposite 26 = .ok (.iinc 2 1, 3) := by decide +kernel
theorem dX0_hasOpposite_29 : decode cX0_hasOpposite 29 = .ok (.goto (-27), 3) := by decide +kernel
theorem dX0_hasOpposite_32 : decode cX0_hasOpposite 32 = .ok (.iconst 0, 1) := by decide +kernel
theorem dX0_hasOpposite_33 : decode cX0_hasOpposite 33 = .ok (.ireturn, 1) := by decide +kernel
theorem dX0_inBox_0 : decode cX0_inBox 0 = .ok (.iconst 0, 1) := by decide +kernel
theorem dX0_inBox_1 : decode cX0_inBox 1 = .ok (.istore 5, 2) := by decide +kernel
theorem dX0_inBox_3 : decode cX0_inBox 3 = .ok (.iconst 0, 1) := by decide +kernel
theorem dX0_inBox_4 : decode cX0_inBox 4 = .ok (.istore 6, 2) := by decide +kernel
theorem dX0_inBox_6 : decode cX0_inBox 6 = .ok (.iload 6, 2) := by decide +kernel
theorem dX0_inBox_8 : decode cX0_inBox 8 = .ok (.aload_n 0, 1) := by decide +kernel
theorem dX0_inBox_9 : decode cX0_inBox 9 = .ok (.getfield 18, 3) := by decide +kernel
theorem dX0_inBox_12 : decode cX0_inBox 12 = .ok (.if_icmp .ge 55, 3) := by decide +kernel
theorem dX0_inBox_15 : decode cX0_inBox 15 = .ok (.aload_n 0, 1) := by decide +kernel
theorem dX0_inBox_16 : decode cX0_inBox 16 = .ok (.iload 6, 2) := by decide +kernel
theorem dX0_inBox_18 : decode cX0_inBox 18 = .ok (.iconst 0, 1) := by decide +kernel
theorem dX0_inBox_19 : decode cX0_inBox 19 = .ok (.invokevirtual 45, 3) := by decide +kernel
theorem dX0_inBox_22 : decode cX0_inBox 22 = .ok (.istore 7, 2) := by decide +kernel
theorem dX0_inBox_24 : decode cX0_inBox 24 = .ok (.aload_n 0, 1) := by decide +kernel
theorem dX0_inBox_25 : decode cX0_inBox 25 = .ok (.iload 6, 2) := by decide +kernel
theorem dX0_inBox_27 : decode cX0_inBox 27 = .ok (.iconst 1, 1) := by decide +kernel
theorem dX0_inBox_28 : decode cX0_inBox 28 = .ok (.invokevirtual 45, 3) := by decide +kernel
theorem dX0_inBox_31 : decode cX0_inBox 31 = .ok (.istore 8, 2) := by decide +kernel
theorem dX0_inBox_33 : decode cX0_inBox 33 = .ok (.iload 7, 2) := by decide +kernel
theorem dX0_inBox_35 : decode cX0_inBox 35 = .ok (.iload_n 1, 1) := by decide +kernel
theorem dX0_inBox_36 : decode cX0_inBox 36 = .ok (.if_icmp .lt 25, 3) := by decide +kernel
theorem dX0_inBox_39 : decode cX0_inBox 39 = .ok (.iload 7, 2) := by decide +kernel
theorem dX0_inBox_41 : decode cX0_inBox 41 = .ok (.iload_n 3, 1) := by decide +kernel
theorem dX0_inBox_42 : decode cX0_inBox 42 = .ok (.if_icmp .ge 19, 3) := by decide +kernel
theorem dX0_inBox_45 : decode cX0_inBox 45 = .ok (.iload 8, 2) := by decide +kernel
theorem dX0_inBox_47 : decode cX0_inBox 47 = .ok (.iload_n 2, 1) := by decide +kernel
theorem dX0_inBox_48 : decode cX0_inBox 48 = .ok (.if_icmp .lt 13, 3) := by decide +kernel
theorem dX0_inBox_51 : decode cX0_inBox 51 = .ok (.iload 8, 2) := by decide +kernel
theorem dX0_inBox_53 : decode cX0_inBox 53 = .ok (.iload 4, 2) := by decide +kernel
theorem dX0_inBox_55 : decode cX0_inBox 55 = .ok (.if_icmp .ge 6, 3) := by decide +kernel
theorem dX0_inBox_58 : decode cX0_inBox 58 = .ok (.iinc 5 1, 3) := by decide +kernel
theorem dX0_inBox_61 : decode cX0_inBox 61 = .ok (.iinc 6 1, 3) := by decide +kernel
theorem dX0_inBox_64 : decode cX0_inBox 64 = .ok (.goto (-58), 3) := by decide +kernel
theorem dX0_inBox_67 : decode cX0_inBox 67 = .ok (.iload 5, 2) := by decide +kernel
theorem dX0_inBox_69 : decode cX0_inBox 69 = .ok (.ireturn, 1) := by decide +kernel
theorem dX0_indexAt_0 : decode cX0_indexAt 0 = .ok (.iconst 0, 1) := by decide +kernel
theorem dX0_indexAt_1 : decode cX0_indexAt 1 = .ok (.istore_n 3, 1) := by decide +kernel
theorem dX0_indexAt_2 : decode cX0_indexAt 2 = .ok (.iload_n 3, 1) := by decide +kernel
theorem dX0_indexAt_3 : decode cX0_indexAt 3 = .ok (.aload_n 0, 1) := by decide +kernel
theorem dX0_indexAt_4 : decode cX0_indexAt 4 = .ok (.getfield 18, 3) := by decide +kernel
theorem dX0_indexAt_7 : decode cX0_indexAt 7 = .ok (.if_icmp .ge 31, 3) := by decide +kernel
theorem dX0_indexAt_10 : decode cX0_indexAt 10 = .ok (.aload_n 0, 1) := by decide +kernel
theorem dX0_indexAt_11 : decode cX0_indexAt 11 = .ok (.iload_n 3, 1) := by decide +kernel
theorem dX0_indexAt_12 : decode cX0_indexAt 12 = .ok (.iconst 0, 1) := by decide +kernel
theorem dX0_indexAt_13 : decode cX0_indexAt 13 = .ok (.invokevirtual 45, 3) := by decide +kernel
theorem dX0_indexAt_16 : decode cX0_indexAt 16 = .ok (.iload_n 1, 1) := by decide +kernel
theorem dX0_indexAt_17 : decode cX0_indexAt 17 = .ok (.if_icmp .ne 15, 3) := by decide +kernel
theorem dX0_indexAt_20 : decode cX0_indexAt 20 = .ok (.aload_n 0, 1) := by decide +kernel
theorem dX0_indexAt_21 : decode cX0_indexAt 21 = .ok (.iload_n 3, 1) := by decide +kernel
theorem dX0_indexAt_22 : decode cX0_indexAt 22 = .ok (.iconst 1, 1) := by decide +kernel
theorem dX0_indexAt_23 : decode cX0_indexAt 23 = .ok (.invokevirtual 45, 3) := by decide +kernel
theorem dX0_indexAt_26 : decode cX0_indexAt 26 = .ok (.iload_n 2, 1) := by decide +kernel
theorem dX0_indexAt_27 : decode cX0_indexAt 27 = .ok (.if_icmp .ne 5, 3) := by decide +kernel
theorem dX0_indexAt_30 : decode cX0_indexAt 30 = .ok (.iload_n 3, 1) := by decide +kernel
theorem dX0_indexAt_31 : decode cX0_indexAt 31 = .ok (.ireturn, 1) := by decide +kernel
theorem dX0_indexAt_32 : decode cX0_indexAt 32 = .ok (.iinc 3 1, 3) := by decide +kernel
theorem dX0_indexAt_35 : decode cX0_indexAt 35 = .ok (.goto (-33), 3) := by decide +kernel
theorem dX0_indexAt_38 : decode cX0_indexAt 38 = .ok (.iconst (-1), 1) := by decide +kernel
theorem dX0_indexAt_39 : decode cX0_indexAt 39 = .ok (.ireturn, 1) := by decide +kernel
theorem dX0_init_0 : decode cX0_init 0 = .ok (.aload_n 0, 1) := by decide +kernel
theorem dX0_init_1 : decode cX0_init 1 = .ok (.invokespecial 3, 3) := by decide +kernel
theorem dX0_init_4 : decode cX0_init 4 = .ok (.aload_n 0, 1) := by decide +kernel
theorem dX0_init_5 : decode cX0_init 5 = .ok (.bipush 24, 2) := by decide +kernel
theorem dX0_init_7 : decode cX0_init 7 = .ok (.newarray .int, 2) := by decide +kernel
theorem dX0_init_9 : decode cX0_init 9 = .ok (.putfield 9, 3) := by decide +kernel
theorem dX0_init_12 : decode cX0_init 12 = .ok (.aload_n 0, 1) := by decide +kernel
theorem dX0_init_13 : decode cX0_init 13 = .ok (.bipush 24, 2) := by decide +kernel
theorem dX0_init_15 : decode cX0_init 15 = .ok (.newarray .int, 2) := by decide +kernel
theorem dX0_init_17 : decode cX0_init 17 = .ok (.putfield 15, 3) := by decide +kernel
theorem dX0_init_20 : decode cX0_init 20 = .ok (.return_, 1) := by decide +kernel
theorem dX0_mostAlike_0 : decode cX0_mostAlike 0 = .ok (.iconst 0, 1) := by decide +kernel
theorem dX0_mostAlike_1 : decode cX0_mostAlike 1 = .ok (.istore_n 1, 1) := by decide +kernel
theorem dX0_mostAlike_2 : decode cX0_mostAlike 2 = .ok (.iconst 0, 1) := by decide +kernel
theorem dX0_mostAlike_3 : decode cX0_mostAlike 3 = .ok (.istore_n 2, 1) := by decide +kernel
theorem dX0_mostAlike_4 : decode cX0_mostAlike 4 = .ok (.iload_n 2, 1) := by decide +kernel
theorem dX0_mostAlike_5 : decode cX0_mostAlike 5 = .ok (.aload_n 0, 1) := by decide +kernel
theorem dX0_mostAlike_6 : decode cX0_mostAlike 6 = .ok (.getfield 18, 3) := by decide +kernel
theorem dX0_mostAlike_9 : decode cX0_mostAlike 9 = .ok (.if_icmp .ge 19, 3) := by decide +kernel
theorem dX0_mostAlike_12 : decode cX0_mostAlike 12 = .ok (.iload_n 1, 1) := by decide +kernel
theorem dX0_mostAlike_13 : decode cX0_mostAlike 13 = .ok (.aload_n 0, 1) := by decide +kernel
theorem dX0_mostAlike_14 : decode cX0_mostAlike 14 = .ok (.iload_n 2, 1) := by decide +kernel
theorem dX0_mostAlike_15 : decode cX0_mostAlike 15 = .ok (.invokevirtual 90, 3) := by decide +kernel
theorem dX0_mostAlike_18 : decode cX0_mostAlike 18 = .ok (.invokestatic 70, 3) := by decide +kernel
theorem dX0_mostAlike_21 : decode cX0_mostAlike 21 = .ok (.istore_n 1, 1) := by decide +kernel
theorem dX0_mostAlike_22 : decode cX0_mostAlike 22 = .ok (.iinc 2 1, 3) := by decide +kernel
theorem dX0_mostAlike_25 : decode cX0_mostAlike 25 = .ok (.goto (-21), 3) := by decide +kernel
theorem dX0_mostAlike_28 : decode cX0_mostAlike 28 = .ok (.iload_n 1, 1) := by decide +kernel
theorem dX0_mostAlike_29 : decode cX0_mostAlike 29 = .ok (.ireturn, 1) := by decide +kernel
theorem dX0_mostForced_0 : decode cX0_mostForced 0 = .ok (.aload_n 0, 1) := by decide +kernel
theorem dX0_mostForced_1 : decode cX0_mostForced 1 = .ok (.aload_n 1, 1) := by decide +kernel
theorem dX0_mostForced_2 : decode cX0_mostForced 2 = .ok (.invokevirtual 73, 3) := by decide +kernel
theorem dX0_mostForced_5 : decode cX0_mostForced 5 = .ok (.istore_n 2, 1) := by decide +kernel
theorem dX0_mostForced_6 : decode cX0_mostForced 6 = .ok (.iconst 0, 1) := by decide +kernel
theorem dX0_mostForced_7 : decode cX0_mostForced 7 = .ok (.istore_n 3, 1) := by decide +kernel
theorem dX0_mostForced_8 : decode cX0_mostForced 8 = .ok (.iload_n 3, 1) := by decide +kernel
theorem dX0_mostForced_9 : decode cX0_mostForced 9 = .ok (.aload_n 0, 1) := by decide +kernel
theorem dX0_mostForced_10 : decode cX0_mostForced 10 = .ok (.getfield 18, 3) := by decide +kernel
theorem dX0_mostForced_13 : decode cX0_mostForced 13 = .ok (.if_icmp .ge 24, 3) := by decide +kernel
theorem dX0_mostForced_16 : decode cX0_mostForced 16 = .ok (.aload_n 0, 1) := by decide +kernel
theorem dX0_mostForced_17 : decode cX0_mostForced 17 = .ok (.iload_n 3, 1) := by decide +kernel
theorem dX0_mostForced_18 : decode cX0_mostForced 18 = .ok (.aload_n 1, 1) := by decide +kernel
theorem dX0_mostForced_19 : decode cX0_mostForced 19 = .ok (.invokevirtual 66, 3) := by decide +kernel
theorem dX0_mostForced_22 : decode cX0_mostForced 22 = .ok (.invokestatic 61, 3) := by decide +kernel
theorem dX0_mostForced_25 : decode cX0_mostForced 25 = .ok (.iload_n 2, 1) := by decide +kernel
theorem dX0_mostForced_26 : decode cX0_mostForced 26 = .ok (.if_icmp .ne 5, 3) := by decide +kernel
theorem dX0_mostForced_29 : decode cX0_mostForced 29 = .ok (.iload_n 3, 1) := by decide +kernel
theorem dX0_mostForced_30 : decode cX0_mostForced 30 = .ok (.ireturn, 1) := by decide +kernel
theorem dX0_mostForced_31 : decode cX0_mostForced 31 = .ok (.iinc 3 1, 3) := by decide +kernel
theorem dX0_mostForced_34 : decode cX0_mostForced 34 = .ok (.goto (-26), 3) := by decide +kernel
theorem dX0_mostForced_37 : decode cX0_mostForced 37 = .ok (.iconst (-1), 1) := by decide +kernel
theorem dX0_mostForced_38 : decode cX0_mostForced 38 = .ok (.ireturn, 1) := by decide +kernel
theorem dX0_nearestPair_0 : decode cX0_nearestPair 0 = .ok (.iconst (-1), 1) := by decide +kernel
theorem dX0_nearestPair_1 : decode cX0_nearestPair 1 = .ok (.istore_n 1, 1) := by decide +kernel
theorem dX0_nearestPair_2 : decode cX0_nearestPair 2 = .ok (.iconst 0, 1) := by decide +kernel
theorem dX0_nearestPair_3 : decode cX0_nearestPair 3 = .ok (.istore_n 2, 1) := by decide +kernel
theorem dX0_nearestPair_4 : decode cX0_nearestPair 4 = .ok (.iload_n 2, 1) := by decide +kernel
theorem dX0_nearestPair_5 : decode cX0_nearestPair 5 = .ok (.aload_n 0, 1) := by decide +kernel
theorem dX0_nearestPair_6 : decode cX0_nearestPair 6 = .ok (.getfield 18, 3) := by decide +kernel
theorem dX0_nearestPair_9 : decode cX0_nearestPair 9 = .ok (.if_icmp .ge 53, 3) := by decide +kernel
theorem dX0_nearestPair_12 : decode cX0_nearestPair 12 = .ok (.iload_n 2, 1) := by decide +kernel
theorem dX0_nearestPair_13 : decode cX0_nearestPair 13 = .ok (.iconst 1, 1) := by decide +kernel
theorem dX0_nearestPair_14 : decode cX0_nearestPair 14 = .ok (.iadd, 1) := by decide +kernel
theorem dX0_nearestPair_15 : decode cX0_nearestPair 15 = .ok (.istore_n 3, 1) := by decide +kernel
theorem dX0_nearestPair_16 : decode cX0_nearestPair 16 = .ok (.iload_n 3, 1) := by decide +kernel
theorem dX0_nearestPair_17 : decode cX0_nearestPair 17 = .ok (.aload_n 0, 1) := by decide +kernel
theorem dX0_nearestPair_18 : decode cX0_nearestPair 18 = .ok (.getfield 18, 3) := by decide +kernel
theorem dX0_nearestPair_21 : decode cX0_nearestPair 21 = .ok (.if_icmp .ge 35, 3) := by decide +kernel
theorem dX0_nearestPair_24 : decode cX0_nearestPair 24 = .ok (.iload_n 1, 1) := by decide +kernel
theorem dX0_nearestPair_25 : decode cX0_nearestPair 25 = .ok (.iconst (-1), 1) := by decide +kernel
theorem dX0_nearestPair_26 : decode cX0_nearestPair 26 = .ok (.if_icmp .eq 17, 3) := by decide +kernel
theorem dX0_nearestPair_29 : decode cX0_nearestPair 29 = .ok (.aload_n 0, 1) := by decide +kernel
theorem dX0_nearestPair_30 : decode cX0_nearestPair 30 = .ok (.iload_n 2, 1) := by decide +kernel
theorem dX0_nearestPair_31 : decode cX0_nearestPair 31 = .ok (.iload_n 3, 1) := by decide +kernel
theorem dX0_nearestPair_32 : decode cX0_nearestPair 32 = .ok (.invokevirtual 80, 3) := by decide +kernel
theorem dX0_nearestPair_35 : decode cX0_nearestPair 35 = .ok (.aload_n 0, 1) := by decide +kernel
theorem dX0_nearestPair_36 : decode cX0_nearestPair 36 = .ok (.iload_n 1, 1) := by decide +kernel
theorem dX0_nearestPair_37 : decode cX0_nearestPair 37 = .ok (.invokevirtual 97, 3) := by decide +kernel
theorem dX0_nearestPair_40 : decode cX0_nearestPair 40 = .ok (.if_icmp .ge 10, 3) := by decide +kernel
theorem dX0_nearestPair_43 : decode cX0_nearestPair 43 = .ok (.bipush 16, 2) := by decide +kernel
theorem dX0_nearestPair_45 : decode cX0_nearestPair 45 = .ok (.iload_n 2, 1) := by decide +kernel
theorem dX0_nearestPair_46 : decode cX0_nearestPair 46 = .ok (.imul, 1) := by decide +kernel
theorem dX0_nearestPair_47 : decode cX0_nearestPair 47 = .ok (.iload_n 3, 1) := by decide +kernel
theorem dX0_nearestPair_48 : decode cX0_nearestPair 48 = .ok (.iadd, 1) := by decide +kernel
theorem dX0_nearestPair_49 : decode cX0_nearestPair 49 = .ok (.istore_n 1, 1) := by decide +kernel
theorem dX0_nearestPair_50 : decode cX0_nearestPair 50 = .ok (.iinc 3 1, 3) := by decide +kernel
theorem dX0_nearestPair_53 : decode cX0_nearestPair 53 = .ok (.goto (-37), 3) := by decide +kernel
theorem dX0_nearestPair_56 : decode cX0_nearestPair 56 = .ok (.iinc 2 1, 3) := by decide +kernel
theorem dX0_nearestPair_59 : decode cX0_nearestPair 59 = .ok (.goto (-55), 3) := by decide +kernel
theorem dX0_nearestPair_62 : decode cX0_nearestPair 62 = .ok (.iload_n 1, 1) := by decide +kernel
theorem dX0_nearestPair_63 : decode cX0_nearestPair 63 = .ok (.ireturn, 1) := by decide +kernel
theorem dX0_nextAlong_0 : decode cX0_nextAlong 0 = .ok (.iconst (-1), 1) := by decide +kernel
theorem dX0_nextAlong_1 : decode cX0_nextAlong 1 = .ok (.istore 4, 2) := by decide +kernel
theorem dX0_nextAlong_3 : decode cX0_nextAlong 3 = .ok (.bipush 9, 2) := by decide +kernel
theorem dX0_nextAlong_5 : decode cX0_nextAlong 5 = .ok (.istore 5, 2) := by decide +kernel
theorem dX0_nextAlong_7 : decode cX0_nextAlong 7 = .ok (.iconst 0, 1) := by decide +kernel
theorem dX0_nextAlong_8 : decode cX0_nextAlong 8 = .ok (.istore 6, 2) := by decide +kernel
theorem dX0_nextAlong_10 : decode cX0_nextAlong 10 = .ok (.iload 6, 2) := by decide +kernel
theorem dX0_nextAlong_12 : decode cX0_nextAlong 12 = .ok (.aload_n 0, 1) := by decide +kernel
theorem dX0_nextAlong_13 : decode cX0_nextAlong 13 = .ok (.getfield 18, 3) := by decide +kernel
theorem dX0_nextAlong_16 : decode cX0_nextAlong 16 = .ok (.if_icmp .ge 67, 3) := by decide +kernel
theorem dX0_nextAlong_19 : decode cX0_nextAlong 19 = .ok (.iload_n 3, 1) := by decide +kernel
theorem dX0_nextAlong_20 : decode cX0_nextAlong 20 = .ok (.aload_n 0, 1) := by decide +kernel
theorem dX0_nextAlong_21 : decode cX0_nextAlong 21 = .ok (.iload 6, 2) := by decide +kernel
theorem dX0_nextAlong_23 : decode cX0_nextAlong 23 = .ok (.iload_n 2, 1) := by decide +kernel
theorem dX0_nextAlong_24 : decode cX0_nextAlong 24 = .ok (.invokevirtual 45, 3) := by decide +kernel
theorem dX0_nextAlong_27 : decode cX0_nextAlong 27 = .ok (.aload_n 0, 1) := by decide +kernel
theorem dX0_nextAlong_28 : decode cX0_nextAlong 28 = .ok (.iload_n 1, 1) := by decide +kernel
theorem dX0_nextAlong_29 : decode cX0_nextAlong 29 = .ok (.iload_n 2, 1) := by decide +kernel
theorem dX0_nextAlong_30 : decode cX0_nextAlong 30 = .ok (.invokevirtual 45, 3) := by decide +kernel
theorem dX0_nextAlong_33 : decode cX0_nextAlong 33 = .ok (.isub, 1) := by decide +kernel
theorem dX0_nextAlong_34 : decode cX0_nextAlong 34 = .ok (.imul, 1) := by decide +kernel
theorem dX0_nextAlong_35 : decode cX0_nextAlong 35 = .ok (.istore 7, 2) := by decide +kernel
theorem dX0_nextAlong_37 : decode cX0_nextAlong 37 = .ok (.aload_n 0, 1) := by decide +kernel
theorem dX0_nextAlong_38 : decode cX0_nextAlong 38 = .ok (.iload 6, 2) := by decide +kernel
theorem dX0_nextAlong_40 : decode cX0_nextAlong 40 = .ok (.iconst 1, 1) := by decide +kernel
theorem dX0_nextAlong_41 : decode cX0_nextAlong 41 = .ok (.iload_n 2, 1) := by decide +kernel
theorem dX0_nextAlong_42 : decode cX0_nextAlong 42 = .ok (.isub, 1) := by decide +kernel
theorem dX0_nextAlong_43 : decode cX0_nextAlong 43 = .ok (.invokevirtual 45, 3) := by decide +kernel
theorem dX0_nextAlong_46 : decode cX0_nextAlong 46 = .ok (.aload_n 0, 1) := by decide +kernel
theorem dX0_nextAlong_47 : decode cX0_nextAlong 47 = .ok (.iload_n 1, 1) := by decide +kernel
theorem dX0_nextAlong_48 : decode cX0_nextAlong 48 = .ok (.iconst 1, 1) := by decide +kernel
theorem dX0_nextAlong_49 : decode cX0_nextAlong 49 = .ok (.iload_n 2, 1) := by decide +kernel
theorem dX0_nextAlong_50 : decode cX0_nextAlong 50 = .ok (.isub, 1) := by decide +kernel
theorem dX0_nextAlong_51 : decode cX0_nextAlong 51 = .ok (.invokevirtual 45, 3) := by decide +kernel
theorem dX0_nextAlong_54 : decode cX0_nextAlong 54 = .ok (.if_icmp .ne 23, 3) := by decide +kernel
theorem dX0_nextAlong_57 : decode cX0_nextAlong 57 = .ok (.iload 7, 2) := by decide +kernel
theorem dX0_nextAlong_59 : decode cX0_nextAlong 59 = .ok (.ifCond .le 18, 3) := by decide +kernel
theorem dX0_nextAlong_62 : decode cX0_nextAlong 62 = .ok (.iload 7, 2) := by decide +kernel
theorem dX0_nextAlong_64 : decode cX0_nextAlong 64 = .ok (.iload 5, 2) := by decide +kernel
theorem dX0_nextAlong_66 : decode cX0_nextAlong 66 = .ok (.if_icmp .ge 11, 3) := by decide +kernel
theorem dX0_nextAlong_69 : decode cX0_nextAlong 69 = .ok (.iload 6, 2) := by decide +kernel
theorem dX0_nextAlong_71 : decode cX0_nextAlong 71 = .ok (.istore 4, 2) := by decide +kernel
theorem dX0_nextAlong_73 : decode cX0_nextAlong 73 = .ok (.iload 7, 2) := by decide +kernel
theorem dX0_nextAlong_75 : decode cX0_nextAlong 75 = .ok (.istore 5, 2) := by decide +kernel
theorem dX0_nextAlong_77 : decode cX0_nextAlong 77 = .ok (.iinc 6 1, 3) := by decide +kernel
theorem dX0_nextAlong_80 : decode cX0_nextAlong 80 = .ok (.goto (-70), 3) := by decide +kernel
theorem dX0_nextAlong_83 : decode cX0_nextAlong 83 = .ok (.iload 4, 2) := by decide +kernel
theorem dX0_nextAlong_85 : decode cX0_nextAlong 85 = .ok (.ireturn, 1) := by decide +kernel
theorem dX0_numberOf_0 : decode cX0_numberOf 0 = .ok (.aload_n 0, 1) := by decide +kernel
theorem dX0_numberOf_1 : decode cX0_numberOf 1 = .ok (.iload_n 1, 1) := by decide +kernel
theorem dX0_numberOf_2 : decode cX0_numberOf 2 = .ok (.iload_n 2, 1) := by decide +kernel
theorem dX0_numberOf_3 : decode cX0_numberOf 3 = .ok (.invokevirtual 34, 3) := by decide +kernel
theorem dX0_numberOf_6 : decode cX0_numberOf 6 = .ok (.ifCond .eq 16, 3) := by decide +kernel
theorem dX0_numberOf_9 : decode cX0_numberOf 9 = .ok (.aload_n 0, 1) := by decide +kernel
theorem dX0_numberOf_10 : decode cX0_numberOf 10 = .ok (.getfield 15, 3) := by decide +kernel
theorem dX0_numberOf_13 : decode cX0_numberOf 13 = .ok (.iconst 2, 1) := by decide +kernel
theorem dX0_numberOf_14 : decode cX0_numberOf 14 = .ok (.iload_n 1, 1) := by decide +kernel
theorem dX0_numberOf_15 : decode cX0_numberOf 15 = .ok (.imul, 1) := by decide +kernel
theorem dX0_numberOf_16 : decode cX0_numberOf 16 = .ok (.iload_n 2, 1) := by decide +kernel
theorem dX0_numberOf_17 : decode cX0_numberOf 17 = .ok (.iadd, 1) := by decide +kernel
theorem dX0_numberOf_18 : decode cX0_numberOf 18 = .ok (.iaload, 1) := by decide +kernel
theorem dX0_numberOf_19 : decode cX0_numberOf 19 = .ok (.goto 4, 3) := by decide +kernel
theorem dX0_numberOf_22 : decode cX0_numberOf 22 = .ok (.iconst 0, 1) := by decide +kernel
theorem dX0_numberOf_23 : decode cX0_numberOf 23 = .ok (.ireturn, 1) := by decide +kernel
theorem dX0_placeOf_0 : decode cX0_placeOf 0 = .ok (.aload_n 0, 1) := by decide +kernel
theorem dX0_placeOf_1 : decode cX0_placeOf 1 = .ok (.iload_n 1, 1) := by decide +kernel
theorem dX0_placeOf_2 : decode cX0_placeOf 2 = .ok (.iload_n 2, 1) := by decide +kernel
theorem dX0_placeOf_3 : decode cX0_placeOf 3 = .ok (.invokevirtual 34, 3) := by decide +kernel
theorem dX0_placeOf_6 : decode cX0_placeOf 6 = .ok (.ifCond .eq 16, 3) := by decide +kernel
theorem dX0_placeOf_9 : decode cX0_placeOf 9 = .ok (.aload_n 0, 1) := by decide +kernel
theorem dX0_placeOf_10 : decode cX0_placeOf 10 = .ok (.getfield 9, 3) := by decide +kernel
theorem dX0_placeOf_13 : decode cX0_placeOf 13 = .ok (.iconst 2, 1) := by decide +kernel
theorem dX0_placeOf_14 : decode cX0_placeOf 14 = .ok (.iload_n 1, 1) := by decide +kernel
theorem dX0_placeOf_15 : decode cX0_placeOf 15 = .ok (.imul, 1) := by decide +kernel
theorem dX0_placeOf_16 : decode cX0_placeOf 16 = .ok (.iload_n 2, 1) := by decide +kernel
theorem dX0_placeOf_17 : decode cX0_placeOf 17 = .ok (.iadd, 1) := by decide +kernel
theorem dX0_placeOf_18 : decode cX0_placeOf 18 = .ok (.iaload, 1) := by decide +kernel
theorem dX0_placeOf_19 : decode cX0_placeOf 19 = .ok (.goto 4, 3) := by decide +kernel
theorem dX0_placeOf_22 : decode cX0_placeOf 22 = .ok (.iconst 0, 1) := by decide +kernel
theorem dX0_placeOf_23 : decode cX0_placeOf 23 = .ok (.ireturn, 1) := by decide +kernel
theorem dX0_productOf_0 : decode cX0_productOf 0 = .ok (.aload_n 0, 1) := by decide +kernel
theorem dX0_productOf_1 : decode cX0_productOf 1 = .ok (.iload_n 1, 1) := by decide +kernel
theorem dX0_productOf_2 : decode cX0_productOf 2 = .ok (.iconst 0, 1) := by decide +kernel
theorem dX0_productOf_3 : decode cX0_productOf 3 = .ok (.invokevirtual 38, 3) := by decide +kernel
theorem dX0_productOf_6 : decode cX0_productOf 6 = .ok (.aload_n 0, 1) := by decide +kernel
theorem dX0_productOf_7 : decode cX0_productOf 7 = .ok (.iload_n 2, 1) := by decide +kernel
theorem dX0_productOf_8 : decode cX0_productOf 8 = .ok (.iconst 0, 1) := by decide +kernel
theorem dX0_productOf_9 : decode cX0_productOf 9 = .ok (.invokevirtual 38, 3) := by decide +kernel
theorem dX0_productOf_12 : decode cX0_productOf 12 = .ok (.imul, 1) := by decide +kernel
theorem dX0_productOf_13 : decode cX0_productOf 13 = .ok (.aload_n 0, 1) := by decide +kernel
theorem dX0_productOf_14 : decode cX0_productOf 14 = .ok (.iload_n 1, 1) := by decide +kernel
theorem dX0_productOf_15 : decode cX0_productOf 15 = .ok (.iconst 1, 1) := by decide +kernel
theorem dX0_productOf_16 : decode cX0_productOf 16 = .ok (.invokevirtual 38, 3) := by decide +kernel
theorem dX0_productOf_19 : decode cX0_productOf 19 = .ok (.aload_n 0, 1) := by decide +kernel
theorem dX0_productOf_20 : decode cX0_productOf 20 = .ok (.iload_n 2, 1) := by decide +kernel
theorem dX0_productOf_21 : decode cX0_productOf 21 = .ok (.iconst 1, 1) := by decide +kernel
theorem dX0_productOf_22 : decode cX0_productOf 22 = .ok (.invokevirtual 38, 3) := by decide +kernel
theorem dX0_productOf_25 : decode cX0_productOf 25 = .ok (.imul, 1) := by decide +kernel
theorem dX0_productOf_26 : decode cX0_productOf 26 = .ok (.iadd, 1) := by decide +kernel
theorem dX0_productOf_27 : decode cX0_productOf 27 = .ok (.ireturn, 1) := by decide +kernel
theorem dX0_pull_0 : decode cX0_pull 0 = .ok (.iload_n 2, 1) := by decide +kernel
theorem dX0_pull_1 : decode cX0_pull 1 = .ok (.iload_n 2, 1) := by decide +kernel
theorem dX0_pull_2 : decode cX0_pull 2 = .ok (.imul, 1) := by decide +kernel
theorem dX0_pull_3 : decode cX0_pull 3 = .ok (.iload_n 3, 1) := by decide +kernel
theorem dX0_pull_4 : decode cX0_pull 4 = .ok (.iload_n 3, 1) := by decide +kernel
theorem dX0_pull_5 : decode cX0_pull 5 = .ok (.imul, 1) := by decide +kernel
theorem dX0_pull_6 : decode cX0_pull 6 = .ok (.iadd, 1) := by decide +kernel
theorem dX0_pull_7 : decode cX0_pull 7 = .ok (.istore 4, 2) := by decide +kernel
theorem dX0_pull_9 : decode cX0_pull 9 = .ok (.iload 4, 2) := by decide +kernel
theorem dX0_pull_11 : decode cX0_pull 11 = .ok (.ifCond .gt 5, 3) := by decide +kernel
theorem dX0_pull_14 : decode cX0_pull 14 = .ok (.iconst 0, 1) := by decide +kernel
theorem dX0_pull_15 : decode cX0_pull 15 = .ok (.ireturn, 1) := by decide +kernel
theorem dX0_pull_16 : decode cX0_pull 16 = .ok (.iload_n 0, 1) := by decide +kernel
theorem dX0_pull_17 : decode cX0_pull 17 = .ok (.ifCond .ne 25, 3) := by decide +kernel
theorem dX0_pull_20 : decode cX0_pull 20 = .ok (.sipush 1000, 3) := by decide +kernel
theorem dX0_pull_23 : decode cX0_pull 23 = .ok (.iload_n 1, 1) := by decide +kernel
theorem dX0_pull_24 : decode cX0_pull 24 = .ok (.imul, 1) := by decide +kernel
theorem dX0_pull_25 : decode cX0_pull 25 = .ok (.iload_n 2, 1) := by decide +kernel
theorem dX0_pull_26 : decode cX0_pull 26 = .ok (.imul, 1) := by decide +kernel
theorem dX0_pull_27 : decode cX0_pull 27 = .ok (.iload_n 2, 1) := by decide +kernel
theorem dX0_pull_28 : decode cX0_pull 28 = .ok (.iload_n 2, 1) := by decide +kernel
theorem dX0_pull_29 : decode cX0_pull 29 = .ok (.imul, 1) := by decide +kernel
theorem dX0_pull_30 : decode cX0_pull 30 = .ok (.iload_n 3, 1) := by decide +kernel
theorem dX0_pull_31 : decode cX0_pull 31 = .ok (.iload_n 3, 1) := by decide +kernel
theorem dX0_pull_32 : decode cX0_pull 32 = .ok (.imul, 1) := by decide +kernel
theorem dX0_pull_33 : decode cX0_pull 33 = .ok (.isub, 1) := by decide +kernel
theorem dX0_pull_34 : decode cX0_pull 34 = .ok (.imul, 1) := by decide +kernel
theorem dX0_pull_35 : decode cX0_pull 35 = .ok (.iload 4, 2) := by decide +kernel
theorem dX0_pull_37 : decode cX0_pull 37 = .ok (.iload 4, 2) := by decide +kernel
theorem dX0_pull_39 : decode cX0_pull 39 = .ok (.imul, 1) := by decide +kernel
theorem dX0_pull_40 : decode cX0_pull 40 = .ok (.idiv, 1) := by decide +kernel
theorem dX0_pull_41 : decode cX0_pull 41 = .ok (.ireturn, 1) := by decide +kernel
theorem dX0_pull_42 : decode cX0_pull 42 = .ok (.iload_n 0, 1) := by decide +kernel
theorem dX0_pull_43 : decode cX0_pull 43 = .ok (.iconst 1, 1) := by decide +kernel
theorem dX0_pull_44 : decode cX0_pull 44 = .ok (.if_icmp .ne 23, 3) := by decide +kernel
theorem dX0_pull_47 : decode cX0_pull 47 = .ok (.bipush 100, 2) := by decide +kernel
theorem dX0_pull_49 : decode cX0_pull 49 = .ok (.iload_n 1, 1) := by decide +kernel
theorem dX0_pull_50 : decode cX0_pull 50 = .ok (.imul, 1) := by decide +kernel
theorem dX0_pull_51 : decode cX0_pull 51 = .ok (.iload_n 2, 1) := by decide +kernel
theorem dX0_pull_52 : decode cX0_pull 52 = .ok (.invokestatic 56, 3) := by decide +kernel
theorem dX0_pull_55 : decode cX0_pull 55 = .ok (.imul, 1) := by decide +kernel
theorem dX0_pull_56 : decode cX0_pull 56 = .ok (.iload_n 2, 1) := by decide +kernel
theorem dX0_pull_57 : decode cX0_pull 57 = .ok (.invokestatic 61, 3) := by decide +kernel
theorem dX0_pull_60 : decode cX0_pull 60 = .ok (.iload_n 3, 1) := by decide +kernel
theorem dX0_pull_61 : decode cX0_pull 61 = .ok (.invokestatic 61, 3) := by decide +kernel
theorem dX0_pull_64 : decode cX0_pull 64 = .ok (.iadd, 1) := by decide +kernel
theorem dX0_pull_65 : decode cX0_pull 65 = .ok (.idiv, 1) := by decide +kernel
theorem dX0_pull_66 : decode cX0_pull 66 = .ok (.ireturn, 1) := by decide +kernel
theorem dX0_pull_67 : decode cX0_pull 67 = .ok (.bipush 60, 2) := by decide +kernel
theorem dX0_pull_69 : decode cX0_pull 69 = .ok (.iload_n 1, 1) := by decide +kernel
theorem dX0_pull_70 : decode cX0_pull 70 = .ok (.imul, 1) := by decide +kernel
theorem dX0_pull_71 : decode cX0_pull 71 = .ok (.iload_n 2, 1) := by decide +kernel
theorem dX0_pull_72 : decode cX0_pull 72 = .ok (.imul, 1) := by decide +kernel
theorem dX0_pull_73 : decode cX0_pull 73 = .ok (.iload 4, 2) := by decide +kernel
theorem dX0_pull_75 : decode cX0_pull 75 = .ok (.idiv, 1) := by decide +kernel
theorem dX0_pull_76 : decode cX0_pull 76 = .ok (.ireturn, 1) := by decide +kernel
theorem dX0_squareBetween_0 : decode cX0_squareBetween 0 = .ok (.aload_n 0, 1) := by decide +kernel
theorem dX0_squareBetween_1 : decode cX0_squareBetween 1 = .ok (.iload_n 1, 1) := by decide +kernel
theorem dX0_squareBetween_2 : decode cX0_squareBetween 2 = .ok (.iconst 0, 1) := by decide +kernel
theorem dX0_squareBetween_3 : decode cX0_squareBetween 3 = .ok (.invokevirtual 45, 3) := by decide +kernel
theorem dX0_squareBetween_6 : decode cX0_squareBetween 6 = .ok (.aload_n 0, 1) := by decide +kernel
theorem dX0_squareBetween_7 : decode cX0_squareBetween 7 = .ok (.iload_n 2, 1) := by decide +kernel
theorem dX0_squareBetween_8 : decode cX0_squareBetween 8 = .ok (.iconst 0, 1) := by decide +kernel
theorem dX0_squareBetween_9 : decode cX0_squareBetween 9 = .ok (.invokevirtual 45, 3) := by decide +kernel
theorem dX0_squareBetween_12 : decode cX0_squareBetween 12 = .ok (.isub, 1) := by decide +kernel
theorem dX0_squareBetween_13 : decode cX0_squareBetween 13 = .ok (.istore_n 3, 1) := by decide +kernel
theorem dX0_squareBetween_14 : decode cX0_squareBetween 14 = .ok (.aload_n 0, 1) := by decide +kernel
theorem dX0_squareBetween_15 : decode cX0_squareBetween 15 = .ok (.iload_n 1, 1) := by decide +kernel
theorem dX0_squareBetween_16 : decode cX0_squareBetween 16 = .ok (.iconst 1, 1) := by decide +kernel
theorem dX0_squareBetween_17 : decode cX0_squareBetween 17 = .ok (.invokevirtual 45, 3) := by decide +kernel
theorem dX0_squareBetween_20 : decode cX0_squareBetween 20 = .ok (.aload_n 0, 1) := by decide +kernel
theorem dX0_squareBetween_21 : decode cX0_squareBetween 21 = .ok (.iload_n 2, 1) := by decide +kernel
theorem dX0_squareBetween_22 : decode cX0_squareBetween 22 = .ok (.iconst 1, 1) := by decide +kernel
theorem dX0_squareBetween_23 : decode cX0_squareBetween 23 = .ok (.invokevirtual 45, 3) := by decide +kernel
theorem dX0_squareBetween_26 : decode cX0_squareBetween 26 = .ok (.isub, 1) := by decide +kernel
theorem dX0_squareBetween_27 : decode cX0_squareBetween 27 = .ok (.istore 4, 2) := by decide +kernel
theorem dX0_squareBetween_29 : decode cX0_squareBetween 29 = .ok (.iload_n 3, 1) := by decide +kernel
theorem dX0_squareBetween_30 : decode cX0_squareBetween 30 = .ok (.iload_n 3, 1) := by decide +kernel
theorem dX0_squareBetween_31 : decode cX0_squareBetween 31 = .ok (.imul, 1) := by decide +kernel
theorem dX0_squareBetween_32 : decode cX0_squareBetween 32 = .ok (.iload 4, 2) := by decide +kernel
theorem dX0_squareBetween_34 : decode cX0_squareBetween 34 = .ok (.iload 4, 2) := by decide +kernel
theorem dX0_squareBetween_36 : decode cX0_squareBetween 36 = .ok (.imul, 1) := by decide +kernel
theorem dX0_squareBetween_37 : decode cX0_squareBetween 37 = .ok (.iadd, 1) := by decide +kernel
theorem dX0_squareBetween_38 : decode cX0_squareBetween 38 = .ok (.ireturn, 1) := by decide +kernel
theorem dX0_squareOfPair_0 : decode cX0_squareOfPair 0 = .ok (.iload_n 1, 1) := by decide +kernel
theorem dX0_squareOfPair_1 : decode cX0_squareOfPair 1 = .ok (.iconst (-1), 1) := by decide +kernel
theorem dX0_squareOfPair_2 : decode cX0_squareOfPair 2 = .ok (.if_icmp .ne 7, 3) := by decide +kernel
theorem dX0_squareOfPair_5 : decode cX0_squareOfPair 5 = .ok (.iconst 0, 1) := by decide +kernel
theorem dX0_squareOfPair_6 : decode cX0_squareOfPair 6 = .ok (.goto 15, 3) := by decide +kernel
theorem dX0_squareOfPair_9 : decode cX0_squareOfPair 9 = .ok (.aload_n 0, 1) := by decide +kernel
theorem dX0_squareOfPair_10 : decode cX0_squareOfPair 10 = .ok (.iload_n 1, 1) := by decide +kernel
theorem dX0_squareOfPair_11 : decode cX0_squareOfPair 11 = .ok (.bipush 16, 2) := by decide +kernel
theorem dX0_squareOfPair_13 : decode cX0_squareOfPair 13 = .ok (.idiv, 1) := by decide +kernel
theorem dX0_squareOfPair_14 : decode cX0_squareOfPair 14 = .ok (.iload_n 1, 1) := by decide +kernel
theorem dX0_squareOfPair_15 : decode cX0_squareOfPair 15 = .ok (.bipush 16, 2) := by decide +kernel
theorem dX0_squareOfPair_17 : decode cX0_squareOfPair 17 = .ok (.irem, 1) := by decide +kernel
theorem dX0_squareOfPair_18 : decode cX0_squareOfPair 18 = .ok (.invokevirtual 80, 3) := by decide +kernel
theorem dX0_squareOfPair_21 : decode cX0_squareOfPair 21 = .ok (.ireturn, 1) := by decide +kernel
theorem dX0_wayOf_0 : decode cX0_wayOf 0 = .ok (.aload_n 0, 1) := by decide +kernel
theorem dX0_wayOf_1 : decode cX0_wayOf 1 = .ok (.iload_n 1, 1) := by decide +kernel
theorem dX0_wayOf_2 : decode cX0_wayOf 2 = .ok (.iconst 0, 1) := by decide +kernel
theorem dX0_wayOf_3 : decode cX0_wayOf 3 = .ok (.invokevirtual 38, 3) := by decide +kernel
theorem dX0_wayOf_6 : decode cX0_wayOf 6 = .ok (.aload_n 0, 1) := by decide +kernel
theorem dX0_wayOf_7 : decode cX0_wayOf 7 = .ok (.iload_n 1, 1) := by decide +kernel
theorem dX0_wayOf_8 : decode cX0_wayOf 8 = .ok (.iconst 1, 1) := by decide +kernel
theorem dX0_wayOf_9 : decode cX0_wayOf 9 = .ok (.invokevirtual 38, 3) := by decide +kernel
theorem dX0_wayOf_12 : decode cX0_wayOf 12 = .ok (.invokestatic 42, 3) := by decide +kernel
theorem dX0_wayOf_15 : decode cX0_wayOf 15 = .ok (.ireturn, 1) := by decide +kernel
theorem dX0_withOpposite_0 : decode cX0_withOpposite 0 = .ok (.iconst 0, 1) := by decide +kernel
theorem dX0_withOpposite_1 : decode cX0_withOpposite 1 = .ok (.istore_n 1, 1) := by decide +kernel
theorem dX0_withOpposite_2 : decode cX0_withOpposite 2 = .ok (.iconst 0, 1) := by decide +kernel
theorem dX0_withOpposite_3 : decode cX0_withOpposite 3 = .ok (.istore_n 2, 1) := by decide +kernel
theorem dX0_withOpposite_4 : decode cX0_withOpposite 4 = .ok (.iload_n 2, 1) := by decide +kernel
theorem dX0_withOpposite_5 : decode cX0_withOpposite 5 = .ok (.aload_n 0, 1) := by decide +kernel
theorem dX0_withOpposite_6 : decode cX0_withOpposite 6 = .ok (.getfield 18, 3) := by decide +kernel
theorem dX0_withOpposite_9 : decode cX0_withOpposite 9 = .ok (.if_icmp .ge 20, 3) := by decide +kernel
theorem dX0_withOpposite_12 : decode cX0_withOpposite 12 = .ok (.aload_n 0, 1) := by decide +kernel
theorem dX0_withOpposite_13 : decode cX0_withOpposite 13 = .ok (.iload_n 2, 1) := by decide +kernel
theorem dX0_withOpposite_14 : decode cX0_withOpposite 14 = .ok (.invokevirtual 86, 3) := by decide +kernel
theorem dX0_withOpposite_17 : decode cX0_withOpposite 17 = .ok (.ifCond .eq 6, 3) := by decide +kernel
theorem dX0_withOpposite_20 : decode cX0_withOpposite 20 = .ok (.iinc 1 1, 3) := by decide +kernel
theorem dX0_withOpposite_23 : decode cX0_withOpposite 23 = .ok (.iinc 2 1, 3) := by decide +kernel
theorem dX0_withOpposite_26 : decode cX0_withOpposite 26 = .ok (.goto (-22), 3) := by decide +kernel
theorem dX0_withOpposite_29 : decode cX0_withOpposite 29 = .ok (.iload_n 1, 1) := by decide +kernel
theorem dX0_withOpposite_30 : decode cX0_withOpposite 30 = .ok (.ireturn, 1) := by decide +kernel
theorem dX0_withoutWay_0 : decode cX0_withoutWay 0 = .ok (.iconst 0, 1) := by decide +kernel
theorem dX0_withoutWay_1 : decode cX0_withoutWay 1 = .ok (.istore_n 1, 1) := by decide +kernel
theorem dX0_withoutWay_2 : decode cX0_withoutWay 2 = .ok (.iconst 0, 1) := by decide +kernel
theorem dX0_withoutWay_3 : decode cX0_withoutWay 3 = .ok (.istore_n 2, 1) := by decide +kernel
theorem dX0_withoutWay_4 : decode cX0_withoutWay 4 = .ok (.iload_n 2, 1) := by decide +kernel
theorem dX0_withoutWay_5 : decode cX0_withoutWay 5 = .ok (.aload_n 0, 1) := by decide +kernel
theorem dX0_withoutWay_6 : decode cX0_withoutWay 6 = .ok (.getfield 18, 3) := by decide +kernel
theorem dX0_withoutWay_9 : decode cX0_withoutWay 9 = .ok (.if_icmp .ge 21, 3) := by decide +kernel
theorem dX0_withoutWay_12 : decode cX0_withoutWay 12 = .ok (.aload_n 0, 1) := by decide +kernel
theorem dX0_withoutWay_13 : decode cX0_withoutWay 13 = .ok (.iload_n 2, 1) := by decide +kernel
theorem dX0_withoutWay_14 : decode cX0_withoutWay 14 = .ok (.invokevirtual 48, 3) := by decide +kernel
theorem dX0_withoutWay_17 : decode cX0_withoutWay 17 = .ok (.iconst (-1), 1) := by decide +kernel
theorem dX0_withoutWay_18 : decode cX0_withoutWay 18 = .ok (.if_icmp .ne 6, 3) := by decide +kernel
theorem dX0_withoutWay_21 : decode cX0_withoutWay 21 = .ok (.iinc 1 1, 3) := by decide +kernel
theorem dX0_withoutWay_24 : decode cX0_withoutWay 24 = .ok (.iinc 2 1, 3) := by decide +kernel
theorem dX0_withoutWay_27 : decode cX0_withoutWay 27 = .ok (.goto (-23), 3) := by decide +kernel
theorem dX0_withoutWay_30 : decode cX0_withoutWay 30 = .ok (.iload_n 1, 1) := by decide +kernel
theorem dX0_withoutWay_31 : decode cX0_withoutWay 31 = .ok (.ireturn, 1) := by decide +kernel
theorem dX10_coresBeside_0 : decode cX10_coresBeside 0 = .ok (.iconst 0, 1) := by decide +kernel
theorem dX10_coresBeside_1 : decode cX10_coresBeside 1 = .ok (.istore_n 3, 1) := by decide +kernel
theorem dX10_coresBeside_2 : decode cX10_coresBeside 2 = .ok (.iconst 0, 1) := by decide +kernel
theorem dX10_coresBeside_3 : decode cX10_coresBeside 3 = .ok (.istore 4, 2) := by decide +kernel
theorem dX10_coresBeside_5 : decode cX10_coresBeside 5 = .ok (.iload 4, 2) := by decide +kernel
theorem dX10_coresBeside_7 : decode cX10_coresBeside 7 = .ok (.aload_n 2, 1) := by decide +kernel
theorem dX10_coresBeside_8 : decode cX10_coresBeside 8 = .ok (.getfield 55, 3) := by decide +kernel
theorem dX10_coresBeside_11 : decode cX10_coresBeside 11 = .ok (.if_icmp .ge 34, 3) := by decide +kernel
theorem dX10_coresBeside_14 : decode cX10_coresBeside 14 = .ok (.aload_n 0, 1) := by decide +kernel
theorem dX10_coresBeside_15 : decode cX10_coresBeside 15 = .ok (.iload_n 1, 1) := by decide +kernel
theorem dX10_coresBeside_16 : decode cX10_coresBeside 16 = .ok (.aload_n 2, 1) := by decide +kernel
theorem dX10_coresBeside_17 : decode cX10_coresBeside 17 = .ok (.iload 4, 2) := by decide +kernel
theorem dX10_coresBeside_19 : decode cX10_coresBeside 19 = .ok (.iconst 0, 1) := by decide +kernel
theorem dX10_coresBeside_20 : decode cX10_coresBeside 20 = .ok (.invokevirtual 60, 3) := by decide +kernel
theorem dX10_coresBeside_23 : decode cX10_coresBeside 23 = .ok (.aload_n 2, 1) := by decide +kernel
theorem dX10_coresBeside_24 : decode cX10_coresBeside 24 = .ok (.iload 4, 2) := by decide +kernel
theorem dX10_coresBeside_26 : decode cX10_coresBeside 26 = .ok (.iconst 1, 1) := by decide +kernel
theorem dX10_coresBeside_27 : decode cX10_coresBeside 27 = .ok (.invokevirtual 60, 3) := by decide +kernel
theorem dX10_coresBeside_30 : decode cX10_coresBeside 30 = .ok (.invokevirtual 63, 3) := by decide +kernel
theorem dX10_coresBeside_33 : decode cX10_coresBeside 33 = .ok (.ifCond .eq 6, 3) := by decide +kernel
theorem dX10_coresBeside_36 : decode cX10_coresBeside 36 = .ok (.iinc 3 1, 3) := by decide +kernel
theorem dX10_coresBeside_39 : decode cX10_coresBeside 39 = .ok (.iinc 4 1, 3) := by decide +kernel
theorem dX10_coresBeside_42 : decode cX10_coresBeside 42 = .ok (.goto (-37), 3) := by decide +kernel
theorem dX10_coresBeside_45 : decode cX10_coresBeside 45 = .ok (.iload_n 3, 1) := by decide +kernel
theorem dX10_coresBeside_46 : decode cX10_coresBeside 46 = .ok (.ireturn, 1) := by decide +kernel
theorem dX10_find_0 : decode cX10_find 0 = .ok (.iconst 0, 1) := by decide +kernel
theorem dX10_find_1 : decode cX10_find 1 = .ok (.istore_n 2, 1) := by decide +kernel
theorem dX10_find_2 : decode cX10_find 2 = .ok (.iload_n 2, 1) := by decide +kernel
theorem dX10_find_3 : decode cX10_find 3 = .ok (.bipush 9, 2) := by decide +kernel
theorem dX10_find_5 : decode cX10_find 5 = .ok (.if_icmp .ge 71, 3) := by decide +kernel
theorem dX10_find_8 : decode cX10_find 8 = .ok (.iconst 0, 1) := by decide +kernel
theorem dX10_find_9 : decode cX10_find 9 = .ok (.istore_n 3, 1) := by decide +kernel
theorem dX10_find_10 : decode cX10_find 10 = .ok (.iload_n 3, 1) := by decide +kernel
theorem dX10_find_11 : decode cX10_find 11 = .ok (.bipush 9, 2) := by decide +kernel
theorem dX10_find_13 : decode cX10_find 13 = .ok (.if_icmp .ge 57, 3) := by decide +kernel
theorem dX10_find_16 : decode cX10_find 16 = .ok (.iconst 0, 1) := by decide +kernel
theorem dX10_find_17 : decode cX10_find 17 = .ok (.istore 4, 2) := by decide +kernel
theorem dX10_find_19 : decode cX10_find 19 = .ok (.iload 4, 2) := by decide +kernel
theorem dX10_find_21 : decode cX10_find 21 = .ok (.iconst 2, 1) := by decide +kernel
theorem dX10_find_22 : decode cX10_find 22 = .ok (.if_icmp .ge 42, 3) := by decide +kernel
theorem dX10_find_25 : decode cX10_find 25 = .ok (.iload_n 3, 1) := by decide +kernel
theorem dX10_find_26 : decode cX10_find 26 = .ok (.iload_n 2, 1) := by decide +kernel
theorem dX10_find_27 : decode cX10_find 27 = .ok (.iload 4, 2) := by decide +kernel
theorem dX10_find_29 : decode cX10_find 29 = .ok (.invokestatic 17, 3) := by decide +kernel
theorem dX10_find_32 : decode cX10_find 32 = .ok (.istore 5, 2) := by decide +kernel
theorem dX10_find_34 : decode cX10_find 34 = .ok (.aload_n 0, 1) := by decide +kernel
theorem dX10_find_35 : decode cX10_find 35 = .ok (.getfield 11, 3) := by decide +kernel
theorem dX10_find_38 : decode cX10_find 38 = .ok (.iload 5, 2) := by decide +kernel
theorem dX10_find_40 : decode cX10_find 40 = .ok (.aload_n 1, 1) := by decide +kernel
theorem dX10_find_41 : decode cX10_find 41 = .ok (.iload_n 3, 1) := by decide +kernel
theorem dX10_find_42 : decode cX10_find 42 = .ok (.iload_n 2, 1) := by decide +kernel
theorem dX10_find_43 : decode cX10_find 43 = .ok (.iload 4, 2) := by decide +kernel
theorem dX10_find_45 : decode cX10_find 45 = .ok (.invokevirtual 21, 3) := by decide +kernel
theorem dX10_find_48 : decode cX10_find 48 = .ok (.ifCond .eq 8, 3) := by decide +kernel
theorem dX10_find_51 : decode cX10_find 51 = .ok (.iload 5, 2) := by decide +kernel
theorem dX10_find_53 : decode cX10_find 53 = .ok (.goto 4, 3) := by decide +kernel
theorem dX10_find_56 : decode cX10_find 56 = .ok (.iconst (-1), 1) := by decide +kernel
theorem dX10_find_57 : decode cX10_find 57 = .ok (.iastore, 1) := by decide +kernel
theorem dX10_find_58 : decode cX10_find 58 = .ok (.iinc 4 1, 3) := by decide +kernel
theorem dX10_find_61 : decode cX10_find 61 = .ok (.goto (-42), 3) := by decide +kernel
theorem dX10_find_64 : decode cX10_find 64 = .ok (.iinc 3 1, 3) := by decide +kernel
theorem dX10_find_67 : decode cX10_find 67 = .ok (.goto (-57), 3) := by decide +kernel
theorem dX10_find_70 : decode cX10_find 70 = .ok (.iinc 2 1, 3) := by decide +kernel
theorem dX10_find_73 : decode cX10_find 73 = .ok (.goto (-71), 3) := by decide +kernel
theorem dX10_find_76 : decode cX10_find 76 = .ok (.iconst 0, 1) := by decide +kernel
theorem dX10_find_77 : decode cX10_find 77 = .ok (.istore_n 2, 1) := by decide +kernel
theorem dX10_find_78 : decode cX10_find 78 = .ok (.iload_n 2, 1) := by decide +kernel
theorem dX10_find_79 : decode cX10_find 79 = .ok (.aload_n 1, 1) := by decide +kernel
theorem dX10_find_80 : decode cX10_find 80 = .ok (.getfield 25, 3) := by decide +kernel
theorem dX10_find_83 : decode cX10_find 83 = .ok (.iconst 1, 1) := by decide +kernel
theorem dX10_find_84 : decode cX10_find 84 = .ok (.isub, 1) := by decide +kernel
theorem dX10_find_85 : decode cX10_find 85 = .ok (.if_icmp .ge 33, 3) := by decide +kernel
theorem dX10_find_88 : decode cX10_find 88 = .ok (.iconst 0, 1) := by decide +kernel
theorem dX10_find_89 : decode cX10_find 89 = .ok (.istore_n 3, 1) := by decide +kernel
theorem dX10_find_90 : decode cX10_find 90 = .ok (.iload_n 3, 1) := by decide +kernel
theorem dX10_find_91 : decode cX10_find 91 = .ok (.aload_n 1, 1) := by decide +kernel
theorem dX10_find_92 : decode cX10_find 92 = .ok (.getfield 29, 3) := by decide +kernel
theorem dX10_find_95 : decode cX10_find 95 = .ok (.iconst 1, 1) := by decide +kernel
theorem dX10_find_96 : decode cX10_find 96 = .ok (.isub, 1) := by decide +kernel
theorem dX10_find_97 : decode cX10_find 97 = .ok (.if_icmp .ge 15, 3) := by decide +kernel
theorem dX10_find_100 : decode cX10_find 100 = .ok (.aload_n 0, 1) := by decide +kernel
theorem dX10_find_101 : decode cX10_find 101 = .ok (.iload_n 3, 1) := by decide +kernel
theorem dX10_find_102 : decode cX10_find 102 = .ok (.iload_n 2, 1) := by decide +kernel
theorem dX10_find_103 : decode cX10_find 103 = .ok (.invokevirtual 32, 3) := by decide +kernel
theorem dX10_find_106 : decode cX10_find 106 = .ok (.iinc 3 1, 3) := by decide +kernel
theorem dX10_find_109 : decode cX10_find 109 = .ok (.goto (-19), 3) := by decide +kernel
theorem dX10_find_112 : decode cX10_find 112 = .ok (.iinc 2 1, 3) := by decide +kernel
theorem dX10_find_115 : decode cX10_find 115 = .ok (.goto (-37), 3) := by decide +kernel
theorem dX10_find_118 : decode cX10_find 118 = .ok (.return_, 1) := by decide +kernel
theorem dX10_firstLinkOf_0 : decode cX10_firstLinkOf 0 = .ok (.iload_n 1, 1) := by decide +kernel
theorem dX10_firstLinkOf_1 : decode cX10_firstLinkOf 1 = .ok (.istore_n 2, 1) := by decide +kernel
theorem dX10_firstLinkOf_2 : decode cX10_firstLinkOf 2 = .ok (.iconst 0, 1) := by decide +kernel
theorem dX10_firstLinkOf_3 : decode cX10_firstLinkOf 3 = .ok (.istore_n 3, 1) := by decide +kernel
theorem dX10_firstLinkOf_4 : decode cX10_firstLinkOf 4 = .ok (.iload_n 3, 1) := by decide +kernel
theorem dX10_firstLinkOf_5 : decode cX10_firstLinkOf 5 = .ok (.sipush 162, 3) := by decide +kernel
theorem dX10_firstLinkOf_8 : decode cX10_firstLinkOf 8 = .ok (.if_icmp .ge 32, 3) := by decide +kernel
theorem dX10_firstLinkOf_11 : decode cX10_firstLinkOf 11 = .ok (.iload_n 2, 1) := by decide +kernel
theorem dX10_firstLinkOf_12 : decode cX10_firstLinkOf 12 = .ok (.ifCond .lt 28, 3) := by decide +kernel
theorem dX10_firstLinkOf_15 : decode cX10_firstLinkOf 15 = .ok (.aload_n 0, 1) := by decide +kernel
theorem dX10_firstLinkOf_16 : decode cX10_firstLinkOf 16 = .ok (.getfield 11, 3) := by decide +kernel
theorem dX10_firstLinkOf_19 : decode cX10_firstLinkOf 19 = .ok (.iload_n 3, 1) := by decide +kernel
theorem dX10_firstLinkOf_20 : decode cX10_firstLinkOf 20 = .ok (.iaload, 1) := by decide +kernel
theorem dX10_firstLinkOf_21 : decode cX10_firstLinkOf 21 = .ok (.iload_n 3, 1) := by decide +kernel
theorem dX10_firstLinkOf_22 : decode cX10_firstLinkOf 22 = .ok (.if_icmp .ne 12, 3) := by decide +kernel
theorem dX10_firstLinkOf_25 : decode cX10_firstLinkOf 25 = .ok (.iload_n 2, 1) := by decide +kernel
theorem dX10_firstLinkOf_26 : decode cX10_firstLinkOf 26 = .ok (.ifCond .ne 5, 3) := by decide +kernel
theorem dX10_firstLinkOf_29 : decode cX10_firstLinkOf 29 = .ok (.iload_n 3, 1) := by decide +kernel
theorem dX10_firstLinkOf_30 : decode cX10_firstLinkOf 30 = .ok (.ireturn, 1) := by decide +kernel
theorem dX10_firstLinkOf_31 : decode cX10_firstLinkOf 31 = .ok (.iinc 2 (-1), 3) := by decide +kernel
theorem dX10_firstLinkOf_34 : decode cX10_firstLinkOf 34 = .ok (.iinc 3 1, 3) := by decide +kernel
theorem dX10_firstLinkOf_37 : decode cX10_firstLinkOf 37 = .ok (.goto (-33), 3) := by decide +kernel
theorem dX10_firstLinkOf_40 : decode cX10_firstLinkOf 40 = .ok (.iconst (-1), 1) := by decide +kernel
theorem dX10_firstLinkOf_41 : decode cX10_firstLinkOf 41 = .ok (.ireturn, 1) := by decide +kernel
theorem dX10_firstOf_0 : decode cX10_firstOf 0 = .ok (.iload_n 1, 1) := by decide +kernel
theorem dX10_firstOf_1 : decode cX10_firstOf 1 = .ok (.istore_n 2, 1) := by decide +kernel
theorem dX10_firstOf_2 : decode cX10_firstOf 2 = .ok (.iconst 0, 1) := by decide +kernel
theorem dX10_firstOf_3 : decode cX10_firstOf 3 = .ok (.istore_n 3, 1) := by decide +kernel
theorem dX10_firstOf_4 : decode cX10_firstOf 4 = .ok (.iload_n 3, 1) := by decide +kernel
theorem dX10_firstOf_5 : decode cX10_firstOf 5 = .ok (.sipush 162, 3) := by decide +kernel
theorem dX10_firstOf_8 : decode cX10_firstOf 8 = .ok (.if_icmp .ge 41, 3) := by decide +kernel
theorem dX10_firstOf_11 : decode cX10_firstOf 11 = .ok (.iload_n 2, 1) := by decide +kernel
theorem dX10_firstOf_12 : decode cX10_firstOf 12 = .ok (.ifCond .lt 10, 3) := by decide +kernel
theorem dX10_firstOf_15 : decode cX10_firstOf 15 = .ok (.iload_n 2, 1) := by decide +kernel
theorem dX10_firstOf_16 : decode cX10_firstOf 16 = .ok (.sipush 162, 3) := by decide +kernel
theorem dX10_firstOf_19 : decode cX10_firstOf 19 = .ok (.if_icmp .lt 5, 3) := by decide +kernel
theorem dX10_firstOf_22 : decode cX10_firstOf 22 = .ok (.iconst (-1), 1) := by decide +kernel
theorem dX10_firstOf_23 : decode cX10_firstOf 23 = .ok (.ireturn, 1) := by decide +kernel
theorem dX10_firstOf_24 : decode cX10_firstOf 24 = .ok (.aload_n 0, 1) := by decide +kernel
theorem dX10_firstOf_25 : decode cX10_firstOf 25 = .ok (.getfield 11, 3) := by decide +kernel
theorem dX10_firstOf_28 : decode cX10_firstOf 28 = .ok (.iload_n 2, 1) := by decide +kernel
theorem dX10_firstOf_29 : decode cX10_firstOf 29 = .ok (.iaload, 1) := by decide +kernel
theorem dX10_firstOf_30 : decode cX10_firstOf 30 = .ok (.iload_n 2, 1) := by decide +kernel
theorem dX10_firstOf_31 : decode cX10_firstOf 31 = .ok (.if_icmp .ne 5, 3) := by decide +kernel
theorem dX10_firstOf_34 : decode cX10_firstOf 34 = .ok (.iload_n 2, 1) := by decide +kernel
theorem dX10_firstOf_35 : decode cX10_firstOf 35 = .ok (.ireturn, 1) := by decide +kernel
theorem dX10_firstOf_36 : decode cX10_firstOf 36 = .ok (.aload_n 0, 1) := by decide +kernel
theorem dX10_firstOf_37 : decode cX10_firstOf 37 = .ok (.getfield 11, 3) := by decide +kernel
theorem dX10_firstOf_40 : decode cX10_firstOf 40 = .ok (.iload_n 2, 1) := by decide +kernel
theorem dX10_firstOf_41 : decode cX10_firstOf 41 = .ok (.iaload, 1) := by decide +kernel
theorem dX10_firstOf_42 : decode cX10_firstOf 42 = .ok (.istore_n 2, 1) := by decide +kernel
theorem dX10_firstOf_43 : decode cX10_firstOf 43 = .ok (.iinc 3 1, 3) := by decide +kernel
theorem dX10_firstOf_46 : decode cX10_firstOf 46 = .ok (.goto (-42), 3) := by decide +kernel
theorem dX10_firstOf_49 : decode cX10_firstOf 49 = .ok (.iconst (-1), 1) := by decide +kernel
theorem dX10_firstOf_50 : decode cX10_firstOf 50 = .ok (.ireturn, 1) := by decide +kernel
theorem dX10_init_0 : decode cX10_init 0 = .ok (.aload_n 0, 1) := by decide +kernel
theorem dX10_init_1 : decode cX10_init 1 = .ok (.invokespecial 3, 3) := by decide +kernel
theorem dX10_init_4 : decode cX10_init 4 = .ok (.aload_n 0, 1) := by decide +kernel
theorem dX10_init_5 : decode cX10_init 5 = .ok (.sipush 162, 3) := by decide +kernel
theorem dX10_init_8 : decode cX10_init 8 = .ok (.newarray .int, 2) := by decide +kernel
theorem dX10_init_10 : decode cX10_init 10 = .ok (.putfield 11, 3) := by decide +kernel
theorem dX10_init_13 : decode cX10_init 13 = .ok (.return_, 1) := by decide +kernel
theorem dX10_isBeside_0 : decode cX10_isBeside 0 = .ok (.iconst 0, 1) := by decide +kernel
theorem dX10_isBeside_1 : decode cX10_isBeside 1 = .ok (.istore 4, 2) := by decide +kernel
theorem dX10_isBeside_3 : decode cX10_isBeside 3 = .ok (.iload 4, 2) := by decide +kernel
theorem dX10_isBeside_5 : decode cX10_isBeside 5 = .ok (.iconst 4, 1) := by decide +kernel
theorem dX10_isBeside_6 : decode cX10_isBeside 6 = .ok (.if_icmp .ge 26, 3) := by decide +kernel
theorem dX10_isBeside_9 : decode cX10_isBeside 9 = .ok (.aload_n 0, 1) := by decide +kernel
theorem dX10_isBeside_10 : decode cX10_isBeside 10 = .ok (.iload_n 2, 1) := by decide +kernel
theorem dX10_isBeside_11 : decode cX10_isBeside 11 = .ok (.iload_n 3, 1) := by decide +kernel
theorem dX10_isBeside_12 : decode cX10_isBeside 12 = .ok (.iload 4, 2) := by decide +kernel
theorem dX10_isBeside_14 : decode cX10_isBeside 14 = .ok (.invokestatic 36, 3) := by decide +kernel
theorem dX10_isBeside_17 : decode cX10_isBeside 17 = .ok (.invokevirtual 39, 3) := by decide +kernel
theorem dX10_isBeside_20 : decode cX10_isBeside 20 = .ok (.iload_n 1, 1) := by decide +kernel
theorem dX10_isBeside_21 : decode cX10_isBeside 21 = .ok (.if_icmp .ne 5, 3) := by decide +kernel
theorem dX10_isBeside_24 : decode cX10_isBeside 24 = .ok (.iconst 1, 1) := by decide +kernel
theorem dX10_isBeside_25 : decode cX10_isBeside 25 = .ok (.ireturn, 1) := by decide +kernel
theorem dX10_isBeside_26 : decode cX10_isBeside 26 = .ok (.iinc 4 1, 3) := by decide +kernel
theorem dX10_isBeside_29 : decode cX10_isBeside 29 = .ok (.goto (-26), 3) := by decide +kernel
theorem dX10_isBeside_32 : decode cX10_isBeside 32 = .ok (.iconst 0, 1) := by decide +kernel
theorem dX10_isBeside_33 : decode cX10_isBeside 33 = .ok (.ireturn, 1) := by decide +kernel
theorem dX10_joinRound_0 : decode cX10_joinRound 0 = .ok (.iconst (-1), 1) := by decide +kernel
theorem dX10_joinRound_1 : decode cX10_joinRound 1 = .ok (.istore_n 3, 1) := by decide +kernel
theorem dX10_joinRound_2 : decode cX10_joinRound 2 = .ok (.iconst 0, 1) := by decide +kernel
theorem dX10_joinRound_3 : decode cX10_joinRound 3 = .ok (.istore 4, 2) := by decide +kernel
theorem dX10_joinRound_5 : decode cX10_joinRound 5 = .ok (.iload 4, 2) := by decide +kernel
theorem dX10_joinRound_7 : decode cX10_joinRound 7 = .ok (.iconst 4, 1) := by decide +kernel
theorem dX10_joinRound_8 : decode cX10_joinRound 8 = .ok (.if_icmp .ge 66, 3) := by decide +kernel
theorem dX10_joinRound_11 : decode cX10_joinRound 11 = .ok (.aload_n 0, 1) := by decide +kernel
theorem dX10_joinRound_12 : decode cX10_joinRound 12 = .ok (.iload_n 1, 1) := by decide +kernel
theorem dX10_joinRound_13 : decode cX10_joinRound 13 = .ok (.iload_n 2, 1) := by decide +kernel
theorem dX10_joinRound_14 : decode cX10_joinRound 14 = .ok (.iload 4, 2) := by decide +kernel
theorem dX10_joinRound_16 : decode cX10_joinRound 16 = .ok (.invokestatic 36, 3) := by decide +kernel
theorem dX10_joinRound_19 : decode cX10_joinRound 19 = .ok (.invokevirtual 39, 3) := by decide +kernel
theorem dX10_joinRound_22 : decode cX10_joinRound 22 = .ok (.istore 5, 2) := by decide +kernel
theorem dX10_joinRound_24 : decode cX10_joinRound 24 = .ok (.iload_n 3, 1) := by decide +kernel
theorem dX10_joinRound_25 : decode cX10_joinRound 25 = .ok (.iconst (-1), 1) := by decide +kernel
theorem dX10_joinRound_26 : decode cX10_joinRound 26 = .ok (.if_icmp .eq 9, 3) := by decide +kernel
theorem dX10_joinRound_29 : decode cX10_joinRound 29 = .ok (.iload 5, 2) := by decide +kernel
theorem dX10_joinRound_31 : decode cX10_joinRound 31 = .ok (.iconst (-1), 1) := by decide +kernel
theorem dX10_joinRound_32 : decode cX10_joinRound 32 = .ok (.if_icmp .ne 13, 3) := by decide +kernel
theorem dX10_joinRound_35 : decode cX10_joinRound 35 = .ok (.iload_n 3, 1) := by decide +kernel
theorem dX10_joinRound_36 : decode cX10_joinRound 36 = .ok (.iload 5, 2) := by decide +kernel
theorem dX10_joinRound_38 : decode cX10_joinRound 38 = .ok (.invokestatic 43, 3) := by decide +kernel
theorem dX10_joinRound_41 : decode cX10_joinRound 41 = .ok (.istore_n 3, 1) := by decide +kernel
theorem dX10_joinRound_42 : decode cX10_joinRound 42 = .ok (.goto 26, 3) := by decide +kernel
theorem dX10_joinRound_45 : decode cX10_joinRound 45 = .ok (.iload_n 3, 1) := by decide +kernel
theorem dX10_joinRound_46 : decode cX10_joinRound 46 = .ok (.iload 5, 2) := by decide +kernel
theorem dX10_joinRound_48 : decode cX10_joinRound 48 = .ok (.invokestatic 43, 3) := by decide +kernel
theorem dX10_joinRound_51 : decode cX10_joinRound 51 = .ok (.istore 6, 2) := by decide +kernel
theorem dX10_joinRound_53 : decode cX10_joinRound 53 = .ok (.iload_n 3, 1) := by decide +kernel
theorem dX10_joinRound_54 : decode cX10_joinRound 54 = .ok (.iload 5, 2) := by decide +kernel
theorem dX10_joinRound_56 : decode cX10_joinRound 56 = .ok (.invokestatic 49, 3) := by decide +kernel
theorem dX10_joinRound_59 : decode cX10_joinRound 59 = .ok (.istore_n 3, 1) := by decide +kernel
theorem dX10_joinRound_60 : decode cX10_joinRound 60 = .ok (.aload_n 0, 1) := by decide +kernel
theorem dX10_joinRound_61 : decode cX10_joinRound 61 = .ok (.getfield 11, 3) := by decide +kernel
theorem dX10_joinRound_64 : decode cX10_joinRound 64 = .ok (.iload 6, 2) := by decide +kernel
theorem dX10_joinRound_66 : decode cX10_joinRound 66 = .ok (.iload_n 3, 1) := by decide +kernel
theorem dX10_joinRound_67 : decode cX10_joinRound 67 = .ok (.iastore, 1) := by decide +kernel
theorem dX10_joinRound_68 : decode cX10_joinRound 68 = .ok (.iinc 4 1, 3) := by decide +kernel
theorem dX10_joinRound_71 : decode cX10_joinRound 71 = .ok (.goto (-66), 3) := by decide +kernel
theorem dX10_joinRound_74 : decode cX10_joinRound 74 = .ok (.return_, 1) := by decide +kernel
theorem dX10_linkBeside_0 : decode cX10_linkBeside 0 = .ok (.iload_n 2, 1) := by decide +kernel
theorem dX10_linkBeside_1 : decode cX10_linkBeside 1 = .ok (.tableswitch 52 0 2 #[27, 34, 43], 27) := by decide +kernel
theorem dX10_linkBeside_28 : decode cX10_linkBeside 28 = .ok (.iload_n 0, 1) := by decide +kernel
theorem dX10_linkBeside_29 : decode cX10_linkBeside 29 = .ok (.iload_n 1, 1) := by decide +kernel
theorem dX10_linkBeside_30 : decode cX10_linkBeside 30 = .ok (.iconst 0, 1) := by decide +kernel
theorem dX10_linkBeside_31 : decode cX10_linkBeside 31 = .ok (.invokestatic 17, 3) := by decide +kernel
theorem dX10_linkBeside_34 : decode cX10_linkBeside 34 = .ok (.ireturn, 1) := by decide +kernel
theorem dX10_linkBeside_35 : decode cX10_linkBeside 35 = .ok (.iload_n 0, 1) := by decide +kernel
theorem dX10_linkBeside_36 : decode cX10_linkBeside 36 = .ok (.iconst 1, 1) := by decide +kernel
theorem dX10_linkBeside_37 : decode cX10_linkBeside 37 = .ok (.iadd, 1) := by decide +kernel
theorem dX10_linkBeside_38 : decode cX10_linkBeside 38 = .ok (.iload_n 1, 1) := by decide +kernel
theorem dX10_linkBeside_39 : decode cX10_linkBeside 39 = .ok (.iconst 1, 1) := by decide +kernel
theorem dX10_linkBeside_40 : decode cX10_linkBeside 40 = .ok (.invokestatic 17, 3) := by decide +kernel
theorem dX10_linkBeside_43 : decode cX10_linkBeside 43 = .ok (.ireturn, 1) := by decide +kernel
theorem dX10_linkBeside_44 : decode cX10_linkBeside 44 = .ok (.iload_n 0, 1) := by decide +kernel
theorem dX10_linkBeside_45 : decode cX10_linkBeside 45 = .ok (.iload_n 1, 1) := by decide +kernel
theorem dX10_linkBeside_46 : decode cX10_linkBeside 46 = .ok (.iconst 1, 1) := by decide +kernel
theorem dX10_linkBeside_47 : decode cX10_linkBeside 47 = .ok (.iadd, 1) := by decide +kernel
theorem dX10_linkBeside_48 : decode cX10_linkBeside 48 = .ok (.iconst 0, 1) := by decide +kernel
theorem dX10_linkBeside_49 : decode cX10_linkBeside 49 = .ok (.invokestatic 17, 3) := by decide +kernel
theorem dX10_linkBeside_52 : decode cX10_linkBeside 52 = .ok (.ireturn, 1) := by decide +kernel
theorem dX10_linkBeside_53 : decode cX10_linkBeside 53 = .ok (.iload_n 0, 1) := by decide +kernel
theorem dX10_linkBeside_54 : decode cX10_linkBeside 54 = .ok (.iload_n 1, 1) := by decide +kernel
theorem dX10_linkBeside_55 : decode cX10_linkBeside 55 = .ok (.iconst 1, 1) := by decide +kernel
theorem dX10_linkBeside_56 : decode cX10_linkBeside 56 = .ok (.invokestatic 17, 3) := by decide +kernel
theorem dX10_linkBeside_59 : decode cX10_linkBeside 59 = .ok (.ireturn, 1) := by decide +kernel
theorem dX10_linksOf_0 : decode cX10_linksOf 0 = .ok (.iconst 0, 1) := by decide +kernel
theorem dX10_linksOf_1 : decode cX10_linksOf 1 = .ok (.istore_n 2, 1) := by decide +kernel
theorem dX10_linksOf_2 : decode cX10_linksOf 2 = .ok (.iconst 0, 1) := by decide +kernel
theorem dX10_linksOf_3 : decode cX10_linksOf 3 = .ok (.istore_n 3, 1) := by decide +kernel
theorem dX10_linksOf_4 : decode cX10_linksOf 4 = .ok (.iload_n 3, 1) := by decide +kernel
theorem dX10_linksOf_5 : decode cX10_linksOf 5 = .ok (.sipush 162, 3) := by decide +kernel
theorem dX10_linksOf_8 : decode cX10_linksOf 8 = .ok (.if_icmp .ge 21, 3) := by decide +kernel
theorem dX10_linksOf_11 : decode cX10_linksOf 11 = .ok (.aload_n 0, 1) := by decide +kernel
theorem dX10_linksOf_12 : decode cX10_linksOf 12 = .ok (.iload_n 3, 1) := by decide +kernel
theorem dX10_linksOf_13 : decode cX10_linksOf 13 = .ok (.invokevirtual 39, 3) := by decide +kernel
theorem dX10_linksOf_16 : decode cX10_linksOf 16 = .ok (.iload_n 1, 1) := by decide +kernel
theorem dX10_linksOf_17 : decode cX10_linksOf 17 = .ok (.if_icmp .ne 6, 3) := by decide +kernel
theorem dX10_linksOf_20 : decode cX10_linksOf 20 = .ok (.iinc 2 1, 3) := by decide +kernel
theorem dX10_linksOf_23 : decode cX10_linksOf 23 = .ok (.iinc 3 1, 3) := by decide +kernel
theorem dX10_linksOf_26 : decode cX10_linksOf 26 = .ok (.goto (-22), 3) := by decide +kernel
theorem dX10_linksOf_29 : decode cX10_linksOf 29 = .ok (.iload_n 2, 1) := by decide +kernel
theorem dX10_linksOf_30 : decode cX10_linksOf 30 = .ok (.ireturn, 1) := by decide +kernel
theorem dX10_mostLinks_0 : decode cX10_mostLinks 0 = .ok (.iconst 0, 1) := by decide +kernel
theorem dX10_mostLinks_1 : decode cX10_mostLinks 1 = .ok (.istore_n 1, 1) := by decide +kernel
theorem dX10_mostLinks_2 : decode cX10_mostLinks 2 = .ok (.iconst 0, 1) := by decide +kernel
theorem dX10_mostLinks_3 : decode cX10_mostLinks 3 = .ok (.istore_n 2, 1) := by decide +kernel
theorem dX10_mostLinks_4 : decode cX10_mostLinks 4 = .ok (.iload_n 2, 1) := by decide +kernel
theorem dX10_mostLinks_5 : decode cX10_mostLinks 5 = .ok (.sipush 162, 3) := by decide +kernel
theorem dX10_mostLinks_8 : decode cX10_mostLinks 8 = .ok (.if_icmp .ge 29, 3) := by decide +kernel
theorem dX10_mostLinks_11 : decode cX10_mostLinks 11 = .ok (.aload_n 0, 1) := by decide +kernel
theorem dX10_mostLinks_12 : decode cX10_mostLinks 12 = .ok (.getfield 11, 3) := by decide +kernel
theorem dX10_mostLinks_15 : decode cX10_mostLinks 15 = .ok (.iload_n 2, 1) := by decide +kernel
theorem dX10_mostLinks_16 : decode cX10_mostLinks 16 = .ok (.iaload, 1) := by decide +kernel
theorem dX10_mostLinks_17 : decode cX10_mostLinks 17 = .ok (.iload_n 2, 1) := by decide +kernel
theorem dX10_mostLinks_18 : decode cX10_mostLinks 18 = .ok (.if_icmp .ne 13, 3) := by decide +kernel
theorem dX10_mostLinks_21 : decode cX10_mostLinks 21 = .ok (.iload_n 1, 1) := by decide +kernel
theorem dX10_mostLinks_22 : decode cX10_mostLinks 22 = .ok (.aload_n 0, 1) := by decide +kernel
theorem dX10_mostLinks_23 : decode cX10_mostLinks 23 = .ok (.iload_n 2, 1) := by decide +kernel
theorem dX10_mostLinks_24 : decode cX10_mostLinks 24 = .ok (.invokevirtual 52, 3) := by decide +kernel
theorem dX10_mostLinks_27 : decode cX10_mostLinks 27 = .ok (.invokestatic 43, 3) := by decide +kernel
theorem dX10_mostLinks_30 : decode cX10_mostLinks 30 = .ok (.istore_n 1, 1) := by decide +kernel
theorem dX10_mostLinks_31 : decode cX10_mostLinks 31 = .ok (.iinc 2 1, 3) := by decide +kernel
theorem dX10_mostLinks_34 : decode cX10_mostLinks 34 = .ok (.goto (-30), 3) := by decide +kernel
theorem dX10_mostLinks_37 : decode cX10_mostLinks 37 = .ok (.iload_n 1, 1) := by decide +kernel
theorem dX10_mostLinks_38 : decode cX10_mostLinks 38 = .ok (.ireturn, 1) := by decide +kernel
theorem dX10_size_0 : decode cX10_size 0 = .ok (.iconst 0, 1) := by decide +kernel
theorem dX10_size_1 : decode cX10_size 1 = .ok (.istore_n 1, 1) := by decide +kernel
theorem dX10_size_2 : decode cX10_size 2 = .ok (.iconst 0, 1) := by decide +kernel
theorem dX10_size_3 : decode cX10_size 3 = .ok (.istore_n 2, 1) := by decide +kernel
theorem dX10_size_4 : decode cX10_size 4 = .ok (.iload_n 2, 1) := by decide +kernel
theorem dX10_size_5 : decode cX10_size 5 = .ok (.sipush 162, 3) := by decide +kernel
theorem dX10_size_8 : decode cX10_size 8 = .ok (.if_icmp .ge 22, 3) := by decide +kernel
theorem dX10_size_11 : decode cX10_size 11 = .ok (.aload_n 0, 1) := by decide +kernel
theorem dX10_size_12 : decode cX10_size 12 = .ok (.getfield 11, 3) := by decide +kernel
theorem dX10_size_15 : decode cX10_size 15 = .ok (.iload_n 2, 1) := by decide +kernel
theorem dX10_size_16 : decode cX10_size 16 = .ok (.iaload, 1) := by decide +kernel
theorem dX10_size_17 : decode cX10_size 17 = .ok (.iload_n 2, 1) := by decide +kernel
theorem dX10_size_18 : decode cX10_size 18 = .ok (.if_icmp .ne 6, 3) := by decide +kernel
theorem dX10_size_21 : decode cX10_size 21 = .ok (.iinc 1 1, 3) := by decide +kernel
theorem dX10_size_24 : decode cX10_size 24 = .ok (.iinc 2 1, 3) := by decide +kernel
theorem dX10_size_27 : decode cX10_size 27 = .ok (.goto (-23), 3) := by decide +kernel
theorem dX10_size_30 : decode cX10_size 30 = .ok (.iload_n 1, 1) := by decide +kernel
theorem dX10_size_31 : decode cX10_size 31 = .ok (.ireturn, 1) := by decide +kernel
theorem dX11_afterReturn_0 : decode cX11_afterReturn 0 = .ok (.aload_n 0, 1) := by decide +kernel
theorem dX11_afterReturn_1 : decode cX11_afterReturn 1 = .ok (.getfield 28, 3) := by decide +kernel
theorem dX11_afterReturn_4 : decode cX11_afterReturn 4 = .ok (.getfield 127, 3) := by decide +kernel
theorem dX11_afterReturn_7 : decode cX11_afterReturn 7 = .ok (.aload_n 0, 1) := by decide +kernel
theorem dX11_afterReturn_8 : decode cX11_afterReturn 8 = .ok (.getfield 28, 3) := by decide +kernel
theorem dX11_afterReturn_11 : decode cX11_afterReturn 11 = .ok (.getfield 141, 3) := by decide +kernel
theorem dX11_afterReturn_14 : decode cX11_afterReturn 14 = .ok (.invokevirtual 257, 3) := by decide +kernel
theorem dX11_afterReturn_17 : decode cX11_afterReturn 17 = .ok (.iload_n 1, 1) := by decide +kernel
theorem dX11_afterReturn_18 : decode cX11_afterReturn 18 = .ok (.ireturn, 1) := by decide +kernel
theorem dX11_ahead_0 : decode cX11_ahead 0 = .ok (.aload_n 0, 1) := by decide +kernel
theorem dX11_ahead_1 : decode cX11_ahead 1 = .ok (.invokevirtual 136, 3) := by decide +kernel
theorem dX11_ahead_4 : decode cX11_ahead 4 = .ok (.ifCond .ne 22, 3) := by decide +kernel
theorem dX11_ahead_7 : decode cX11_ahead 7 = .ok (.iload_n 1, 1) := by decide +kernel
theorem dX11_ahead_8 : decode cX11_ahead 8 = .ok (.ifCond .lt 18, 3) := by decide +kernel
theorem dX11_ahead_11 : decode cX11_ahead 11 = .ok (.iload_n 1, 1) := by decide +kernel
theorem dX11_ahead_12 : decode cX11_ahead 12 = .ok (.bipush 40, 2) := by decide +kernel
theorem dX11_ahead_14 : decode cX11_ahead 14 = .ok (.if_icmp .gt 12, 3) := by decide +kernel
theorem dX11_ahead_17 : decode cX11_ahead 17 = .ok (.iload_n 2, 1) := by decide +kernel
theorem dX11_ahead_18 : decode cX11_ahead 18 = .ok (.ifCond .lt 8, 3) := by decide +kernel
theorem dX11_ahead_21 : decode cX11_ahead 21 = .ok (.iload_n 2, 1) := by decide +kernel
theorem dX11_ahead_22 : decode cX11_ahead 22 = .ok (.iconst 5, 1) := by decide +kernel
theorem dX11_ahead_23 : decode cX11_ahead 23 = .ok (.if_icmp .le 6, 3) := by decide +kernel
theorem dX11_ahead_26 : decode cX11_ahead 26 = .ok (.ldc 140, 2) := by decide +kernel
theorem dX11_ahead_28 : decode cX11_ahead 28 = .ok (.ireturn, 1) := by decide +kernel
theorem dX11_ahead_29 : decode cX11_ahead 29 = .ok (.aload_n 0, 1) := by decide +kernel
theorem dX11_ahead_30 : decode cX11_ahead 30 = .ok (.getfield 32, 3) := by decide +kernel
theorem dX11_ahead_33 : decode cX11_ahead 33 = .ok (.aload_n 0, 1) := by decide +kernel
theorem dX11_ahead_34 : decode cX11_ahead 34 = .ok (.getfield 28, 3) := by decide +kernel
theorem dX11_ahead_37 : decode cX11_ahead 37 = .ok (.invokevirtual 325, 3) := by decide +kernel
theorem dX11_ahead_40 : decode cX11_ahead 40 = .ok (.aload_n 0, 1) := by decide +kernel
theorem dX11_ahead_41 : decode cX11_ahead 41 = .ok (.getfield 32, 3) := by decide +kernel
theorem dX11_ahead_44 : decode cX11_ahead 44 = .ok (.invokevirtual 261, 3) := by decide +kernel
theorem dX11_ahead_47 : decode cX11_ahead 47 = .ok (.iconst 0, 1) := by decide +kernel
theorem dX11_ahead_48 : decode cX11_ahead 48 = .ok (.istore_n 3, 1) := by decide +kernel
theorem dX11_ahead_49 : decode cX11_ahead 49 = .ok (.iload_n 3, 1) := by decide +kernel
theorem dX11_ahead_50 : decode cX11_ahead 50 = .ok (.iload_n 1, 1) := by decide +kernel
theorem dX11_ahead_51 : decode cX11_ahead 51 = .ok (.if_icmp .ge 20, 3) := by decide +kernel
theorem dX11_ahead_54 : decode cX11_ahead 54 = .ok (.aload_n 0, 1) := by decide +kernel
theorem dX11_ahead_55 : decode cX11_ahead 55 = .ok (.getfield 32, 3) := by decide +kernel
theorem dX11_ahead_58 : decode cX11_ahead 58 = .ok (.aload_n 0, 1) := by decide +kernel
theorem dX11_ahead_59 : decode cX11_ahead 59 = .ok (.getfield 35, 3) := by decide +kernel
theorem dX11_ahead_62 : decode cX11_ahead 62 = .ok (.invokevirtual 264, 3) := by decide +kernel
theorem dX11_ahead_65 : decode cX11_ahead 65 = .ok (.iinc 3 1, 3) := by decide +kernel
theorem dX11_ahead_68 : decode cX11_ahead 68 = .ok (.goto (-19), 3) := by decide +kernel
theorem dX11_ahead_71 : decode cX11_ahead 71 = .ok (.iload_n 2, 1) := by decide +kernel
theorem dX11_ahead_72 : decode cX11_ahead 72 = .ok (.lookupswitch 69 #[(0, 36), (4, 47), (5, 58)], 36) := by decide +kernel
theorem dX11_ahead_108 : decode cX11_ahead 108 = .ok (.aload_n 0, 1) := by decide +kernel
theorem dX11_ahead_109 : decode cX11_ahead 109 = .ok (.getfield 32, 3) := by decide +kernel
theorem dX11_ahead_112 : decode cX11_ahead 112 = .ok (.getfield 127, 3) := by decide +kernel
theorem dX11_ahead_115 : decode cX11_ahead 115 = .ok (.getfield 131, 3) := by decide +kernel
theorem dX11_ahead_118 : decode cX11_ahead 118 = .ok (.ireturn, 1) := by decide +kernel
theorem dX11_ahead_119 : decode cX11_ahead 119 = .ok (.aload_n 0, 1) := by decide +kernel
theorem dX11_ahead_120 : decode cX11_ahead 120 = .ok (.getfield 32, 3) := by decide +kernel
theorem dX11_ahead_123 : decode cX11_ahead 123 = .ok (.getfield 127, 3) := by decide +kernel
theorem dX11_ahead_126 : decode cX11_ahead 126 = .ok (.invokevirtual 159, 3) := by decide +kernel
theorem dX11_ahead_129 : decode cX11_ahead 129 = .ok (.ireturn, 1) := by decide +kernel
theorem dX11_ahead_130 : decode cX11_ahead 130 = .ok (.aload_n 0, 1) := by decide +kernel
theorem dX11_ahead_131 : decode cX11_ahead 131 = .ok (.getfield 32, 3) := by decide +kernel
theorem dX11_ahead_134 : decode cX11_ahead 134 = .ok (.getfield 141, 3) := by decide +kernel
theorem dX11_ahead_137 : decode cX11_ahead 137 = .ok (.invokevirtual 153, 3) := by decide +kernel
theorem dX11_ahead_140 : decode cX11_ahead 140 = .ok (.ireturn, 1) := by decide +kernel
theorem dX11_ahead_141 : decode cX11_ahead 141 = .ok (.aload_n 0, 1) := by decide +kernel
theorem dX11_ahead_142 : decode cX11_ahead 142 = .ok (.getfield 32, 3) := by decide +kernel
theorem dX11_ahead_145 : decode cX11_ahead 145 = .ok (.getfield 268, 3) := by decide +kernel
theorem dX11_ahead_148 : decode cX11_ahead 148 = .ok (.iload_n 2, 1) := by decide +kernel
theorem dX11_ahead_149 : decode cX11_ahead 149 = .ok (.iconst 1, 1) := by decide +kernel
theorem dX11_ahead_150 : decode cX11_ahead 150 = .ok (.isub, 1) := by decide +kernel
theorem dX11_ahead_151 : decode cX11_ahead 151 = .ok (.iaload, 1) := by decide +kernel
theorem dX11_ahead_152 : decode cX11_ahead 152 = .ok (.ireturn, 1) := by decide +kernel
theorem dX11_back_0 : decode cX11_back 0 = .ok (.aload_n 0, 1) := by decide +kernel
theorem dX11_back_1 : decode cX11_back 1 = .ok (.getfield 120, 3) := by decide +kernel
theorem dX11_back_4 : decode cX11_back 4 = .ok (.ifCond .ne 5, 3) := by decide +kernel
theorem dX11_back_7 : decode cX11_back 7 = .ok (.iconst (-1), 1) := by decide +kernel
theorem dX11_back_8 : decode cX11_back 8 = .ok (.ireturn, 1) := by decide +kernel
theorem dX11_back_9 : decode cX11_back 9 = .ok (.aload_n 0, 1) := by decide +kernel
theorem dX11_back_10 : decode cX11_back 10 = .ok (.getfield 56, 3) := by decide +kernel
theorem dX11_back_13 : decode cX11_back 13 = .ok (.aload_n 0, 1) := by decide +kernel
theorem dX11_back_14 : decode cX11_back 14 = .ok (.getfield 28, 3) := by decide +kernel
theorem dX11_back_17 : decode cX11_back 17 = .ok (.getfield 141, 3) := by decide +kernel
theorem dX11_back_20 : decode cX11_back 20 = .ok (.aload_n 0, 1) := by decide +kernel
theorem dX11_back_21 : decode cX11_back 21 = .ok (.getfield 42, 3) := by decide +kernel
theorem dX11_back_24 : decode cX11_back 24 = .ok (.invokevirtual 358, 3) := by decide +kernel
theorem dX11_back_27 : decode cX11_back 27 = .ok (.aload_n 0, 1) := by decide +kernel
theorem dX11_back_28 : decode cX11_back 28 = .ok (.getfield 49, 3) := by decide +kernel
theorem dX11_back_31 : decode cX11_back 31 = .ok (.invokevirtual 117, 3) := by decide +kernel
theorem dX11_back_34 : decode cX11_back 34 = .ok (.aload_n 0, 1) := by decide +kernel
theorem dX11_back_35 : decode cX11_back 35 = .ok (.aload_n 0, 1) := by decide +kernel
theorem dX11_back_36 : decode cX11_back 36 = .ok (.getfield 42, 3) := by decide +kernel
theorem dX11_back_39 : decode cX11_back 39 = .ok (.getfield 114, 3) := by decide +kernel
theorem dX11_back_42 : decode cX11_back 42 = .ok (.invokevirtual 352, 3) := by decide +kernel
theorem dX11_back_45 : decode cX11_back 45 = .ok (.ireturn, 1) := by decide +kernel
theorem dX11_box_0 : decode cX11_box 0 = .ok (.aload_n 0, 1) := by decide +kernel
theorem dX11_box_1 : decode cX11_box 1 = .ok (.getfield 28, 3) := by decide +kernel
theorem dX11_box_4 : decode cX11_box 4 = .ok (.getfield 141, 3) := by decide +kernel
theorem dX11_box_7 : decode cX11_box 7 = .ok (.astore 6, 2) := by decide +kernel
theorem dX11_box_9 : decode cX11_box 9 = .ok (.aload 6, 2) := by decide +kernel
theorem dX11_box_11 : decode cX11_box 11 = .ok (.iload_n 1, 1) := by decide +kernel
theorem dX11_box_12 : decode cX11_box 12 = .ok (.iload_n 2, 1) := by decide +kernel
theorem dX11_box_13 : decode cX11_box 13 = .ok (.invokevirtual 207, 3) := by decide +kernel
theorem dX11_box_16 : decode cX11_box 16 = .ok (.ifCond .eq 36, 3) := by decide +kernel
theorem dX11_box_19 : decode cX11_box 19 = .ok (.aload 6, 2) := by decide +kernel
theorem dX11_box_21 : decode cX11_box 21 = .ok (.iload_n 3, 1) := by decide +kernel
theorem dX11_box_22 : decode cX11_box 22 = .ok (.iload 4, 2) := by decide +kernel
theorem dX11_box_24 : decode cX11_box 24 = .ok (.invokevirtual 207, 3) := by decide +kernel
theorem dX11_box_27 : decode cX11_box 27 = .ok (.ifCond .eq 25, 3) := by decide +kernel
theorem dX11_box_30 : decode cX11_box 30 = .ok (.iload_n 1, 1) := by decide +kernel
theorem dX11_box_31 : decode cX11_box 31 = .ok (.iload_n 3, 1) := by decide +kernel
theorem dX11_box_32 : decode cX11_box 32 = .ok (.if_icmp .ge 20, 3) := by decide +kernel
theorem dX11_box_35 : decode cX11_box 35 = .ok (.iload_n 2, 1) := by decide +kernel
theorem dX11_box_36 : decode cX11_box 36 = .ok (.iload 4, 2) := by decide +kernel
theorem dX11_box_38 : decode cX11_box 38 = .ok (.if_icmp .ge 14, 3) := by decide +kernel
theorem dX11_box_41 : decode cX11_box 41 = .ok (.iload 5, 2) := by decide +kernel
theorem dX11_box_43 : decode cX11_box 43 = .ok (.ifCond .lt 9, 3) := by decide +kernel
theorem dX11_box_46 : decode cX11_box 46 = .ok (.iload 5, 2) := by decide +kernel
theorem dX11_box_48 : decode cX11_box 48 = .ok (.iconst 3, 1) := by decide +kernel
theorem dX11_box_49 : decode cX11_box 49 = .ok (.if_icmp .le 6, 3) := by decide +kernel
theorem dX11_box_52 : decode cX11_box 52 = .ok (.ldc 140, 2) := by decide +kernel
theorem dX11_box_54 : decode cX11_box 54 = .ok (.ireturn, 1) := by decide +kernel
theorem dX11_box_55 : decode cX11_box 55 = .ok (.iload 5, 2) := by decide +kernel
theorem dX11_box_57 : decode cX11_box 57 = .ok (.iconst 2, 1) := by decide +kernel
theorem dX11_box_58 : decode cX11_box 58 = .ok (.if_icmp .ne 19, 3) := by decide +kernel
theorem dX11_box_61 : decode cX11_box 61 = .ok (.aload_n 0, 1) := by decide +kernel
theorem dX11_box_62 : decode cX11_box 62 = .ok (.getfield 28, 3) := by decide +kernel
theorem dX11_box_65 : decode cX11_box 65 = .ok (.getfield 127, 3) := by decide +kernel
theorem dX11_box_68 : decode cX11_box 68 = .ok (.iload_n 1, 1) := by decide +kernel
theorem dX11_box_69 : decode cX11_box 69 = .ok (.iload_n 2, 1) := by decide +kernel
theorem dX11_box_70 : decode cX11_box 70 = .ok (.iload_n 3, 1) := by decide +kernel
theorem dX11_box_71 : decode cX11_box 71 = .ok (.iload 4, 2) := by decide +kernel
theorem dX11_box_73 : decode cX11_box 73 = .ok (.invokevirtual 210, 3) := by decide +kernel
theorem dX11_box_76 : decode cX11_box 76 = .ok (.ireturn, 1) := by decide +kernel
theorem dX11_box_77 : decode cX11_box 77 = .ok (.iload 5, 2) := by decide +kernel
theorem dX11_box_79 : decode cX11_box 79 = .ok (.iconst 3, 1) := by decide +kernel
theorem dX11_box_80 : decode cX11_box 80 = .ok (.if_icmp .ne 14, 3) := by decide +kernel
theorem dX11_box_83 : decode cX11_box 83 = .ok (.iconst 2, 1) := by decide +kernel
theorem dX11_box_84 : decode cX11_box 84 = .ok (.iload_n 3, 1) := by decide +kernel
theorem dX11_box_85 : decode cX11_box 85 = .ok (.iload_n 1, 1) := by decide +kernel
theorem dX11_box_86 : decode cX11_box 86 = .ok (.isub, 1) := by decide +kernel
theorem dX11_box_87 : decode cX11_box 87 = .ok (.iload 4, 2) := by decide +kernel
theorem dX11_box_89 : decode cX11_box 89 = .ok (.iadd, 1) := by decide +kernel
theorem dX11_box_90 : decode cX11_box 90 = .ok (.iload_n 2, 1) := by decide +kernel
theorem dX11_box_91 : decode cX11_box 91 = .ok (.isub, 1) := by decide +kernel
theorem dX11_box_92 : decode cX11_box 92 = .ok (.imul, 1) := by decide +kernel
theorem dX11_box_93 : decode cX11_box 93 = .ok (.ireturn, 1) := by decide +kernel
theorem dX11_box_94 : decode cX11_box 94 = .ok (.aload 6, 2) := by decide +kernel
theorem dX11_box_96 : decode cX11_box 96 = .ok (.iload_n 1, 1) := by decide +kernel
theorem dX11_box_97 : decode cX11_box 97 = .ok (.iload_n 2, 1) := by decide +kernel
theorem dX11_box_98 : decode cX11_box 98 = .ok (.iload_n 3, 1) := by decide +kernel
theorem dX11_box_99 : decode cX11_box 99 = .ok (.iload 4, 2) := by decide +kernel
theorem dX11_box_101 : decode cX11_box 101 = .ok (.iload 5, 2) := by decide +kernel
theorem dX11_box_103 : decode cX11_box 103 = .ok (.invokevirtual 213, 3) := by decide +kernel
theorem dX11_box_106 : decode cX11_box 106 = .ok (.ireturn, 1) := by decide +kernel
theorem dX11_core_0 : decode cX11_core 0 = .ok (.iload_n 1, 1) := by decide +kernel
theorem dX11_core_1 : decode cX11_core 1 = .ok (.ifCond .lt 26, 3) := by decide +kernel
theorem dX11_core_4 : decode cX11_core 4 = .ok (.iload_n 1, 1) := by decide +kernel
theorem dX11_core_5 : decode cX11_core 5 = .ok (.aload_n 0, 1) := by decide +kernel
theorem dX11_core_6 : decode cX11_core 6 = .ok (.getfield 28, 3) := by decide +kernel
theorem dX11_core_9 : decode cX11_core 9 = .ok (.getfield 127, 3) := by decide +kernel
theorem dX11_core_12 : decode cX11_core 12 = .ok (.getfield 131, 3) := by decide +kernel
theorem dX11_core_15 : decode cX11_core 15 = .ok (.if_icmp .ge 12, 3) := by decide +kernel
theorem dX11_core_18 : decode cX11_core 18 = .ok (.iload_n 2, 1) := by decide +kernel
theorem dX11_core_19 : decode cX11_core 19 = .ok (.ifCond .lt 8, 3) := by decide +kernel
theorem dX11_core_22 : decode cX11_core 22 = .ok (.iload_n 2, 1) := by decide +kernel
theorem dX11_core_23 : decode cX11_core 23 = .ok (.iconst 5, 1) := by decide +kernel
theorem dX11_core_24 : decode cX11_core 24 = .ok (.if_icmp .le 11, 3) := by decide +kernel
theorem dX11_core_27 : decode cX11_core 27 = .ok (.new 171, 3) := by decide +kernel
theorem dX11_core_30 : decode cX11_core 30 = .ok (.dup, 1) := by decide +kernel
theorem dX11_core_31 : decode cX11_core 31 = .ok (.invokespecial 173, 3) := by decide +kernel
theorem dX11_core_34 : decode cX11_core 34 = .ok (.athrow, 1) := by decide +kernel
theorem dX11_core_35 : decode cX11_core 35 = .ok (.iload_n 2, 1) := by decide +kernel
theorem dX11_core_36 : decode cX11_core 36 = .ok (.tableswitch 76 0 4 #[36, 36, 49, 49, 64], 36) := by decide +kernel
theorem dX11_core_72 : decode cX11_core 72 = .ok (.aload_n 0, 1) := by decide +kernel
theorem dX11_core_73 : decode cX11_core 73 = .ok (.getfield 28, 3) := by decide +kernel
theorem dX11_core_76 : decode cX11_core 76 = .ok (.getfield 127, 3) := by decide +kernel
theorem dX11_core_79 : decode cX11_core 79 = .ok (.iload_n 1, 1) := by decide +kernel
theorem dX11_core_80 : decode cX11_core 80 = .ok (.iload_n 2, 1) := by decide +kernel
theorem dX11_core_81 : decode cX11_core 81 = .ok (.invokevirtual 174, 3) := by decide +kernel
theorem dX11_core_84 : decode cX11_core 84 = .ok (.ireturn, 1) := by decide +kernel
theorem dX11_core_85 : decode cX11_core 85 = .ok (.aload_n 0, 1) := by decide +kernel
theorem dX11_core_86 : decode cX11_core 86 = .ok (.getfield 28, 3) := by decide +kernel
theorem dX11_core_89 : decode cX11_core 89 = .ok (.getfield 127, 3) := by decide +kernel
theorem dX11_core_92 : decode cX11_core 92 = .ok (.iload_n 1, 1) := by decide +kernel
theorem dX11_core_93 : decode cX11_core 93 = .ok (.iload_n 2, 1) := by decide +kernel
theorem dX11_core_94 : decode cX11_core 94 = .ok (.iconst 2, 1) := by decide +kernel
theorem dX11_core_95 : decode cX11_core 95 = .ok (.isub, 1) := by decide +kernel
theorem dX11_core_96 : decode cX11_core 96 = .ok (.invokevirtual 178, 3) := by decide +kernel
theorem dX11_core_99 : decode cX11_core 99 = .ok (.ireturn, 1) := by decide +kernel
theorem dX11_core_100 : decode cX11_core 100 = .ok (.aload_n 0, 1) := by decide +kernel
theorem dX11_core_101 : decode cX11_core 101 = .ok (.getfield 28, 3) := by decide +kernel
theorem dX11_core_104 : decode cX11_core 104 = .ok (.getfield 127, 3) := by decide +kernel
theorem dX11_core_107 : decode cX11_core 107 = .ok (.iload_n 1, 1) := by decide +kernel
theorem dX11_core_108 : decode cX11_core 108 = .ok (.invokevirtual 181, 3) := by decide +kernel
theorem dX11_core_111 : decode cX11_core 111 = .ok (.ireturn, 1) := by decide +kernel
theorem dX11_core_112 : decode cX11_core 112 = .ok (.aload_n 0, 1) := by decide +kernel
theorem dX11_core_113 : decode cX11_core 113 = .ok (.getfield 28, 3) := by decide +kernel
theorem dX11_core_116 : decode cX11_core 116 = .ok (.getfield 127, 3) := by decide +kernel
theorem dX11_core_119 : decode cX11_core 119 = .ok (.iload_n 1, 1) := by decide +kernel
theorem dX11_core_120 : decode cX11_core 120 = .ok (.aload_n 0, 1) := by decide +kernel
theorem dX11_core_121 : decode cX11_core 121 = .ok (.getfield 35, 3) := by decide +kernel
theorem dX11_core_124 : decode cX11_core 124 = .ok (.invokevirtual 184, 3) := by decide +kernel
theorem dX11_core_127 : decode cX11_core 127 = .ok (.ireturn, 1) := by decide +kernel
theorem dX11_count_0 : decode cX11_count 0 = .ok (.iload_n 1, 1) := by decide +kernel
theorem dX11_count_1 : decode cX11_count 1 = .ok (.tableswitch 51 0 2 #[27, 35, 43], 27) := by decide +kernel
theorem dX11_count_28 : decode cX11_count 28 = .ok (.aload_n 0, 1) := by decide +kernel
theorem dX11_count_29 : decode cX11_count 29 = .ok (.getfield 10, 3) := by decide +kernel
theorem dX11_count_32 : decode cX11_count 32 = .ok (.getfield 91, 3) := by decide +kernel
theorem dX11_count_35 : decode cX11_count 35 = .ok (.ireturn, 1) := by decide +kernel
theorem dX11_count_36 : decode cX11_count 36 = .ok (.aload_n 0, 1) := by decide +kernel
theorem dX11_count_37 : decode cX11_count 37 = .ok (.getfield 49, 3) := by decide +kernel
theorem dX11_count_40 : decode cX11_count 40 = .ok (.getfield 351, 3) := by decide +kernel
theorem dX11_count_43 : decode cX11_count 43 = .ok (.ireturn, 1) := by decide +kernel
theorem dX11_count_44 : decode cX11_count 44 = .ok (.aload_n 0, 1) := by decide +kernel
theorem dX11_count_45 : decode cX11_count 45 = .ok (.getfield 42, 3) := by decide +kernel
theorem dX11_count_48 : decode cX11_count 48 = .ok (.invokevirtual 275, 3) := by decide +kernel
theorem dX11_count_51 : decode cX11_count 51 = .ok (.ireturn, 1) := by decide +kernel
theorem dX11_count_52 : decode cX11_count 52 = .ok (.iconst (-1), 1) := by decide +kernel
theorem dX11_count_53 : decode cX11_count 53 = .ok (.ireturn, 1) := by decide +kernel
theorem dX11_directionOf_0 : decode cX11_directionOf 0 = .ok (.iload_n 0, 1) := by decide +kernel
theorem dX11_directionOf_1 : decode cX11_directionOf 1 = .ok (.lookupswitch 51 #[(100, 49), (108, 47), (114, 43), (117, 45)], 43) := by decide +kernel
theorem dX11_directionOf_44 : decode cX11_directionOf 44 = .ok (.iconst 0, 1) := by decide +kernel
theorem dX11_directionOf_45 : decode cX11_directionOf 45 = .ok (.ireturn, 1) := by decide +kernel
theorem dX11_directionOf_46 : decode cX11_directionOf 46 = .ok (.iconst 1, 1) := by decide +kernel
theorem dX11_directionOf_47 : decode cX11_directionOf 47 = .ok (.ireturn, 1) := by decide +kernel
theorem dX11_directionOf_48 : decode cX11_directionOf 48 = .ok (.iconst 2, 1) := by decide +kernel
theorem dX11_directionOf_49 : decode cX11_directionOf 49 = .ok (.ireturn, 1) := by decide +kernel
theorem dX11_directionOf_50 : decode cX11_directionOf 50 = .ok (.iconst 3, 1) := by decide +kernel
theorem dX11_directionOf_51 : decode cX11_directionOf 51 = .ok (.ireturn, 1) := by decide +kernel
theorem dX11_directionOf_52 : decode cX11_directionOf 52 = .ok (.iconst (-1), 1) := by decide +kernel
theorem dX11_directionOf_53 : decode cX11_directionOf 53 = .ok (.ireturn, 1) := by decide +kernel
theorem dX11_drawOf_0 : decode cX11_drawOf 0 = .ok (.iload_n 2, 1) := by decide +kernel
theorem dX11_drawOf_1 : decode cX11_drawOf 1 = .ok (.ifCond .le 14, 3) := by decide +kernel
theorem dX11_drawOf_4 : decode cX11_drawOf 4 = .ok (.lload_n 0, 1) := by decide +kernel
theorem dX11_drawOf_5 : decode cX11_drawOf 5 = .ok (.bipush 33, 2) := by decide +kernel
theorem dX11_drawOf_7 : decode cX11_drawOf 7 = .ok (.lushr, 1) := by decide +kernel
theorem dX11_drawOf_8 : decode cX11_drawOf 8 = .ok (.iload_n 2, 1) := by decide +kernel
theorem dX11_drawOf_9 : decode cX11_drawOf 9 = .ok (.i2l, 1) := by decide +kernel
theorem dX11_drawOf_10 : decode cX11_drawOf 10 = .ok (.lrem, 1) := by decide +kernel
theorem dX11_drawOf_11 : decode cX11_drawOf 11 = .ok (.l2i, 1) := by decide +kernel
theorem dX11_drawOf_12 : decode cX11_drawOf 12 = .ok (.goto 4, 3) := by decide +kernel
theorem dX11_drawOf_15 : decode cX11_drawOf 15 = .ok (.iconst 0, 1) := by decide +kernel
theorem dX11_drawOf_16 : decode cX11_drawOf 16 = .ok (.ireturn, 1) := by decide +kernel
theorem dX11_end_0 : decode cX11_end 0 = .ok (.iload_n 1, 1) := by decide +kernel
theorem dX11_end_1 : decode cX11_end 1 = .ok (.ifCond .lt 14, 3) := by decide +kernel
theorem dX11_end_4 : decode cX11_end 4 = .ok (.iload_n 1, 1) := by decide +kernel
theorem dX11_end_5 : decode cX11_end 5 = .ok (.aload_n 0, 1) := by decide +kernel
theorem dX11_end_6 : decode cX11_end 6 = .ok (.getfield 10, 3) := by decide +kernel
theorem dX11_end_9 : decode cX11_end 9 = .ok (.getfield 91, 3) := by decide +kernel
theorem dX11_end_12 : decode cX11_end 12 = .ok (.if_icmp .le 5, 3) := by decide +kernel
theorem dX11_end_15 : decode cX11_end 15 = .ok (.iconst 0, 1) := by decide +kernel
theorem dX11_end_16 : decode cX11_end 16 = .ok (.ireturn, 1) := by decide +kernel
theorem dX11_end_17 : decode cX11_end 17 = .ok (.aload_n 0, 1) := by decide +kernel
theorem dX11_end_18 : decode cX11_end 18 = .ok (.getfield 10, 3) := by decide +kernel
theorem dX11_end_21 : decode cX11_end 21 = .ok (.iload_n 1, 1) := by decide +kernel
theorem dX11_end_22 : decode cX11_end 22 = .ok (.putfield 91, 3) := by decide +kernel
theorem dX11_end_25 : decode cX11_end 25 = .ok (.iconst 1, 1) := by decide +kernel
theorem dX11_end_26 : decode cX11_end 26 = .ok (.ireturn, 1) := by decide +kernel
theorem dX11_face_0 : decode cX11_face 0 = .ok (.aload_n 0, 1) := by decide +kernel
theorem dX11_face_1 : decode cX11_face 1 = .ok (.getfield 28, 3) := by decide +kernel
theorem dX11_face_4 : decode cX11_face 4 = .ok (.getfield 141, 3) := by decide +kernel
theorem dX11_face_7 : decode cX11_face 7 = .ok (.iload_n 1, 1) := by decide +kernel
theorem dX11_face_8 : decode cX11_face 8 = .ok (.iload_n 2, 1) := by decide +kernel
theorem dX11_face_9 : decode cX11_face 9 = .ok (.invokevirtual 188, 3) := by decide +kernel
theorem dX11_face_12 : decode cX11_face 12 = .ok (.ifCond .eq 12, 3) := by decide +kernel
theorem dX11_face_15 : decode cX11_face 15 = .ok (.iload_n 3, 1) := by decide +kernel
theorem dX11_face_16 : decode cX11_face 16 = .ok (.ifCond .lt 8, 3) := by decide +kernel
theorem dX11_face_19 : decode cX11_face 19 = .ok (.iload_n 3, 1) := by decide +kernel
theorem dX11_face_20 : decode cX11_face 20 = .ok (.iconst 2, 1) := by decide +kernel
theorem dX11_face_21 : decode cX11_face 21 = .ok (.if_icmp .le 6, 3) := by decide +kernel
theorem dX11_face_24 : decode cX11_face 24 = .ok (.ldc 140, 2) := by decide +kernel
theorem dX11_face_26 : decode cX11_face 26 = .ok (.ireturn, 1) := by decide +kernel
theorem dX11_face_27 : decode cX11_face 27 = .ok (.iload_n 3, 1) := by decide +kernel
theorem dX11_face_28 : decode cX11_face 28 = .ok (.iconst 2, 1) := by decide +kernel
theorem dX11_face_29 : decode cX11_face 29 = .ok (.if_icmp .ne 18, 3) := by decide +kernel
theorem dX11_face_32 : decode cX11_face 32 = .ok (.aload_n 0, 1) := by decide +kernel
theorem dX11_face_33 : decode cX11_face 33 = .ok (.getfield 28, 3) := by decide +kernel
theorem dX11_face_36 : decode cX11_face 36 = .ok (.getfield 127, 3) := by decide +kernel
theorem dX11_face_39 : decode cX11_face 39 = .ok (.iload_n 1, 1) := by decide +kernel
theorem dX11_face_40 : decode cX11_face 40 = .ok (.iload_n 2, 1) := by decide +kernel
theorem dX11_face_41 : decode cX11_face 41 = .ok (.invokevirtual 192, 3) := by decide +kernel
theorem dX11_face_44 : decode cX11_face 44 = .ok (.goto 16, 3) := by decide +kernel
theorem dX11_face_47 : decode cX11_face 47 = .ok (.aload_n 0, 1) := by decide +kernel
theorem dX11_face_48 : decode cX11_face 48 = .ok (.getfield 28, 3) := by decide +kernel
theorem dX11_face_51 : decode cX11_face 51 = .ok (.getfield 141, 3) := by decide +kernel
theorem dX11_face_54 : decode cX11_face 54 = .ok (.iload_n 1, 1) := by decide +kernel
theorem dX11_face_55 : decode cX11_face 55 = .ok (.iload_n 2, 1) := by decide +kernel
theorem dX11_face_56 : decode cX11_face 56 = .ok (.iload_n 3, 1) := by decide +kernel
theorem dX11_face_57 : decode cX11_face 57 = .ok (.invokevirtual 195, 3) := by decide +kernel
theorem dX11_face_60 : decode cX11_face 60 = .ok (.ireturn, 1) := by decide +kernel
theorem dX11_fault_0 : decode cX11_fault 0 = .ok (.aload_n 0, 1) := by decide +kernel
theorem dX11_fault_1 : decode cX11_fault 1 = .ok (.getfield 21, 3) := by decide +kernel
theorem dX11_fault_4 : decode cX11_fault 4 = .ok (.invokevirtual 99, 3) := by decide +kernel
theorem dX11_fault_7 : decode cX11_fault 7 = .ok (.ireturn, 1) := by decide +kernel
theorem dX11_feed_0 : decode cX11_feed 0 = .ok (.iload_n 1, 1) := by decide +kernel
theorem dX11_feed_1 : decode cX11_feed 1 = .ok (.invokestatic 87, 3) := by decide +kernel
theorem dX11_feed_4 : decode cX11_feed 4 = .ok (.iload_n 2, 1) := by decide +kernel
theorem dX11_feed_5 : decode cX11_feed 5 = .ok (.invokestatic 87, 3) := by decide +kernel
theorem dX11_feed_8 : decode cX11_feed 8 = .ok (.iadd, 1) := by decide +kernel
theorem dX11_feed_9 : decode cX11_feed 9 = .ok (.iload_n 3, 1) := by decide +kernel
theorem dX11_feed_10 : decode cX11_feed 10 = .ok (.invokestatic 87, 3) := by decide +kernel
theorem dX11_feed_13 : decode cX11_feed 13 = .ok (.iadd, 1) := by decide +kernel
theorem dX11_feed_14 : decode cX11_feed 14 = .ok (.iload 4, 2) := by decide +kernel
theorem dX11_feed_16 : decode cX11_feed 16 = .ok (.invokestatic 87, 3) := by decide +kernel
theorem dX11_feed_19 : decode cX11_feed 19 = .ok (.iadd, 1) := by decide +kernel
theorem dX11_feed_20 : decode cX11_feed 20 = .ok (.iload 5, 2) := by decide +kernel
theorem dX11_feed_22 : decode cX11_feed 22 = .ok (.invokestatic 87, 3) := by decide +kernel
theorem dX11_feed_25 : decode cX11_feed 25 = .ok (.iadd, 1) := by decide +kernel
theorem dX11_feed_26 : decode cX11_feed 26 = .ok (.istore 6, 2) := by decide +kernel
theorem dX11_feed_28 : decode cX11_feed 28 = .ok (.aload_n 0, 1) := by decide +kernel
theorem dX11_feed_29 : decode cX11_feed 29 = .ok (.getfield 10, 3) := by decide +kernel
theorem dX11_feed_32 : decode cX11_feed 32 = .ok (.getfield 91, 3) := by decide +kernel
theorem dX11_feed_35 : decode cX11_feed 35 = .ok (.iload 6, 2) := by decide +kernel
theorem dX11_feed_37 : decode cX11_feed 37 = .ok (.iadd, 1) := by decide +kernel
theorem dX11_feed_38 : decode cX11_feed 38 = .ok (.sipush 300, 3) := by decide +kernel
theorem dX11_feed_41 : decode cX11_feed 41 = .ok (.if_icmp .le 5, 3) := by decide +kernel
theorem dX11_feed_44 : decode cX11_feed 44 = .ok (.iconst (-1), 1) := by decide +kernel
theorem dX11_feed_45 : decode cX11_feed 45 = .ok (.ireturn, 1) := by decide +kernel
theorem dX11_feed_46 : decode cX11_feed 46 = .ok (.aload_n 0, 1) := by decide +kernel
theorem dX11_feed_47 : decode cX11_feed 47 = .ok (.getfield 10, 3) := by decide +kernel
theorem dX11_feed_50 : decode cX11_feed 50 = .ok (.iload_n 1, 1) := by decide +kernel
theorem dX11_feed_51 : decode cX11_feed 51 = .ok (.invokevirtual 95, 3) := by decide +kernel
theorem dX11_feed_54 : decode cX11_feed 54 = .ok (.aload_n 0, 1) := by decide +kernel
theorem dX11_feed_55 : decode cX11_feed 55 = .ok (.getfield 10, 3) := by decide +kernel
theorem dX11_feed_58 : decode cX11_feed 58 = .ok (.iload_n 2, 1) := by decide +kernel
theorem dX11_feed_59 : decode cX11_feed 59 = .ok (.invokevirtual 95, 3) := by decide +kernel
theorem dX11_feed_62 : decode cX11_feed 62 = .ok (.aload_n 0, 1) := by decide +kernel
theorem dX11_feed_63 : decode cX11_feed 63 = .ok (.getfield 10, 3) := by decide +kernel
theorem dX11_feed_66 : decode cX11_feed 66 = .ok (.iload_n 3, 1) := by decide +kernel
theorem dX11_feed_67 : decode cX11_feed 67 = .ok (.invokevirtual 95, 3) := by decide +kernel
theorem dX11_feed_70 : decode cX11_feed 70 = .ok (.aload_n 0, 1) := by decide +kernel
theorem dX11_feed_71 : decode cX11_feed 71 = .ok (.getfield 10, 3) := by decide +kernel
theorem dX11_feed_74 : decode cX11_feed 74 = .ok (.iload 4, 2) := by decide +kernel
theorem dX11_feed_76 : decode cX11_feed 76 = .ok (.invokevirtual 95, 3) := by decide +kernel
theorem dX11_feed_79 : decode cX11_feed 79 = .ok (.aload_n 0, 1) := by decide +kernel
theorem dX11_feed_80 : decode cX11_feed 80 = .ok (.getfield 10, 3) := by decide +kernel
theorem dX11_feed_83 : decode cX11_feed 83 = .ok (.iload 5, 2) := by decide +kernel
theorem dX11_feed_85 : decode cX11_feed 85 = .ok (.invokevirtual 95, 3) := by decide +kernel
theorem dX11_feed_88 : decode cX11_feed 88 = .ok (.aload_n 0, 1) := by decide +kernel
theorem dX11_feed_89 : decode cX11_feed 89 = .ok (.getfield 10, 3) := by decide +kernel
theorem dX11_feed_92 : decode cX11_feed 92 = .ok (.getfield 91, 3) := by decide +kernel
theorem dX11_feed_95 : decode cX11_feed 95 = .ok (.ireturn, 1) := by decide +kernel
theorem dX11_go_0 : decode cX11_go 0 = .ok (.aload_n 0, 1) := by decide +kernel
theorem dX11_go_1 : decode cX11_go 1 = .ok (.invokevirtual 136, 3) := by decide +kernel
theorem dX11_go_4 : decode cX11_go 4 = .ok (.ifCond .eq 9, 3) := by decide +kernel
theorem dX11_go_7 : decode cX11_go 7 = .ok (.aload_n 0, 1) := by decide +kernel
theorem dX11_go_8 : decode cX11_go 8 = .ok (.iconst 0, 1) := by decide +kernel
theorem dX11_go_9 : decode cX11_go 9 = .ok (.invokevirtual 243, 3) := by decide +kernel
theorem dX11_go_12 : decode cX11_go 12 = .ok (.ireturn, 1) := by decide +kernel
theorem dX11_go_13 : decode cX11_go 13 = .ok (.iload_n 1, 1) := by decide +kernel
theorem dX11_go_14 : decode cX11_go 14 = .ok (.iconst 1, 1) := by decide +kernel
theorem dX11_go_15 : decode cX11_go 15 = .ok (.if_icmp .lt 9, 3) := by decide +kernel
theorem dX11_go_18 : decode cX11_go 18 = .ok (.iload_n 1, 1) := by decide +kernel
theorem dX11_go_19 : decode cX11_go 19 = .ok (.bipush 40, 2) := by decide +kernel
theorem dX11_go_21 : decode cX11_go 21 = .ok (.if_icmp .le 9, 3) := by decide +kernel
theorem dX11_go_24 : decode cX11_go 24 = .ok (.aload_n 0, 1) := by decide +kernel
theorem dX11_go_25 : decode cX11_go 25 = .ok (.iconst 2, 1) := by decide +kernel
theorem dX11_go_26 : decode cX11_go 26 = .ok (.invokevirtual 243, 3) := by decide +kernel
theorem dX11_go_29 : decode cX11_go 29 = .ok (.ireturn, 1) := by decide +kernel
theorem dX11_go_30 : decode cX11_go 30 = .ok (.iconst 0, 1) := by decide +kernel
theorem dX11_go_31 : decode cX11_go 31 = .ok (.istore_n 2, 1) := by decide +kernel
theorem dX11_go_32 : decode cX11_go 32 = .ok (.iconst 0, 1) := by decide +kernel
theorem dX11_go_33 : decode cX11_go 33 = .ok (.istore_n 3, 1) := by decide +kernel
theorem dX11_go_34 : decode cX11_go 34 = .ok (.iload_n 3, 1) := by decide +kernel
theorem dX11_go_35 : decode cX11_go 35 = .ok (.iload_n 1, 1) := by decide +kernel
theorem dX11_go_36 : decode cX11_go 36 = .ok (.if_icmp .ge 81, 3) := by decide +kernel
theorem dX11_go_39 : decode cX11_go 39 = .ok (.aload_n 0, 1) := by decide +kernel
theorem dX11_go_40 : decode cX11_go 40 = .ok (.getfield 49, 3) := by decide +kernel
theorem dX11_go_43 : decode cX11_go 43 = .ok (.aload_n 0, 1) := by decide +kernel
theorem dX11_go_44 : decode cX11_go 44 = .ok (.getfield 28, 3) := by decide +kernel
theorem dX11_go_47 : decode cX11_go 47 = .ok (.getfield 141, 3) := by decide +kernel
theorem dX11_go_50 : decode cX11_go 50 = .ok (.aload_n 0, 1) := by decide +kernel
theorem dX11_go_51 : decode cX11_go 51 = .ok (.getfield 42, 3) := by decide +kernel
theorem dX11_go_54 : decode cX11_go 54 = .ok (.invokevirtual 250, 3) := by decide +kernel
theorem dX11_go_57 : decode cX11_go 57 = .ok (.aload_n 0, 1) := by decide +kernel
theorem dX11_go_58 : decode cX11_go 58 = .ok (.getfield 28, 3) := by decide +kernel
theorem dX11_go_61 : decode cX11_go 61 = .ok (.invokevirtual 261, 3) := by decide +kernel
theorem dX11_go_64 : decode cX11_go 64 = .ok (.aload_n 0, 1) := by decide +kernel
theorem dX11_go_65 : decode cX11_go 65 = .ok (.getfield 28, 3) := by decide +kernel
theorem dX11_go_68 : decode cX11_go 68 = .ok (.aload_n 0, 1) := by decide +kernel
theorem dX11_go_69 : decode cX11_go 69 = .ok (.getfield 35, 3) := by decide +kernel
theorem dX11_go_72 : decode cX11_go 72 = .ok (.invokevirtual 264, 3) := by decide +kernel
theorem dX11_go_75 : decode cX11_go 75 = .ok (.aload_n 0, 1) := by decide +kernel
theorem dX11_go_76 : decode cX11_go 76 = .ok (.getfield 42, 3) := by decide +kernel
theorem dX11_go_79 : decode cX11_go 79 = .ok (.aload_n 0, 1) := by decide +kernel
theorem dX11_go_80 : decode cX11_go 80 = .ok (.getfield 28, 3) := by decide +kernel
theorem dX11_go_83 : decode cX11_go 83 = .ok (.getfield 268, 3) := by decide +kernel
theorem dX11_go_86 : decode cX11_go 86 = .ok (.aload_n 0, 1) := by decide +kernel
theorem dX11_go_87 : decode cX11_go 87 = .ok (.getfield 28, 3) := by decide +kernel
theorem dX11_go_90 : decode cX11_go 90 = .ok (.getfield 127, 3) := by decide +kernel
theorem dX11_go_93 : decode cX11_go 93 = .ok (.getfield 131, 3) := by decide +kernel
theorem dX11_go_96 : decode cX11_go 96 = .ok (.invokevirtual 271, 3) := by decide +kernel
theorem dX11_go_99 : decode cX11_go 99 = .ok (.iload_n 2, 1) := by decide +kernel
theorem dX11_go_100 : decode cX11_go 100 = .ok (.aload_n 0, 1) := by decide +kernel
theorem dX11_go_101 : decode cX11_go 101 = .ok (.getfield 28, 3) := by decide +kernel
theorem dX11_go_104 : decode cX11_go 104 = .ok (.getfield 268, 3) := by decide +kernel
theorem dX11_go_107 : decode cX11_go 107 = .ok (.iconst 0, 1) := by decide +kernel
theorem dX11_go_108 : decode cX11_go 108 = .ok (.iaload, 1) := by decide +kernel
theorem dX11_go_109 : decode cX11_go 109 = .ok (.iadd, 1) := by decide +kernel
theorem dX11_go_110 : decode cX11_go 110 = .ok (.istore_n 2, 1) := by decide +kernel
theorem dX11_go_111 : decode cX11_go 111 = .ok (.iinc 3 1, 3) := by decide +kernel
theorem dX11_go_114 : decode cX11_go 114 = .ok (.goto (-80), 3) := by decide +kernel
theorem dX11_go_117 : decode cX11_go 117 = .ok (.iload_n 2, 1) := by decide +kernel
theorem dX11_go_118 : decode cX11_go 118 = .ok (.ireturn, 1) := by decide +kernel
