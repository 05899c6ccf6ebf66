theorem dX12_readsNumber_0 : decode cX12_readsNumber 0 = .ok (.aload_n 0, 1) := by decide +kernel
theorem dX12_readsNumber_1 : decode cX12_readsNumber 1 = .ok (.iconst 2, 1) := by decide +kernel
theorem dX12_readsNumber_2 : decode cX12_readsNumber 2 = .ok (.putfield 111, 3) := by decide +kernel
theorem dX12_readsNumber_5 : decode cX12_readsNumber 5 = .ok (.aload_n 0, 1) := by decide +kernel
theorem dX12_readsNumber_6 : decode cX12_readsNumber 6 = .ok (.dup, 1) := by decide +kernel
theorem dX12_readsNumber_7 : decode cX12_readsNumber 7 = .ok (.getfield 101, 3) := by decide +kernel
theorem dX12_readsNumber_10 : decode cX12_readsNumber 10 = .ok (.iload_n 1, 1) := by decide +kernel
theorem dX12_readsNumber_11 : decode cX12_readsNumber 11 = .ok (.ifCond .eq 7, 3) := by decide +kernel
theorem dX12_readsNumber_14 : decode cX12_readsNumber 14 = .ok (.iconst 1, 1) := by decide +kernel
theorem dX12_readsNumber_15 : decode cX12_readsNumber 15 = .ok (.goto 4, 3) := by decide +kernel
theorem dX12_readsNumber_18 : decode cX12_readsNumber 18 = .ok (.iconst 0, 1) := by decide +kernel
theorem dX12_readsNumber_19 : decode cX12_readsNumber 19 = .ok (.iadd, 1) := by decide +kernel
theorem dX12_readsNumber_20 : decode cX12_readsNumber 20 = .ok (.putfield 101, 3) := by decide +kernel
theorem dX12_readsNumber_23 : decode cX12_readsNumber 23 = .ok (.aload_n 0, 1) := by decide +kernel
theorem dX12_readsNumber_24 : decode cX12_readsNumber 24 = .ok (.getfield 101, 3) := by decide +kernel
theorem dX12_readsNumber_27 : decode cX12_readsNumber 27 = .ok (.istore_n 2, 1) := by decide +kernel
theorem dX12_readsNumber_28 : decode cX12_readsNumber 28 = .ok (.aload_n 0, 1) := by decide +kernel
theorem dX12_readsNumber_29 : decode cX12_readsNumber 29 = .ok (.iconst 0, 1) := by decide +kernel
theorem dX12_readsNumber_30 : decode cX12_readsNumber 30 = .ok (.putfield 125, 3) := by decide +kernel
theorem dX12_readsNumber_33 : decode cX12_readsNumber 33 = .ok (.aload_n 0, 1) := by decide +kernel
theorem dX12_readsNumber_34 : decode cX12_readsNumber 34 = .ok (.aload_n 0, 1) := by decide +kernel
theorem dX12_readsNumber_35 : decode cX12_readsNumber 35 = .ok (.getfield 101, 3) := by decide +kernel
theorem dX12_readsNumber_38 : decode cX12_readsNumber 38 = .ok (.invokevirtual 104, 3) := by decide +kernel
theorem dX12_readsNumber_41 : decode cX12_readsNumber 41 = .ok (.invokestatic 118, 3) := by decide +kernel
theorem dX12_readsNumber_44 : decode cX12_readsNumber 44 = .ok (.ifCond .eq 45, 3) := by decide +kernel
theorem dX12_readsNumber_47 : decode cX12_readsNumber 47 = .ok (.aload_n 0, 1) := by decide +kernel
theorem dX12_readsNumber_48 : decode cX12_readsNumber 48 = .ok (.sipush 1000, 3) := by decide +kernel
theorem dX12_readsNumber_51 : decode cX12_readsNumber 51 = .ok (.bipush 10, 2) := by decide +kernel
theorem dX12_readsNumber_53 : decode cX12_readsNumber 53 = .ok (.aload_n 0, 1) := by decide +kernel
theorem dX12_readsNumber_54 : decode cX12_readsNumber 54 = .ok (.getfield 125, 3) := by decide +kernel
theorem dX12_readsNumber_57 : decode cX12_readsNumber 57 = .ok (.imul, 1) := by decide +kernel
theorem dX12_readsNumber_58 : decode cX12_readsNumber 58 = .ok (.aload_n 0, 1) := by decide +kernel
theorem dX12_readsNumber_59 : decode cX12_readsNumber 59 = .ok (.aload_n 0, 1) := by decide +kernel
theorem dX12_readsNumber_60 : decode cX12_readsNumber 60 = .ok (.getfield 101, 3) := by decide +kernel
theorem dX12_readsNumber_63 : decode cX12_readsNumber 63 = .ok (.invokevirtual 104, 3) := by decide +kernel
theorem dX12_readsNumber_66 : decode cX12_readsNumber 66 = .ok (.iadd, 1) := by decide +kernel
theorem dX12_readsNumber_67 : decode cX12_readsNumber 67 = .ok (.bipush 48, 2) := by decide +kernel
theorem dX12_readsNumber_69 : decode cX12_readsNumber 69 = .ok (.isub, 1) := by decide +kernel
theorem dX12_readsNumber_70 : decode cX12_readsNumber 70 = .ok (.invokestatic 128, 3) := by decide +kernel
theorem dX12_readsNumber_73 : decode cX12_readsNumber 73 = .ok (.putfield 125, 3) := by decide +kernel
theorem dX12_readsNumber_76 : decode cX12_readsNumber 76 = .ok (.aload_n 0, 1) := by decide +kernel
theorem dX12_readsNumber_77 : decode cX12_readsNumber 77 = .ok (.dup, 1) := by decide +kernel
theorem dX12_readsNumber_78 : decode cX12_readsNumber 78 = .ok (.getfield 101, 3) := by decide +kernel
theorem dX12_readsNumber_81 : decode cX12_readsNumber 81 = .ok (.iconst 1, 1) := by decide +kernel
theorem dX12_readsNumber_82 : decode cX12_readsNumber 82 = .ok (.iadd, 1) := by decide +kernel
theorem dX12_readsNumber_83 : decode cX12_readsNumber 83 = .ok (.putfield 101, 3) := by decide +kernel
theorem dX12_readsNumber_86 : decode cX12_readsNumber 86 = .ok (.goto (-53), 3) := by decide +kernel
theorem dX12_readsNumber_89 : decode cX12_readsNumber 89 = .ok (.aload_n 0, 1) := by decide +kernel
theorem dX12_readsNumber_90 : decode cX12_readsNumber 90 = .ok (.aload_n 0, 1) := by decide +kernel
theorem dX12_readsNumber_91 : decode cX12_readsNumber 91 = .ok (.getfield 101, 3) := by decide +kernel
theorem dX12_readsNumber_94 : decode cX12_readsNumber 94 = .ok (.iload_n 2, 1) := by decide +kernel
theorem dX12_readsNumber_95 : decode cX12_readsNumber 95 = .ok (.isub, 1) := by decide +kernel
theorem dX12_readsNumber_96 : decode cX12_readsNumber 96 = .ok (.iconst 2, 1) := by decide +kernel
theorem dX12_readsNumber_97 : decode cX12_readsNumber 97 = .ok (.if_icmp .le 9, 3) := by decide +kernel
theorem dX12_readsNumber_100 : decode cX12_readsNumber 100 = .ok (.sipush 10000, 3) := by decide +kernel
theorem dX12_readsNumber_103 : decode cX12_readsNumber 103 = .ok (.goto 19, 3) := by decide +kernel
theorem dX12_readsNumber_106 : decode cX12_readsNumber 106 = .ok (.iload_n 1, 1) := by decide +kernel
theorem dX12_readsNumber_107 : decode cX12_readsNumber 107 = .ok (.ifCond .eq 11, 3) := by decide +kernel
theorem dX12_readsNumber_110 : decode cX12_readsNumber 110 = .ok (.aload_n 0, 1) := by decide +kernel
theorem dX12_readsNumber_111 : decode cX12_readsNumber 111 = .ok (.getfield 125, 3) := by decide +kernel
theorem dX12_readsNumber_114 : decode cX12_readsNumber 114 = .ok (.ineg, 1) := by decide +kernel
theorem dX12_readsNumber_115 : decode cX12_readsNumber 115 = .ok (.goto 7, 3) := by decide +kernel
theorem dX12_readsNumber_118 : decode cX12_readsNumber 118 = .ok (.aload_n 0, 1) := by decide +kernel
theorem dX12_readsNumber_119 : decode cX12_readsNumber 119 = .ok (.getfield 125, 3) := by decide +kernel
theorem dX12_readsNumber_122 : decode cX12_readsNumber 122 = .ok (.putfield 125, 3) := by decide +kernel
theorem dX12_readsNumber_125 : decode cX12_readsNumber 125 = .ok (.return_, 1) := by decide +kernel
theorem dX12_readsPiece_0 : decode cX12_readsPiece 0 = .ok (.aload_n 0, 1) := by decide +kernel
theorem dX12_readsPiece_1 : decode cX12_readsPiece 1 = .ok (.ldc 169, 2) := by decide +kernel
theorem dX12_readsPiece_3 : decode cX12_readsPiece 3 = .ok (.invokevirtual 171, 3) := by decide +kernel
theorem dX12_readsPiece_6 : decode cX12_readsPiece 6 = .ok (.ifCond .eq 19, 3) := by decide +kernel
theorem dX12_readsPiece_9 : decode cX12_readsPiece 9 = .ok (.aload_n 0, 1) := by decide +kernel
theorem dX12_readsPiece_10 : decode cX12_readsPiece 10 = .ok (.getfield 153, 3) := by decide +kernel
theorem dX12_readsPiece_13 : decode cX12_readsPiece 13 = .ok (.bipush 10, 2) := by decide +kernel
theorem dX12_readsPiece_15 : decode cX12_readsPiece 15 = .ok (.if_icmp .ge 10, 3) := by decide +kernel
theorem dX12_readsPiece_18 : decode cX12_readsPiece 18 = .ok (.aload_n 0, 1) := by decide +kernel
theorem dX12_readsPiece_19 : decode cX12_readsPiece 19 = .ok (.invokevirtual 175, 3) := by decide +kernel
theorem dX12_readsPiece_22 : decode cX12_readsPiece 22 = .ok (.goto 144, 3) := by decide +kernel
theorem dX12_readsPiece_25 : decode cX12_readsPiece 25 = .ok (.aload_n 0, 1) := by decide +kernel
theorem dX12_readsPiece_26 : decode cX12_readsPiece 26 = .ok (.ldc 178, 2) := by decide +kernel
theorem dX12_readsPiece_28 : decode cX12_readsPiece 28 = .ok (.invokevirtual 171, 3) := by decide +kernel
theorem dX12_readsPiece_31 : decode cX12_readsPiece 31 = .ok (.ifCond .eq 50, 3) := by decide +kernel
theorem dX12_readsPiece_34 : decode cX12_readsPiece 34 = .ok (.aload_n 0, 1) := by decide +kernel
theorem dX12_readsPiece_35 : decode cX12_readsPiece 35 = .ok (.getfield 180, 3) := by decide +kernel
theorem dX12_readsPiece_38 : decode cX12_readsPiece 38 = .ok (.ifCond .ne 43, 3) := by decide +kernel
theorem dX12_readsPiece_41 : decode cX12_readsPiece 41 = .ok (.aload_n 0, 1) := by decide +kernel
theorem dX12_readsPiece_42 : decode cX12_readsPiece 42 = .ok (.iconst 1, 1) := by decide +kernel
theorem dX12_readsPiece_43 : decode cX12_readsPiece 43 = .ok (.putfield 180, 3) := by decide +kernel
theorem dX12_readsPiece_46 : decode cX12_readsPiece 46 = .ok (.aload_n 0, 1) := by decide +kernel
theorem dX12_readsPiece_47 : decode cX12_readsPiece 47 = .ok (.invokevirtual 147, 3) := by decide +kernel
theorem dX12_readsPiece_50 : decode cX12_readsPiece 50 = .ok (.aload_n 0, 1) := by decide +kernel
theorem dX12_readsPiece_51 : decode cX12_readsPiece 51 = .ok (.getfield 25, 3) := by decide +kernel
theorem dX12_readsPiece_54 : decode cX12_readsPiece 54 = .ok (.iconst 0, 1) := by decide +kernel
theorem dX12_readsPiece_55 : decode cX12_readsPiece 55 = .ok (.aload_n 0, 1) := by decide +kernel
theorem dX12_readsPiece_56 : decode cX12_readsPiece 56 = .ok (.bipush (-20), 2) := by decide +kernel
theorem dX12_readsPiece_58 : decode cX12_readsPiece 58 = .ok (.bipush 20, 2) := by decide +kernel
theorem dX12_readsPiece_60 : decode cX12_readsPiece 60 = .ok (.invokevirtual 159, 3) := by decide +kernel
theorem dX12_readsPiece_63 : decode cX12_readsPiece 63 = .ok (.iastore, 1) := by decide +kernel
theorem dX12_readsPiece_64 : decode cX12_readsPiece 64 = .ok (.aload_n 0, 1) := by decide +kernel
theorem dX12_readsPiece_65 : decode cX12_readsPiece 65 = .ok (.getfield 25, 3) := by decide +kernel
theorem dX12_readsPiece_68 : decode cX12_readsPiece 68 = .ok (.iconst 1, 1) := by decide +kernel
theorem dX12_readsPiece_69 : decode cX12_readsPiece 69 = .ok (.aload_n 0, 1) := by decide +kernel
theorem dX12_readsPiece_70 : decode cX12_readsPiece 70 = .ok (.bipush (-20), 2) := by decide +kernel
theorem dX12_readsPiece_72 : decode cX12_readsPiece 72 = .ok (.bipush 20, 2) := by decide +kernel
theorem dX12_readsPiece_74 : decode cX12_readsPiece 74 = .ok (.invokevirtual 159, 3) := by decide +kernel
theorem dX12_readsPiece_77 : decode cX12_readsPiece 77 = .ok (.iastore, 1) := by decide +kernel
theorem dX12_readsPiece_78 : decode cX12_readsPiece 78 = .ok (.goto 88, 3) := by decide +kernel
theorem dX12_readsPiece_81 : decode cX12_readsPiece 81 = .ok (.aload_n 0, 1) := by decide +kernel
theorem dX12_readsPiece_82 : decode cX12_readsPiece 82 = .ok (.ldc 184, 2) := by decide +kernel
theorem dX12_readsPiece_84 : decode cX12_readsPiece 84 = .ok (.invokevirtual 171, 3) := by decide +kernel
theorem dX12_readsPiece_87 : decode cX12_readsPiece 87 = .ok (.ifCond .eq 35, 3) := by decide +kernel
theorem dX12_readsPiece_90 : decode cX12_readsPiece 90 = .ok (.aload_n 0, 1) := by decide +kernel
theorem dX12_readsPiece_91 : decode cX12_readsPiece 91 = .ok (.getfield 186, 3) := by decide +kernel
theorem dX12_readsPiece_94 : decode cX12_readsPiece 94 = .ok (.ifCond .ne 28, 3) := by decide +kernel
theorem dX12_readsPiece_97 : decode cX12_readsPiece 97 = .ok (.aload_n 0, 1) := by decide +kernel
theorem dX12_readsPiece_98 : decode cX12_readsPiece 98 = .ok (.iconst 1, 1) := by decide +kernel
theorem dX12_readsPiece_99 : decode cX12_readsPiece 99 = .ok (.putfield 186, 3) := by decide +kernel
theorem dX12_readsPiece_102 : decode cX12_readsPiece 102 = .ok (.aload_n 0, 1) := by decide +kernel
theorem dX12_readsPiece_103 : decode cX12_readsPiece 103 = .ok (.invokevirtual 147, 3) := by decide +kernel
theorem dX12_readsPiece_106 : decode cX12_readsPiece 106 = .ok (.aload_n 0, 1) := by decide +kernel
theorem dX12_readsPiece_107 : decode cX12_readsPiece 107 = .ok (.getfield 25, 3) := by decide +kernel
theorem dX12_readsPiece_110 : decode cX12_readsPiece 110 = .ok (.iconst 2, 1) := by decide +kernel
theorem dX12_readsPiece_111 : decode cX12_readsPiece 111 = .ok (.aload_n 0, 1) := by decide +kernel
theorem dX12_readsPiece_112 : decode cX12_readsPiece 112 = .ok (.iconst 0, 1) := by decide +kernel
theorem dX12_readsPiece_113 : decode cX12_readsPiece 113 = .ok (.bipush 99, 2) := by decide +kernel
theorem dX12_readsPiece_115 : decode cX12_readsPiece 115 = .ok (.invokevirtual 159, 3) := by decide +kernel
theorem dX12_readsPiece_118 : decode cX12_readsPiece 118 = .ok (.iastore, 1) := by decide +kernel
theorem dX12_readsPiece_119 : decode cX12_readsPiece 119 = .ok (.goto 47, 3) := by decide +kernel
theorem dX12_readsPiece_122 : decode cX12_readsPiece 122 = .ok (.aload_n 0, 1) := by decide +kernel
theorem dX12_readsPiece_123 : decode cX12_readsPiece 123 = .ok (.ldc 189, 2) := by decide +kernel
theorem dX12_readsPiece_125 : decode cX12_readsPiece 125 = .ok (.invokevirtual 171, 3) := by decide +kernel
theorem dX12_readsPiece_128 : decode cX12_readsPiece 128 = .ok (.ifCond .eq 34, 3) := by decide +kernel
theorem dX12_readsPiece_131 : decode cX12_readsPiece 131 = .ok (.aload_n 0, 1) := by decide +kernel
theorem dX12_readsPiece_132 : decode cX12_readsPiece 132 = .ok (.getfield 191, 3) := by decide +kernel
theorem dX12_readsPiece_135 : decode cX12_readsPiece 135 = .ok (.ifCond .ne 27, 3) := by decide +kernel
theorem dX12_readsPiece_138 : decode cX12_readsPiece 138 = .ok (.aload_n 0, 1) := by decide +kernel
theorem dX12_readsPiece_139 : decode cX12_readsPiece 139 = .ok (.iconst 1, 1) := by decide +kernel
theorem dX12_readsPiece_140 : decode cX12_readsPiece 140 = .ok (.putfield 191, 3) := by decide +kernel
theorem dX12_readsPiece_143 : decode cX12_readsPiece 143 = .ok (.aload_n 0, 1) := by decide +kernel
theorem dX12_readsPiece_144 : decode cX12_readsPiece 144 = .ok (.invokevirtual 147, 3) := by decide +kernel
theorem dX12_readsPiece_147 : decode cX12_readsPiece 147 = .ok (.aload_n 0, 1) := by decide +kernel
theorem dX12_readsPiece_148 : decode cX12_readsPiece 148 = .ok (.getfield 25, 3) := by decide +kernel
theorem dX12_readsPiece_151 : decode cX12_readsPiece 151 = .ok (.iconst 3, 1) := by decide +kernel
theorem dX12_readsPiece_152 : decode cX12_readsPiece 152 = .ok (.aload_n 0, 1) := by decide +kernel
theorem dX12_readsPiece_153 : decode cX12_readsPiece 153 = .ok (.iconst 0, 1) := by decide +kernel
theorem dX12_readsPiece_154 : decode cX12_readsPiece 154 = .ok (.iconst 2, 1) := by decide +kernel
theorem dX12_readsPiece_155 : decode cX12_readsPiece 155 = .ok (.invokevirtual 159, 3) := by decide +kernel
theorem dX12_readsPiece_158 : decode cX12_readsPiece 158 = .ok (.iastore, 1) := by decide +kernel
theorem dX12_readsPiece_159 : decode cX12_readsPiece 159 = .ok (.goto 7, 3) := by decide +kernel
theorem dX12_readsPiece_162 : decode cX12_readsPiece 162 = .ok (.aload_n 0, 1) := by decide +kernel
theorem dX12_readsPiece_163 : decode cX12_readsPiece 163 = .ok (.invokevirtual 150, 3) := by decide +kernel
theorem dX12_readsPiece_166 : decode cX12_readsPiece 166 = .ok (.return_, 1) := by decide +kernel
theorem dX12_refuses_0 : decode cX12_refuses 0 = .ok (.aload_n 0, 1) := by decide +kernel
theorem dX12_refuses_1 : decode cX12_refuses 1 = .ok (.getfield 52, 3) := by decide +kernel
theorem dX12_refuses_4 : decode cX12_refuses 4 = .ok (.iload_n 1, 1) := by decide +kernel
theorem dX12_refuses_5 : decode cX12_refuses 5 = .ok (.dup2, 1) := by decide +kernel
theorem dX12_refuses_6 : decode cX12_refuses 6 = .ok (.iaload, 1) := by decide +kernel
theorem dX12_refuses_7 : decode cX12_refuses 7 = .ok (.iconst 1, 1) := by decide +kernel
theorem dX12_refuses_8 : decode cX12_refuses 8 = .ok (.iadd, 1) := by decide +kernel
theorem dX12_refuses_9 : decode cX12_refuses 9 = .ok (.iastore, 1) := by decide +kernel
theorem dX12_refuses_10 : decode cX12_refuses 10 = .ok (.iconst (-1), 1) := by decide +kernel
theorem dX12_refuses_11 : decode cX12_refuses 11 = .ok (.ireturn, 1) := by decide +kernel
theorem dX12_rests_0 : decode cX12_rests 0 = .ok (.aload_n 0, 1) := by decide +kernel
theorem dX12_rests_1 : decode cX12_rests 1 = .ok (.iconst 0, 1) := by decide +kernel
theorem dX12_rests_2 : decode cX12_rests 2 = .ok (.putfield 86, 3) := by decide +kernel
theorem dX12_rests_5 : decode cX12_rests 5 = .ok (.aload_n 0, 1) := by decide +kernel
theorem dX12_rests_6 : decode cX12_rests 6 = .ok (.invokevirtual 306, 3) := by decide +kernel
theorem dX12_rests_9 : decode cX12_rests 9 = .ok (.ifCond .ne 5, 3) := by decide +kernel
theorem dX12_rests_12 : decode cX12_rests 12 = .ok (.iconst (-1), 1) := by decide +kernel
theorem dX12_rests_13 : decode cX12_rests 13 = .ok (.ireturn, 1) := by decide +kernel
theorem dX12_rests_14 : decode cX12_rests 14 = .ok (.aload_n 0, 1) := by decide +kernel
theorem dX12_rests_15 : decode cX12_rests 15 = .ok (.invokevirtual 455, 3) := by decide +kernel
theorem dX12_rests_18 : decode cX12_rests 18 = .ok (.iconst 0, 1) := by decide +kernel
theorem dX12_rests_19 : decode cX12_rests 19 = .ok (.istore_n 1, 1) := by decide +kernel
theorem dX12_rests_20 : decode cX12_rests 20 = .ok (.iload_n 1, 1) := by decide +kernel
theorem dX12_rests_21 : decode cX12_rests 21 = .ok (.bipush 40, 2) := by decide +kernel
theorem dX12_rests_23 : decode cX12_rests 23 = .ok (.if_icmp .gt 26, 3) := by decide +kernel
theorem dX12_rests_26 : decode cX12_rests 26 = .ok (.aload_n 0, 1) := by decide +kernel
theorem dX12_rests_27 : decode cX12_rests 27 = .ok (.invokevirtual 467, 3) := by decide +kernel
theorem dX12_rests_30 : decode cX12_rests 30 = .ok (.aload_n 0, 1) := by decide +kernel
theorem dX12_rests_31 : decode cX12_rests 31 = .ok (.getfield 31, 3) := by decide +kernel
theorem dX12_rests_34 : decode cX12_rests 34 = .ok (.iconst 2, 1) := by decide +kernel
theorem dX12_rests_35 : decode cX12_rests 35 = .ok (.iaload, 1) := by decide +kernel
theorem dX12_rests_36 : decode cX12_rests 36 = .ok (.if_icmp .le 13, 3) := by decide +kernel
theorem dX12_rests_39 : decode cX12_rests 39 = .ok (.aload_n 0, 1) := by decide +kernel
theorem dX12_rests_40 : decode cX12_rests 40 = .ok (.invokevirtual 390, 3) := by decide +kernel
theorem dX12_rests_43 : decode cX12_rests 43 = .ok (.iinc 1 1, 3) := by decide +kernel
theorem dX12_rests_46 : decode cX12_rests 46 = .ok (.goto (-26), 3) := by decide +kernel
theorem dX12_rests_49 : decode cX12_rests 49 = .ok (.aload_n 0, 1) := by decide +kernel
theorem dX12_rests_50 : decode cX12_rests 50 = .ok (.invokevirtual 461, 3) := by decide +kernel
theorem dX12_rests_53 : decode cX12_rests 53 = .ok (.iload_n 1, 1) := by decide +kernel
theorem dX12_rests_54 : decode cX12_rests 54 = .ok (.bipush 40, 2) := by decide +kernel
theorem dX12_rests_56 : decode cX12_rests 56 = .ok (.if_icmp .le 7, 3) := by decide +kernel
theorem dX12_rests_59 : decode cX12_rests 59 = .ok (.iconst (-1), 1) := by decide +kernel
theorem dX12_rests_60 : decode cX12_rests 60 = .ok (.goto 4, 3) := by decide +kernel
theorem dX12_rests_63 : decode cX12_rests 63 = .ok (.iload_n 1, 1) := by decide +kernel
theorem dX12_rests_64 : decode cX12_rests 64 = .ok (.ireturn, 1) := by decide +kernel
theorem dX12_rid_0 : decode cX12_rid 0 = .ok (.aload_n 0, 1) := by decide +kernel
theorem dX12_rid_1 : decode cX12_rid 1 = .ok (.iconst 0, 1) := by decide +kernel
theorem dX12_rid_2 : decode cX12_rid 2 = .ok (.putfield 86, 3) := by decide +kernel
theorem dX12_rid_5 : decode cX12_rid 5 = .ok (.aload_n 0, 1) := by decide +kernel
theorem dX12_rid_6 : decode cX12_rid 6 = .ok (.invokevirtual 306, 3) := by decide +kernel
theorem dX12_rid_9 : decode cX12_rid 9 = .ok (.ifCond .eq 23, 3) := by decide +kernel
theorem dX12_rid_12 : decode cX12_rid 12 = .ok (.iload_n 1, 1) := by decide +kernel
theorem dX12_rid_13 : decode cX12_rid 13 = .ok (.i2l, 1) := by decide +kernel
theorem dX12_rid_14 : decode cX12_rid 14 = .ok (.lconst 1, 1) := by decide +kernel
theorem dX12_rid_15 : decode cX12_rid 15 = .ok (.ldc2_w 399, 3) := by decide +kernel
theorem dX12_rid_18 : decode cX12_rid 18 = .ok (.invokestatic 97, 3) := by decide +kernel
theorem dX12_rid_21 : decode cX12_rid 21 = .ok (.ifCond .eq 11, 3) := by decide +kernel
theorem dX12_rid_24 : decode cX12_rid 24 = .ok (.aload_n 0, 1) := by decide +kernel
theorem dX12_rid_25 : decode cX12_rid 25 = .ok (.iload_n 1, 1) := by decide +kernel
theorem dX12_rid_26 : decode cX12_rid 26 = .ok (.invokevirtual 452, 3) := by decide +kernel
theorem dX12_rid_29 : decode cX12_rid 29 = .ok (.goto 4, 3) := by decide +kernel
theorem dX12_rid_32 : decode cX12_rid 32 = .ok (.iconst (-1), 1) := by decide +kernel
theorem dX12_rid_33 : decode cX12_rid 33 = .ok (.ireturn, 1) := by decide +kernel
theorem dX12_round_0 : decode cX12_round 0 = .ok (.aload_n 0, 1) := by decide +kernel
theorem dX12_round_1 : decode cX12_round 1 = .ok (.invokevirtual 238, 3) := by decide +kernel
theorem dX12_round_4 : decode cX12_round 4 = .ok (.pop, 1) := by decide +kernel
theorem dX12_round_5 : decode cX12_round 5 = .ok (.aload_n 0, 1) := by decide +kernel
theorem dX12_round_6 : decode cX12_round 6 = .ok (.getfield 241, 3) := by decide +kernel
theorem dX12_round_9 : decode cX12_round 9 = .ok (.istore_n 1, 1) := by decide +kernel
theorem dX12_round_10 : decode cX12_round 10 = .ok (.iconst 0, 1) := by decide +kernel
theorem dX12_round_11 : decode cX12_round 11 = .ok (.istore_n 2, 1) := by decide +kernel
theorem dX12_round_12 : decode cX12_round 12 = .ok (.iload_n 2, 1) := by decide +kernel
theorem dX12_round_13 : decode cX12_round 13 = .ok (.iload_n 1, 1) := by decide +kernel
theorem dX12_round_14 : decode cX12_round 14 = .ok (.if_icmp .ge 181, 3) := by decide +kernel
theorem dX12_round_17 : decode cX12_round 17 = .ok (.aload_n 0, 1) := by decide +kernel
theorem dX12_round_18 : decode cX12_round 18 = .ok (.getfield 34, 3) := by decide +kernel
theorem dX12_round_21 : decode cX12_round 21 = .ok (.iload_n 2, 1) := by decide +kernel
theorem dX12_round_22 : decode cX12_round 22 = .ok (.iaload, 1) := by decide +kernel
theorem dX12_round_23 : decode cX12_round 23 = .ok (.istore_n 3, 1) := by decide +kernel
theorem dX12_round_24 : decode cX12_round 24 = .ok (.aload_n 0, 1) := by decide +kernel
theorem dX12_round_25 : decode cX12_round 25 = .ok (.getfield 37, 3) := by decide +kernel
theorem dX12_round_28 : decode cX12_round 28 = .ok (.iload_n 2, 1) := by decide +kernel
theorem dX12_round_29 : decode cX12_round 29 = .ok (.iaload, 1) := by decide +kernel
theorem dX12_round_30 : decode cX12_round 30 = .ok (.istore 4, 2) := by decide +kernel
theorem dX12_round_32 : decode cX12_round 32 = .ok (.aload_n 0, 1) := by decide +kernel
theorem dX12_round_33 : decode cX12_round 33 = .ok (.getfield 46, 3) := by decide +kernel
theorem dX12_round_36 : decode cX12_round 36 = .ok (.iload_n 2, 1) := by decide +kernel
theorem dX12_round_37 : decode cX12_round 37 = .ok (.iaload, 1) := by decide +kernel
theorem dX12_round_38 : decode cX12_round 38 = .ok (.invokestatic 370, 3) := by decide +kernel
theorem dX12_round_41 : decode cX12_round 41 = .ok (.aload_n 0, 1) := by decide +kernel
theorem dX12_round_42 : decode cX12_round 42 = .ok (.getfield 31, 3) := by decide +kernel
theorem dX12_round_45 : decode cX12_round 45 = .ok (.iconst 2, 1) := by decide +kernel
theorem dX12_round_46 : decode cX12_round 46 = .ok (.iaload, 1) := by decide +kernel
theorem dX12_round_47 : decode cX12_round 47 = .ok (.if_icmp .le 41, 3) := by decide +kernel
theorem dX12_round_50 : decode cX12_round 50 = .ok (.aload_n 0, 1) := by decide +kernel
theorem dX12_round_51 : decode cX12_round 51 = .ok (.iload_n 3, 1) := by decide +kernel
theorem dX12_round_52 : decode cX12_round 52 = .ok (.iload 4, 2) := by decide +kernel
theorem dX12_round_54 : decode cX12_round 54 = .ok (.iconst 0, 1) := by decide +kernel
theorem dX12_round_55 : decode cX12_round 55 = .ok (.invokevirtual 221, 3) := by decide +kernel
theorem dX12_round_58 : decode cX12_round 58 = .ok (.aload_n 0, 1) := by decide +kernel
theorem dX12_round_59 : decode cX12_round 59 = .ok (.getfield 40, 3) := by decide +kernel
theorem dX12_round_62 : decode cX12_round 62 = .ok (.iload_n 2, 1) := by decide +kernel
theorem dX12_round_63 : decode cX12_round 63 = .ok (.iaload, 1) := by decide +kernel
theorem dX12_round_64 : decode cX12_round 64 = .ok (.if_icmp .ne 24, 3) := by decide +kernel
theorem dX12_round_67 : decode cX12_round 67 = .ok (.aload_n 0, 1) := by decide +kernel
theorem dX12_round_68 : decode cX12_round 68 = .ok (.iload_n 3, 1) := by decide +kernel
theorem dX12_round_69 : decode cX12_round 69 = .ok (.iload 4, 2) := by decide +kernel
theorem dX12_round_71 : decode cX12_round 71 = .ok (.iconst 1, 1) := by decide +kernel
theorem dX12_round_72 : decode cX12_round 72 = .ok (.invokevirtual 221, 3) := by decide +kernel
theorem dX12_round_75 : decode cX12_round 75 = .ok (.aload_n 0, 1) := by decide +kernel
theorem dX12_round_76 : decode cX12_round 76 = .ok (.getfield 43, 3) := by decide +kernel
theorem dX12_round_79 : decode cX12_round 79 = .ok (.iload_n 2, 1) := by decide +kernel
theorem dX12_round_80 : decode cX12_round 80 = .ok (.iaload, 1) := by decide +kernel
theorem dX12_round_81 : decode cX12_round 81 = .ok (.if_icmp .ne 7, 3) := by decide +kernel
theorem dX12_round_84 : decode cX12_round 84 = .ok (.iconst 1, 1) := by decide +kernel
theorem dX12_round_85 : decode cX12_round 85 = .ok (.goto 4, 3) := by decide +kernel
theorem dX12_round_88 : decode cX12_round 88 = .ok (.iconst 0, 1) := by decide +kernel
theorem dX12_round_89 : decode cX12_round 89 = .ok (.istore 5, 2) := by decide +kernel
theorem dX12_round_91 : decode cX12_round 91 = .ok (.iload 5, 2) := by decide +kernel
theorem dX12_round_93 : decode cX12_round 93 = .ok (.ifCond .eq 96, 3) := by decide +kernel
theorem dX12_round_96 : decode cX12_round 96 = .ok (.aload_n 0, 1) := by decide +kernel
theorem dX12_round_97 : decode cX12_round 97 = .ok (.iload_n 3, 1) := by decide +kernel
theorem dX12_round_98 : decode cX12_round 98 = .ok (.iload 4, 2) := by decide +kernel
theorem dX12_round_100 : decode cX12_round 100 = .ok (.aload_n 0, 1) := by decide +kernel
theorem dX12_round_101 : decode cX12_round 101 = .ok (.iload_n 2, 1) := by decide +kernel
theorem dX12_round_102 : decode cX12_round 102 = .ok (.invokevirtual 269, 3) := by decide +kernel
theorem dX12_round_105 : decode cX12_round 105 = .ok (.aload_n 0, 1) := by decide +kernel
theorem dX12_round_106 : decode cX12_round 106 = .ok (.getfield 46, 3) := by decide +kernel
theorem dX12_round_109 : decode cX12_round 109 = .ok (.iload_n 2, 1) := by decide +kernel
theorem dX12_round_110 : decode cX12_round 110 = .ok (.iaload, 1) := by decide +kernel
theorem dX12_round_111 : decode cX12_round 111 = .ok (.ifCond .le 7, 3) := by decide +kernel
theorem dX12_round_114 : decode cX12_round 114 = .ok (.iconst 1, 1) := by decide +kernel
theorem dX12_round_115 : decode cX12_round 115 = .ok (.goto 4, 3) := by decide +kernel
theorem dX12_round_118 : decode cX12_round 118 = .ok (.iconst 0, 1) := by decide +kernel
theorem dX12_round_119 : decode cX12_round 119 = .ok (.invokestatic 372, 3) := by decide +kernel
theorem dX12_round_122 : decode cX12_round 122 = .ok (.aload_n 0, 1) := by decide +kernel
theorem dX12_round_123 : decode cX12_round 123 = .ok (.getfield 40, 3) := by decide +kernel
theorem dX12_round_126 : decode cX12_round 126 = .ok (.iload_n 2, 1) := by decide +kernel
theorem dX12_round_127 : decode cX12_round 127 = .ok (.iaload, 1) := by decide +kernel
theorem dX12_round_128 : decode cX12_round 128 = .ok (.aload_n 0, 1) := by decide +kernel
theorem dX12_round_129 : decode cX12_round 129 = .ok (.getfield 43, 3) := by decide +kernel
theorem dX12_round_132 : decode cX12_round 132 = .ok (.iload_n 2, 1) := by decide +kernel
theorem dX12_round_133 : decode cX12_round 133 = .ok (.iaload, 1) := by decide +kernel
theorem dX12_round_134 : decode cX12_round 134 = .ok (.invokevirtual 367, 3) := by decide +kernel
theorem dX12_round_137 : decode cX12_round 137 = .ok (.istore 6, 2) := by decide +kernel
theorem dX12_round_139 : decode cX12_round 139 = .ok (.aload_n 0, 1) := by decide +kernel
theorem dX12_round_140 : decode cX12_round 140 = .ok (.dup, 1) := by decide +kernel
theorem dX12_round_141 : decode cX12_round 141 = .ok (.getfield 376, 3) := by decide +kernel
theorem dX12_round_144 : decode cX12_round 144 = .ok (.iconst 1, 1) := by decide +kernel
theorem dX12_round_145 : decode cX12_round 145 = .ok (.iadd, 1) := by decide +kernel
theorem dX12_round_146 : decode cX12_round 146 = .ok (.putfield 376, 3) := by decide +kernel
theorem dX12_round_149 : decode cX12_round 149 = .ok (.aload_n 0, 1) := by decide +kernel
theorem dX12_round_150 : decode cX12_round 150 = .ok (.dup, 1) := by decide +kernel
theorem dX12_round_151 : decode cX12_round 151 = .ok (.getfield 379, 3) := by decide +kernel
theorem dX12_round_154 : decode cX12_round 154 = .ok (.iload 6, 2) := by decide +kernel
theorem dX12_round_156 : decode cX12_round 156 = .ok (.iconst 2, 1) := by decide +kernel
theorem dX12_round_157 : decode cX12_round 157 = .ok (.if_icmp .ne 7, 3) := by decide +kernel
theorem dX12_round_160 : decode cX12_round 160 = .ok (.iconst 1, 1) := by decide +kernel
theorem dX12_round_161 : decode cX12_round 161 = .ok (.goto 4, 3) := by decide +kernel
theorem dX12_round_164 : decode cX12_round 164 = .ok (.iconst 0, 1) := by decide +kernel
theorem dX12_round_165 : decode cX12_round 165 = .ok (.iadd, 1) := by decide +kernel
theorem dX12_round_166 : decode cX12_round 166 = .ok (.putfield 379, 3) := by decide +kernel
theorem dX12_round_169 : decode cX12_round 169 = .ok (.aload_n 0, 1) := by decide +kernel
theorem dX12_round_170 : decode cX12_round 170 = .ok (.dup, 1) := by decide +kernel
theorem dX12_round_171 : decode cX12_round 171 = .ok (.getfield 382, 3) := by decide +kernel
theorem dX12_round_174 : decode cX12_round 174 = .ok (.iload 6, 2) := by decide +kernel
theorem dX12_round_176 : decode cX12_round 176 = .ok (.iconst 3, 1) := by decide +kernel
theorem dX12_round_177 : decode cX12_round 177 = .ok (.if_icmp .ne 7, 3) := by decide +kernel
theorem dX12_round_180 : decode cX12_round 180 = .ok (.iconst 1, 1) := by decide +kernel
theorem dX12_round_181 : decode cX12_round 181 = .ok (.goto 4, 3) := by decide +kernel
theorem dX12_round_184 : decode cX12_round 184 = .ok (.iconst 0, 1) := by decide +kernel
theorem dX12_round_185 : decode cX12_round 185 = .ok (.iadd, 1) := by decide +kernel
theorem dX12_round_186 : decode cX12_round 186 = .ok (.putfield 382, 3) := by decide +kernel
theorem dX12_round_189 : decode cX12_round 189 = .ok (.iinc 2 1, 3) := by decide +kernel
theorem dX12_round_192 : decode cX12_round 192 = .ok (.goto (-180), 3) := by decide +kernel
theorem dX12_round_195 : decode cX12_round 195 = .ok (.aload_n 0, 1) := by decide +kernel
theorem dX12_round_196 : decode cX12_round 196 = .ok (.getfield 28, 3) := by decide +kernel
theorem dX12_round_199 : decode cX12_round 199 = .ok (.sipush 325, 3) := by decide +kernel
theorem dX12_round_202 : decode cX12_round 202 = .ok (.dup2, 1) := by decide +kernel
theorem dX12_round_203 : decode cX12_round 203 = .ok (.iaload, 1) := by decide +kernel
theorem dX12_round_204 : decode cX12_round 204 = .ok (.iconst 1, 1) := by decide +kernel
theorem dX12_round_205 : decode cX12_round 205 = .ok (.iadd, 1) := by decide +kernel
theorem dX12_round_206 : decode cX12_round 206 = .ok (.iastore, 1) := by decide +kernel
theorem dX12_round_207 : decode cX12_round 207 = .ok (.return_, 1) := by decide +kernel
theorem dX12_rule_0 : decode cX12_rule 0 = .ok (.aload_n 0, 1) := by decide +kernel
theorem dX12_rule_1 : decode cX12_rule 1 = .ok (.iconst 0, 1) := by decide +kernel
theorem dX12_rule_2 : decode cX12_rule 2 = .ok (.putfield 86, 3) := by decide +kernel
theorem dX12_rule_5 : decode cX12_rule 5 = .ok (.aload_n 0, 1) := by decide +kernel
theorem dX12_rule_6 : decode cX12_rule 6 = .ok (.invokevirtual 306, 3) := by decide +kernel
theorem dX12_rule_9 : decode cX12_rule 9 = .ok (.ifCond .ne 7, 3) := by decide +kernel
theorem dX12_rule_12 : decode cX12_rule 12 = .ok (.ldc_w 310, 3) := by decide +kernel
theorem dX12_rule_15 : decode cX12_rule 15 = .ok (.ireturn, 1) := by decide +kernel
theorem dX12_rule_16 : decode cX12_rule 16 = .ok (.aload_n 0, 1) := by decide +kernel
theorem dX12_rule_17 : decode cX12_rule 17 = .ok (.invokevirtual 238, 3) := by decide +kernel
theorem dX12_rule_20 : decode cX12_rule 20 = .ok (.pop, 1) := by decide +kernel
theorem dX12_rule_21 : decode cX12_rule 21 = .ok (.iload_n 1, 1) := by decide +kernel
theorem dX12_rule_22 : decode cX12_rule 22 = .ok (.tableswitch 182 0 13 #[70, 75, 80, 87, 94, 101, 108, 113, 118, 127, 147, 167, 172, 177], 70) := by decide +kernel
theorem dX12_rule_92 : decode cX12_rule 92 = .ok (.aload_n 0, 1) := by decide +kernel
theorem dX12_rule_93 : decode cX12_rule 93 = .ok (.getfield 205, 3) := by decide +kernel
theorem dX12_rule_96 : decode cX12_rule 96 = .ok (.ireturn, 1) := by decide +kernel
theorem dX12_rule_97 : decode cX12_rule 97 = .ok (.aload_n 0, 1) := by decide +kernel
theorem dX12_rule_98 : decode cX12_rule 98 = .ok (.getfield 208, 3) := by decide +kernel
theorem dX12_rule_101 : decode cX12_rule 101 = .ok (.ireturn, 1) := by decide +kernel
theorem dX12_rule_102 : decode cX12_rule 102 = .ok (.aload_n 0, 1) := by decide +kernel
theorem dX12_rule_103 : decode cX12_rule 103 = .ok (.getfield 31, 3) := by decide +kernel
theorem dX12_rule_106 : decode cX12_rule 106 = .ok (.iconst 0, 1) := by decide +kernel
theorem dX12_rule_107 : decode cX12_rule 107 = .ok (.iaload, 1) := by decide +kernel
theorem dX12_rule_108 : decode cX12_rule 108 = .ok (.ireturn, 1) := by decide +kernel
theorem dX12_rule_109 : decode cX12_rule 109 = .ok (.aload_n 0, 1) := by decide +kernel
theorem dX12_rule_110 : decode cX12_rule 110 = .ok (.getfield 31, 3) := by decide +kernel
theorem dX12_rule_113 : decode cX12_rule 113 = .ok (.iconst 1, 1) := by decide +kernel
theorem dX12_rule_114 : decode cX12_rule 114 = .ok (.iaload, 1) := by decide +kernel
theorem dX12_rule_115 : decode cX12_rule 115 = .ok (.ireturn, 1) := by decide +kernel
theorem dX12_rule_116 : decode cX12_rule 116 = .ok (.aload_n 0, 1) := by decide +kernel
theorem dX12_rule_117 : decode cX12_rule 117 = .ok (.getfield 31, 3) := by decide +kernel
theorem dX12_rule_120 : decode cX12_rule 120 = .ok (.iconst 2, 1) := by decide +kernel
theorem dX12_rule_121 : decode cX12_rule 121 = .ok (.iaload, 1) := by decide +kernel
theorem dX12_rule_122 : decode cX12_rule 122 = .ok (.ireturn, 1) := by decide +kernel
theorem dX12_rule_123 : decode cX12_rule 123 = .ok (.aload_n 0, 1) := by decide +kernel
theorem dX12_rule_124 : decode cX12_rule 124 = .ok (.getfield 31, 3) := by decide +kernel
theorem dX12_rule_127 : decode cX12_rule 127 = .ok (.iconst 3, 1) := by decide +kernel
theorem dX12_rule_128 : decode cX12_rule 128 = .ok (.iaload, 1) := by decide +kernel
theorem dX12_rule_129 : decode cX12_rule 129 = .ok (.ireturn, 1) := by decide +kernel
theorem dX12_rule_130 : decode cX12_rule 130 = .ok (.aload_n 0, 1) := by decide +kernel
theorem dX12_rule_131 : decode cX12_rule 131 = .ok (.getfield 241, 3) := by decide +kernel
theorem dX12_rule_134 : decode cX12_rule 134 = .ok (.ireturn, 1) := by decide +kernel
theorem dX12_rule_135 : decode cX12_rule 135 = .ok (.aload_n 0, 1) := by decide +kernel
theorem dX12_rule_136 : decode cX12_rule 136 = .ok (.invokevirtual 311, 3) := by decide +kernel
theorem dX12_rule_139 : decode cX12_rule 139 = .ok (.ireturn, 1) := by decide +kernel
theorem dX12_rule_140 : decode cX12_rule 140 = .ok (.aload_n 0, 1) := by decide +kernel
theorem dX12_rule_141 : decode cX12_rule 141 = .ok (.getfield 28, 3) := by decide +kernel
theorem dX12_rule_144 : decode cX12_rule 144 = .ok (.sipush 325, 3) := by decide +kernel
theorem dX12_rule_147 : decode cX12_rule 147 = .ok (.iaload, 1) := by decide +kernel
theorem dX12_rule_148 : decode cX12_rule 148 = .ok (.ireturn, 1) := by decide +kernel
theorem dX12_rule_149 : decode cX12_rule 149 = .ok (.aload_n 0, 1) := by decide +kernel
theorem dX12_rule_150 : decode cX12_rule 150 = .ok (.iconst 0, 1) := by decide +kernel
theorem dX12_rule_151 : decode cX12_rule 151 = .ok (.iconst 0, 1) := by decide +kernel
theorem dX12_rule_152 : decode cX12_rule 152 = .ok (.aload_n 0, 1) := by decide +kernel
theorem dX12_rule_153 : decode cX12_rule 153 = .ok (.getfield 205, 3) := by decide +kernel
theorem dX12_rule_156 : decode cX12_rule 156 = .ok (.iconst 1, 1) := by decide +kernel
theorem dX12_rule_157 : decode cX12_rule 157 = .ok (.isub, 1) := by decide +kernel
theorem dX12_rule_158 : decode cX12_rule 158 = .ok (.aload_n 0, 1) := by decide +kernel
theorem dX12_rule_159 : decode cX12_rule 159 = .ok (.getfield 208, 3) := by decide +kernel
theorem dX12_rule_162 : decode cX12_rule 162 = .ok (.iconst 1, 1) := by decide +kernel
theorem dX12_rule_163 : decode cX12_rule 163 = .ok (.isub, 1) := by decide +kernel
theorem dX12_rule_164 : decode cX12_rule 164 = .ok (.iconst 0, 1) := by decide +kernel
theorem dX12_rule_165 : decode cX12_rule 165 = .ok (.invokevirtual 314, 3) := by decide +kernel
theorem dX12_rule_168 : decode cX12_rule 168 = .ok (.ireturn, 1) := by decide +kernel
theorem dX12_rule_169 : decode cX12_rule 169 = .ok (.aload_n 0, 1) := by decide +kernel
theorem dX12_rule_170 : decode cX12_rule 170 = .ok (.iconst 0, 1) := by decide +kernel
theorem dX12_rule_171 : decode cX12_rule 171 = .ok (.iconst 0, 1) := by decide +kernel
theorem dX12_rule_172 : decode cX12_rule 172 = .ok (.aload_n 0, 1) := by decide +kernel
theorem dX12_rule_173 : decode cX12_rule 173 = .ok (.getfield 205, 3) := by decide +kernel
theorem dX12_rule_176 : decode cX12_rule 176 = .ok (.iconst 1, 1) := by decide +kernel
theorem dX12_rule_177 : decode cX12_rule 177 = .ok (.isub, 1) := by decide +kernel
theorem dX12_rule_178 : decode cX12_rule 178 = .ok (.aload_n 0, 1) := by decide +kernel
theorem dX12_rule_179 : decode cX12_rule 179 = .ok (.getfield 208, 3) := by decide +kernel
theorem dX12_rule_182 : decode cX12_rule 182 = .ok (.iconst 1, 1) := by decide +kernel
theorem dX12_rule_183 : decode cX12_rule 183 = .ok (.isub, 1) := by decide +kernel
theorem dX12_rule_184 : decode cX12_rule 184 = .ok (.iconst 1, 1) := by decide +kernel
theorem dX12_rule_185 : decode cX12_rule 185 = .ok (.invokevirtual 314, 3) := by decide +kernel
theorem dX12_rule_188 : decode cX12_rule 188 = .ok (.ireturn, 1) := by decide +kernel
theorem dX12_rule_189 : decode cX12_rule 189 = .ok (.aload_n 0, 1) := by decide +kernel
theorem dX12_rule_190 : decode cX12_rule 190 = .ok (.invokevirtual 318, 3) := by decide +kernel
theorem dX12_rule_193 : decode cX12_rule 193 = .ok (.ireturn, 1) := by decide +kernel
theorem dX12_rule_194 : decode cX12_rule 194 = .ok (.aload_n 0, 1) := by decide +kernel
theorem dX12_rule_195 : decode cX12_rule 195 = .ok (.invokevirtual 321, 3) := by decide +kernel
theorem dX12_rule_198 : decode cX12_rule 198 = .ok (.ireturn, 1) := by decide +kernel
theorem dX12_rule_199 : decode cX12_rule 199 = .ok (.aload_n 0, 1) := by decide +kernel
theorem dX12_rule_200 : decode cX12_rule 200 = .ok (.invokevirtual 324, 3) := by decide +kernel
theorem dX12_rule_203 : decode cX12_rule 203 = .ok (.ireturn, 1) := by decide +kernel
theorem dX12_rule_204 : decode cX12_rule 204 = .ok (.ldc_w 310, 3) := by decide +kernel
theorem dX12_rule_207 : decode cX12_rule 207 = .ok (.ireturn, 1) := by decide +kernel
theorem dX12_see_0 : decode cX12_see 0 = .ok (.iload_n 1, 1) := by decide +kernel
theorem dX12_see_1 : decode cX12_see 1 = .ok (.aload_n 0, 1) := by decide +kernel
theorem dX12_see_2 : decode cX12_see 2 = .ok (.getfield 94, 3) := by decide +kernel
theorem dX12_see_5 : decode cX12_see 5 = .ok (.if_icmp .ge 12, 3) := by decide +kernel
theorem dX12_see_8 : decode cX12_see 8 = .ok (.aload_n 0, 1) := by decide +kernel
theorem dX12_see_9 : decode cX12_see 9 = .ok (.getfield 9, 3) := by decide +kernel
theorem dX12_see_12 : decode cX12_see 12 = .ok (.iload_n 1, 1) := by decide +kernel
theorem dX12_see_13 : decode cX12_see 13 = .ok (.iaload, 1) := by decide +kernel
theorem dX12_see_14 : decode cX12_see 14 = .ok (.goto 4, 3) := by decide +kernel
theorem dX12_see_17 : decode cX12_see 17 = .ok (.iconst (-1), 1) := by decide +kernel
theorem dX12_see_18 : decode cX12_see 18 = .ok (.ireturn, 1) := by decide +kernel
theorem dX12_set_0 : decode cX12_set 0 = .ok (.aload_n 0, 1) := by decide +kernel
theorem dX12_set_1 : decode cX12_set 1 = .ok (.iconst 0, 1) := by decide +kernel
theorem dX12_set_2 : decode cX12_set 2 = .ok (.putfield 86, 3) := by decide +kernel
theorem dX12_set_5 : decode cX12_set 5 = .ok (.aload_n 0, 1) := by decide +kernel
theorem dX12_set_6 : decode cX12_set 6 = .ok (.invokevirtual 306, 3) := by decide +kernel
theorem dX12_set_9 : decode cX12_set 9 = .ok (.ifCond .ne 13, 3) := by decide +kernel
theorem dX12_set_12 : decode cX12_set 12 = .ok (.aload_n 0, 1) := by decide +kernel
theorem dX12_set_13 : decode cX12_set 13 = .ok (.iconst 0, 1) := by decide +kernel
theorem dX12_set_14 : decode cX12_set 14 = .ok (.invokevirtual 354, 3) := by decide +kernel
theorem dX12_set_17 : decode cX12_set 17 = .ok (.pop, 1) := by decide +kernel
theorem dX12_set_18 : decode cX12_set 18 = .ok (.ldc_w 310, 3) := by decide +kernel
theorem dX12_set_21 : decode cX12_set 21 = .ok (.ireturn, 1) := by decide +kernel
theorem dX12_set_22 : decode cX12_set 22 = .ok (.iload_n 1, 1) := by decide +kernel
theorem dX12_set_23 : decode cX12_set 23 = .ok (.i2l, 1) := by decide +kernel
theorem dX12_set_24 : decode cX12_set 24 = .ok (.lconst 0, 1) := by decide +kernel
theorem dX12_set_25 : decode cX12_set 25 = .ok (.ldc2_w 291, 3) := by decide +kernel
theorem dX12_set_28 : decode cX12_set 28 = .ok (.invokestatic 97, 3) := by decide +kernel
theorem dX12_set_31 : decode cX12_set 31 = .ok (.ifCond .eq 11, 3) := by decide +kernel
theorem dX12_set_34 : decode cX12_set 34 = .ok (.iload_n 1, 1) := by decide +kernel
theorem dX12_set_35 : decode cX12_set 35 = .ok (.iload_n 2, 1) := by decide +kernel
theorem dX12_set_36 : decode cX12_set 36 = .ok (.invokestatic 418, 3) := by decide +kernel
theorem dX12_set_39 : decode cX12_set 39 = .ok (.ifCond .ne 13, 3) := by decide +kernel
theorem dX12_set_42 : decode cX12_set 42 = .ok (.aload_n 0, 1) := by decide +kernel
theorem dX12_set_43 : decode cX12_set 43 = .ok (.iconst 2, 1) := by decide +kernel
theorem dX12_set_44 : decode cX12_set 44 = .ok (.invokevirtual 354, 3) := by decide +kernel
theorem dX12_set_47 : decode cX12_set 47 = .ok (.pop, 1) := by decide +kernel
theorem dX12_set_48 : decode cX12_set 48 = .ok (.ldc_w 310, 3) := by decide +kernel
theorem dX12_set_51 : decode cX12_set 51 = .ok (.ireturn, 1) := by decide +kernel
theorem dX12_set_52 : decode cX12_set 52 = .ok (.aload_n 0, 1) := by decide +kernel
theorem dX12_set_53 : decode cX12_set 53 = .ok (.getfield 31, 3) := by decide +kernel
theorem dX12_set_56 : decode cX12_set 56 = .ok (.iload_n 1, 1) := by decide +kernel
theorem dX12_set_57 : decode cX12_set 57 = .ok (.iaload, 1) := by decide +kernel
theorem dX12_set_58 : decode cX12_set 58 = .ok (.istore_n 3, 1) := by decide +kernel
theorem dX12_set_59 : decode cX12_set 59 = .ok (.aload_n 0, 1) := by decide +kernel
theorem dX12_set_60 : decode cX12_set 60 = .ok (.getfield 31, 3) := by decide +kernel
theorem dX12_set_63 : decode cX12_set 63 = .ok (.iload_n 1, 1) := by decide +kernel
theorem dX12_set_64 : decode cX12_set 64 = .ok (.iload_n 2, 1) := by decide +kernel
theorem dX12_set_65 : decode cX12_set 65 = .ok (.iastore, 1) := by decide +kernel
theorem dX12_set_66 : decode cX12_set 66 = .ok (.iload_n 3, 1) := by decide +kernel
theorem dX12_set_67 : decode cX12_set 67 = .ok (.ireturn, 1) := by decide +kernel
theorem dX12_shake_0 : decode cX12_shake 0 = .ok (.aload_n 0, 1) := by decide +kernel
theorem dX12_shake_1 : decode cX12_shake 1 = .ok (.iconst 0, 1) := by decide +kernel
theorem dX12_shake_2 : decode cX12_shake 2 = .ok (.putfield 86, 3) := by decide +kernel
theorem dX12_shake_5 : decode cX12_shake 5 = .ok (.aload_n 0, 1) := by decide +kernel
theorem dX12_shake_6 : decode cX12_shake 6 = .ok (.invokevirtual 306, 3) := by decide +kernel
theorem dX12_shake_9 : decode cX12_shake 9 = .ok (.ifCond .ne 9, 3) := by decide +kernel
theorem dX12_shake_12 : decode cX12_shake 12 = .ok (.aload_n 0, 1) := by decide +kernel
theorem dX12_shake_13 : decode cX12_shake 13 = .ok (.iconst 0, 1) := by decide +kernel
theorem dX12_shake_14 : decode cX12_shake 14 = .ok (.invokevirtual 354, 3) := by decide +kernel
theorem dX12_shake_17 : decode cX12_shake 17 = .ok (.ireturn, 1) := by decide +kernel
theorem dX12_shake_18 : decode cX12_shake 18 = .ok (.iload_n 1, 1) := by decide +kernel
theorem dX12_shake_19 : decode cX12_shake 19 = .ok (.i2l, 1) := by decide +kernel
theorem dX12_shake_20 : decode cX12_shake 20 = .ok (.lconst 1, 1) := by decide +kernel
theorem dX12_shake_21 : decode cX12_shake 21 = .ok (.ldc2_w 267, 3) := by decide +kernel
theorem dX12_shake_24 : decode cX12_shake 24 = .ok (.invokestatic 97, 3) := by decide +kernel
theorem dX12_shake_27 : decode cX12_shake 27 = .ok (.ifCond .ne 9, 3) := by decide +kernel
theorem dX12_shake_30 : decode cX12_shake 30 = .ok (.aload_n 0, 1) := by decide +kernel
theorem dX12_shake_31 : decode cX12_shake 31 = .ok (.iconst 2, 1) := by decide +kernel
theorem dX12_shake_32 : decode cX12_shake 32 = .ok (.invokevirtual 354, 3) := by decide +kernel
theorem dX12_shake_35 : decode cX12_shake 35 = .ok (.ireturn, 1) := by decide +kernel
theorem dX12_shake_36 : decode cX12_shake 36 = .ok (.aload_n 0, 1) := by decide +kernel
theorem dX12_shake_37 : decode cX12_shake 37 = .ok (.invokevirtual 364, 3) := by decide +kernel
theorem dX12_shake_40 : decode cX12_shake 40 = .ok (.aload_n 0, 1) := by decide +kernel
theorem dX12_shake_41 : decode cX12_shake 41 = .ok (.lload_n 2, 1) := by decide +kernel
theorem dX12_shake_42 : decode cX12_shake 42 = .ok (.putfield 401, 3) := by decide +kernel
theorem dX12_shake_45 : decode cX12_shake 45 = .ok (.iconst 0, 1) := by decide +kernel
theorem dX12_shake_46 : decode cX12_shake 46 = .ok (.istore 4, 2) := by decide +kernel
theorem dX12_shake_48 : decode cX12_shake 48 = .ok (.iconst 0, 1) := by decide +kernel
theorem dX12_shake_49 : decode cX12_shake 49 = .ok (.istore 5, 2) := by decide +kernel
theorem dX12_shake_51 : decode cX12_shake 51 = .ok (.iload 5, 2) := by decide +kernel
theorem dX12_shake_53 : decode cX12_shake 53 = .ok (.iload_n 1, 1) := by decide +kernel
theorem dX12_shake_54 : decode cX12_shake 54 = .ok (.if_icmp .ge 104, 3) := by decide +kernel
theorem dX12_shake_57 : decode cX12_shake 57 = .ok (.aload_n 0, 1) := by decide +kernel
theorem dX12_shake_58 : decode cX12_shake 58 = .ok (.invokevirtual 238, 3) := by decide +kernel
theorem dX12_shake_61 : decode cX12_shake 61 = .ok (.pop, 1) := by decide +kernel
theorem dX12_shake_62 : decode cX12_shake 62 = .ok (.aload_n 0, 1) := by decide +kernel
theorem dX12_shake_63 : decode cX12_shake 63 = .ok (.getfield 241, 3) := by decide +kernel
theorem dX12_shake_66 : decode cX12_shake 66 = .ok (.ifCond .le 86, 3) := by decide +kernel
theorem dX12_shake_69 : decode cX12_shake 69 = .ok (.aload_n 0, 1) := by decide +kernel
theorem dX12_shake_70 : decode cX12_shake 70 = .ok (.aload_n 0, 1) := by decide +kernel
theorem dX12_shake_71 : decode cX12_shake 71 = .ok (.getfield 241, 3) := by decide +kernel
theorem dX12_shake_74 : decode cX12_shake 74 = .ok (.invokevirtual 409, 3) := by decide +kernel
theorem dX12_shake_77 : decode cX12_shake 77 = .ok (.istore 6, 2) := by decide +kernel
theorem dX12_shake_79 : decode cX12_shake 79 = .ok (.aload_n 0, 1) := by decide +kernel
theorem dX12_shake_80 : decode cX12_shake 80 = .ok (.iconst 2, 1) := by decide +kernel
theorem dX12_shake_81 : decode cX12_shake 81 = .ok (.invokevirtual 409, 3) := by decide +kernel
theorem dX12_shake_84 : decode cX12_shake 84 = .ok (.iconst 1, 1) := by decide +kernel
theorem dX12_shake_85 : decode cX12_shake 85 = .ok (.if_icmp .ne 7, 3) := by decide +kernel
theorem dX12_shake_88 : decode cX12_shake 88 = .ok (.iconst 1, 1) := by decide +kernel
theorem dX12_shake_89 : decode cX12_shake 89 = .ok (.goto 4, 3) := by decide +kernel
theorem dX12_shake_92 : decode cX12_shake 92 = .ok (.iconst 0, 1) := by decide +kernel
theorem dX12_shake_93 : decode cX12_shake 93 = .ok (.istore 7, 2) := by decide +kernel
theorem dX12_shake_95 : decode cX12_shake 95 = .ok (.aload_n 0, 1) := by decide +kernel
theorem dX12_shake_96 : decode cX12_shake 96 = .ok (.iload 6, 2) := by decide +kernel
theorem dX12_shake_98 : decode cX12_shake 98 = .ok (.invokevirtual 269, 3) := by decide +kernel
theorem dX12_shake_101 : decode cX12_shake 101 = .ok (.iconst (-1), 1) := by decide +kernel
theorem dX12_shake_102 : decode cX12_shake 102 = .ok (.if_icmp .eq 50, 3) := by decide +kernel
theorem dX12_shake_105 : decode cX12_shake 105 = .ok (.aload_n 0, 1) := by decide +kernel
theorem dX12_shake_106 : decode cX12_shake 106 = .ok (.aload_n 0, 1) := by decide +kernel
theorem dX12_shake_107 : decode cX12_shake 107 = .ok (.getfield 34, 3) := by decide +kernel
theorem dX12_shake_110 : decode cX12_shake 110 = .ok (.iload 6, 2) := by decide +kernel
theorem dX12_shake_112 : decode cX12_shake 112 = .ok (.iaload, 1) := by decide +kernel
theorem dX12_shake_113 : decode cX12_shake 113 = .ok (.aload_n 0, 1) := by decide +kernel
theorem dX12_shake_114 : decode cX12_shake 114 = .ok (.getfield 37, 3) := by decide +kernel
theorem dX12_shake_117 : decode cX12_shake 117 = .ok (.iload 6, 2) := by decide +kernel
theorem dX12_shake_119 : decode cX12_shake 119 = .ok (.iaload, 1) := by decide +kernel
theorem dX12_shake_120 : decode cX12_shake 120 = .ok (.aload_n 0, 1) := by decide +kernel
theorem dX12_shake_121 : decode cX12_shake 121 = .ok (.iload 6, 2) := by decide +kernel
theorem dX12_shake_123 : decode cX12_shake 123 = .ok (.invokevirtual 269, 3) := by decide +kernel
theorem dX12_shake_126 : decode cX12_shake 126 = .ok (.iload 7, 2) := by decide +kernel
theorem dX12_shake_128 : decode cX12_shake 128 = .ok (.invokestatic 372, 3) := by decide +kernel
theorem dX12_shake_131 : decode cX12_shake 131 = .ok (.aload_n 0, 1) := by decide +kernel
theorem dX12_shake_132 : decode cX12_shake 132 = .ok (.getfield 40, 3) := by decide +kernel
theorem dX12_shake_135 : decode cX12_shake 135 = .ok (.iload 6, 2) := by decide +kernel
theorem dX12_shake_137 : decode cX12_shake 137 = .ok (.iaload, 1) := by decide +kernel
theorem dX12_shake_138 : decode cX12_shake 138 = .ok (.aload_n 0, 1) := by decide +kernel
theorem dX12_shake_139 : decode cX12_shake 139 = .ok (.getfield 43, 3) := by decide +kernel
theorem dX12_shake_142 : decode cX12_shake 142 = .ok (.iload 6, 2) := by decide +kernel
theorem dX12_shake_144 : decode cX12_shake 144 = .ok (.iaload, 1) := by decide +kernel
theorem dX12_shake_145 : decode cX12_shake 145 = .ok (.invokevirtual 367, 3) := by decide +kernel
theorem dX12_shake_148 : decode cX12_shake 148 = .ok (.pop, 1) := by decide +kernel
theorem dX12_shake_149 : decode cX12_shake 149 = .ok (.iinc 4 1, 3) := by decide +kernel
theorem dX12_shake_152 : decode cX12_shake 152 = .ok (.iinc 5 1, 3) := by decide +kernel
theorem dX12_shake_155 : decode cX12_shake 155 = .ok (.goto (-104), 3) := by decide +kernel
theorem dX12_shake_158 : decode cX12_shake 158 = .ok (.iload 4, 2) := by decide +kernel
theorem dX12_shake_160 : decode cX12_shake 160 = .ok (.ireturn, 1) := by decide +kernel
theorem dX12_shift_0 : decode cX12_shift 0 = .ok (.aload_n 0, 1) := by decide +kernel
theorem dX12_shift_1 : decode cX12_shift 1 = .ok (.iconst 0, 1) := by decide +kernel
theorem dX12_shift_2 : decode cX12_shift 2 = .ok (.putfield 86, 3) := by decide +kernel
theorem dX12_shift_5 : decode cX12_shift 5 = .ok (.aload_n 0, 1) := by decide +kernel
theorem dX12_shift_6 : decode cX12_shift 6 = .ok (.invokevirtual 306, 3) := by decide +kernel
theorem dX12_shift_9 : decode cX12_shift 9 = .ok (.ifCond .ne 9, 3) := by decide +kernel
theorem dX12_shift_12 : decode cX12_shift 12 = .ok (.aload_n 0, 1) := by decide +kernel
theorem dX12_shift_13 : decode cX12_shift 13 = .ok (.iconst 0, 1) := by decide +kernel
theorem dX12_shift_14 : decode cX12_shift 14 = .ok (.invokevirtual 354, 3) := by decide +kernel
theorem dX12_shift_17 : decode cX12_shift 17 = .ok (.ireturn, 1) := by decide +kernel
theorem dX12_shift_18 : decode cX12_shift 18 = .ok (.aload_n 0, 1) := by decide +kernel
theorem dX12_shift_19 : decode cX12_shift 19 = .ok (.iload_n 1, 1) := by decide +kernel
theorem dX12_shift_20 : decode cX12_shift 20 = .ok (.iload_n 2, 1) := by decide +kernel
theorem dX12_shift_21 : decode cX12_shift 21 = .ok (.invokevirtual 215, 3) := by decide +kernel
theorem dX12_shift_24 : decode cX12_shift 24 = .ok (.ifCond .ne 9, 3) := by decide +kernel
theorem dX12_shift_27 : decode cX12_shift 27 = .ok (.aload_n 0, 1) := by decide +kernel
theorem dX12_shift_28 : decode cX12_shift 28 = .ok (.iconst 1, 1) := by decide +kernel
theorem dX12_shift_29 : decode cX12_shift 29 = .ok (.invokevirtual 354, 3) := by decide +kernel
theorem dX12_shift_32 : decode cX12_shift 32 = .ok (.ireturn, 1) := by decide +kernel
theorem dX12_shift_33 : decode cX12_shift 33 = .ok (.iload_n 3, 1) := by decide +kernel
theorem dX12_shift_34 : decode cX12_shift 34 = .ok (.i2l, 1) := by decide +kernel
theorem dX12_shift_35 : decode cX12_shift 35 = .ok (.ldc2_w 397, 3) := by decide +kernel
theorem dX12_shift_38 : decode cX12_shift 38 = .ok (.ldc2_w 399, 3) := by decide +kernel
theorem dX12_shift_41 : decode cX12_shift 41 = .ok (.invokestatic 97, 3) := by decide +kernel
theorem dX12_shift_44 : decode cX12_shift 44 = .ok (.ifCond .eq 27, 3) := by decide +kernel
theorem dX12_shift_47 : decode cX12_shift 47 = .ok (.iload 4, 2) := by decide +kernel
theorem dX12_shift_49 : decode cX12_shift 49 = .ok (.i2l, 1) := by decide +kernel
theorem dX12_shift_50 : decode cX12_shift 50 = .ok (.ldc2_w 397, 3) := by decide +kernel
theorem dX12_shift_53 : decode cX12_shift 53 = .ok (.ldc2_w 399, 3) := by decide +kernel
theorem dX12_shift_56 : decode cX12_shift 56 = .ok (.invokestatic 97, 3) := by decide +kernel
theorem dX12_shift_59 : decode cX12_shift 59 = .ok (.ifCond .eq 12, 3) := by decide +kernel
theorem dX12_shift_62 : decode cX12_shift 62 = .ok (.iload_n 3, 1) := by decide +kernel
theorem dX12_shift_63 : decode cX12_shift 63 = .ok (.ifCond .ne 14, 3) := by decide +kernel
theorem dX12_shift_66 : decode cX12_shift 66 = .ok (.iload 4, 2) := by decide +kernel
theorem dX12_shift_68 : decode cX12_shift 68 = .ok (.ifCond .ne 9, 3) := by decide +kernel
theorem dX12_shift_71 : decode cX12_shift 71 = .ok (.aload_n 0, 1) := by decide +kernel
theorem dX12_shift_72 : decode cX12_shift 72 = .ok (.iconst 2, 1) := by decide +kernel
theorem dX12_shift_73 : decode cX12_shift 73 = .ok (.invokevirtual 354, 3) := by decide +kernel
theorem dX12_shift_76 : decode cX12_shift 76 = .ok (.ireturn, 1) := by decide +kernel
theorem dX12_shift_77 : decode cX12_shift 77 = .ok (.aload_n 0, 1) := by decide +kernel
theorem dX12_shift_78 : decode cX12_shift 78 = .ok (.invokevirtual 364, 3) := by decide +kernel
theorem dX12_shift_81 : decode cX12_shift 81 = .ok (.aload_n 0, 1) := by decide +kernel
theorem dX12_shift_82 : decode cX12_shift 82 = .ok (.iload_n 1, 1) := by decide +kernel
theorem dX12_shift_83 : decode cX12_shift 83 = .ok (.iload_n 2, 1) := by decide +kernel
theorem dX12_shift_84 : decode cX12_shift 84 = .ok (.iconst 0, 1) := by decide +kernel
theorem dX12_shift_85 : decode cX12_shift 85 = .ok (.invokevirtual 296, 3) := by decide +kernel
theorem dX12_shift_88 : decode cX12_shift 88 = .ok (.ifCond .eq 15, 3) := by decide +kernel
theorem dX12_shift_91 : decode cX12_shift 91 = .ok (.aload_n 0, 1) := by decide +kernel
theorem dX12_shift_92 : decode cX12_shift 92 = .ok (.iload_n 1, 1) := by decide +kernel
theorem dX12_shift_93 : decode cX12_shift 93 = .ok (.iload_n 2, 1) := by decide +kernel
theorem dX12_shift_94 : decode cX12_shift 94 = .ok (.iconst 0, 1) := by decide +kernel
theorem dX12_shift_95 : decode cX12_shift 95 = .ok (.iload_n 3, 1) := by decide +kernel
theorem dX12_shift_96 : decode cX12_shift 96 = .ok (.ineg, 1) := by decide +kernel
theorem dX12_shift_97 : decode cX12_shift 97 = .ok (.iload 4, 2) := by decide +kernel
theorem dX12_shift_99 : decode cX12_shift 99 = .ok (.ineg, 1) := by decide +kernel
theorem dX12_shift_100 : decode cX12_shift 100 = .ok (.invokevirtual 225, 3) := by decide +kernel
theorem dX12_shift_103 : decode cX12_shift 103 = .ok (.aload_n 0, 1) := by decide +kernel
theorem dX12_shift_104 : decode cX12_shift 104 = .ok (.iload_n 1, 1) := by decide +kernel
theorem dX12_shift_105 : decode cX12_shift 105 = .ok (.iload_n 2, 1) := by decide +kernel
theorem dX12_shift_106 : decode cX12_shift 106 = .ok (.iconst 1, 1) := by decide +kernel
theorem dX12_shift_107 : decode cX12_shift 107 = .ok (.invokevirtual 296, 3) := by decide +kernel
theorem dX12_shift_110 : decode cX12_shift 110 = .ok (.ifCond .eq 15, 3) := by decide +kernel
theorem dX12_shift_113 : decode cX12_shift 113 = .ok (.aload_n 0, 1) := by decide +kernel
theorem dX12_shift_114 : decode cX12_shift 114 = .ok (.iload_n 1, 1) := by decide +kernel
theorem dX12_shift_115 : decode cX12_shift 115 = .ok (.iload_n 2, 1) := by decide +kernel
theorem dX12_shift_116 : decode cX12_shift 116 = .ok (.iconst 1, 1) := by decide +kernel
theorem dX12_shift_117 : decode cX12_shift 117 = .ok (.iload_n 3, 1) := by decide +kernel
theorem dX12_shift_118 : decode cX12_shift 118 = .ok (.ineg, 1) := by decide +kernel
theorem dX12_shift_119 : decode cX12_shift 119 = .ok (.iload 4, 2) := by decide +kernel
theorem dX12_shift_121 : decode cX12_shift 121 = .ok (.ineg, 1) := by decide +kernel
theorem dX12_shift_122 : decode cX12_shift 122 = .ok (.invokevirtual 225, 3) := by decide +kernel
theorem dX12_shift_125 : decode cX12_shift 125 = .ok (.iload_n 1, 1) := by decide +kernel
theorem dX12_shift_126 : decode cX12_shift 126 = .ok (.ifCond .le 15, 3) := by decide +kernel
theorem dX12_shift_129 : decode cX12_shift 129 = .ok (.aload_n 0, 1) := by decide +kernel
theorem dX12_shift_130 : decode cX12_shift 130 = .ok (.iload_n 1, 1) := by decide +kernel
theorem dX12_shift_131 : decode cX12_shift 131 = .ok (.iconst 1, 1) := by decide +kernel
theorem dX12_shift_132 : decode cX12_shift 132 = .ok (.isub, 1) := by decide +kernel
theorem dX12_shift_133 : decode cX12_shift 133 = .ok (.iload_n 2, 1) := by decide +kernel
theorem dX12_shift_134 : decode cX12_shift 134 = .ok (.iconst 0, 1) := by decide +kernel
theorem dX12_shift_135 : decode cX12_shift 135 = .ok (.iload_n 3, 1) := by decide +kernel
theorem dX12_shift_136 : decode cX12_shift 136 = .ok (.iload 4, 2) := by decide +kernel
theorem dX12_shift_138 : decode cX12_shift 138 = .ok (.invokevirtual 225, 3) := by decide +kernel
theorem dX12_shift_141 : decode cX12_shift 141 = .ok (.iload_n 2, 1) := by decide +kernel
theorem dX12_shift_142 : decode cX12_shift 142 = .ok (.ifCond .le 15, 3) := by decide +kernel
theorem dX12_shift_145 : decode cX12_shift 145 = .ok (.aload_n 0, 1) := by decide +kernel
theorem dX12_shift_146 : decode cX12_shift 146 = .ok (.iload_n 1, 1) := by decide +kernel
theorem dX12_shift_147 : decode cX12_shift 147 = .ok (.iload_n 2, 1) := by decide +kernel
theorem dX12_shift_148 : decode cX12_shift 148 = .ok (.iconst 1, 1) := by decide +kernel
theorem dX12_shift_149 : decode cX12_shift 149 = .ok (.isub, 1) := by decide +kernel
theorem dX12_shift_150 : decode cX12_shift 150 = .ok (.iconst 1, 1) := by decide +kernel
theorem dX12_shift_151 : decode cX12_shift 151 = .ok (.iload_n 3, 1) := by decide +kernel
theorem dX12_shift_152 : decode cX12_shift 152 = .ok (.iload 4, 2) := by decide +kernel
theorem dX12_shift_154 : decode cX12_shift 154 = .ok (.invokevirtual 225, 3) := by decide +kernel
theorem dX12_shift_157 : decode cX12_shift 157 = .ok (.aload_n 0, 1) := by decide +kernel
theorem dX12_shift_158 : decode cX12_shift 158 = .ok (.invokevirtual 311, 3) := by decide +kernel
theorem dX12_shift_161 : decode cX12_shift 161 = .ok (.ireturn, 1) := by decide +kernel
theorem dX12_slipped_0 : decode cX12_slipped 0 = .ok (.iconst 0, 1) := by decide +kernel
theorem dX12_slipped_1 : decode cX12_slipped 1 = .ok (.istore_n 1, 1) := by decide +kernel
theorem dX12_slipped_2 : decode cX12_slipped 2 = .ok (.iconst 0, 1) := by decide +kernel
theorem dX12_slipped_3 : decode cX12_slipped 3 = .ok (.istore_n 2, 1) := by decide +kernel
theorem dX12_slipped_4 : decode cX12_slipped 4 = .ok (.iload_n 2, 1) := by decide +kernel
theorem dX12_slipped_5 : decode cX12_slipped 5 = .ok (.sipush 162, 3) := by decide +kernel
theorem dX12_slipped_8 : decode cX12_slipped 8 = .ok (.if_icmp .ge 25, 3) := by decide +kernel
theorem dX12_slipped_11 : decode cX12_slipped 11 = .ok (.iload_n 1, 1) := by decide +kernel
theorem dX12_slipped_12 : decode cX12_slipped 12 = .ok (.aload_n 0, 1) := by decide +kernel
theorem dX12_slipped_13 : decode cX12_slipped 13 = .ok (.iload_n 2, 1) := by decide +kernel
theorem dX12_slipped_14 : decode cX12_slipped 14 = .ok (.invokevirtual 293, 3) := by decide +kernel
theorem dX12_slipped_17 : decode cX12_slipped 17 = .ok (.ifCond .eq 7, 3) := by decide +kernel
theorem dX12_slipped_20 : decode cX12_slipped 20 = .ok (.iconst 1, 1) := by decide +kernel
theorem dX12_slipped_21 : decode cX12_slipped 21 = .ok (.goto 4, 3) := by decide +kernel
theorem dX12_slipped_24 : decode cX12_slipped 24 = .ok (.iconst 0, 1) := by decide +kernel
theorem dX12_slipped_25 : decode cX12_slipped 25 = .ok (.iadd, 1) := by decide +kernel
theorem dX12_slipped_26 : decode cX12_slipped 26 = .ok (.istore_n 1, 1) := by decide +kernel
theorem dX12_slipped_27 : decode cX12_slipped 27 = .ok (.iinc 2 1, 3) := by decide +kernel
theorem dX12_slipped_30 : decode cX12_slipped 30 = .ok (.goto (-26), 3) := by decide +kernel
theorem dX12_slipped_33 : decode cX12_slipped 33 = .ok (.iload_n 1, 1) := by decide +kernel
theorem dX12_slipped_34 : decode cX12_slipped 34 = .ok (.ireturn, 1) := by decide +kernel
theorem dX12_squareApart_0 : decode cX12_squareApart 0 = .ok (.aload_n 0, 1) := by decide +kernel
theorem dX12_squareApart_1 : decode cX12_squareApart 1 = .ok (.getfield 34, 3) := by decide +kernel
theorem dX12_squareApart_4 : decode cX12_squareApart 4 = .ok (.iload_n 1, 1) := by decide +kernel
theorem dX12_squareApart_5 : decode cX12_squareApart 5 = .ok (.iaload, 1) := by decide +kernel
theorem dX12_squareApart_6 : decode cX12_squareApart 6 = .ok (.aload_n 0, 1) := by decide +kernel
theorem dX12_squareApart_7 : decode cX12_squareApart 7 = .ok (.getfield 34, 3) := by decide +kernel
theorem dX12_squareApart_10 : decode cX12_squareApart 10 = .ok (.iload_n 2, 1) := by decide +kernel
theorem dX12_squareApart_11 : decode cX12_squareApart 11 = .ok (.iaload, 1) := by decide +kernel
theorem dX12_squareApart_12 : decode cX12_squareApart 12 = .ok (.isub, 1) := by decide +kernel
theorem dX12_squareApart_13 : decode cX12_squareApart 13 = .ok (.istore_n 3, 1) := by decide +kernel
theorem dX12_squareApart_14 : decode cX12_squareApart 14 = .ok (.aload_n 0, 1) := by decide +kernel
theorem dX12_squareApart_15 : decode cX12_squareApart 15 = .ok (.getfield 37, 3) := by decide +kernel
theorem dX12_squareApart_18 : decode cX12_squareApart 18 = .ok (.iload_n 1, 1) := by decide +kernel
theorem dX12_squareApart_19 : decode cX12_squareApart 19 = .ok (.iaload, 1) := by decide +kernel
theorem dX12_squareApart_20 : decode cX12_squareApart 20 = .ok (.aload_n 0, 1) := by decide +kernel
theorem dX12_squareApart_21 : decode cX12_squareApart 21 = .ok (.getfield 37, 3) := by decide +kernel
theorem dX12_squareApart_24 : decode cX12_squareApart 24 = .ok (.iload_n 2, 1) := by decide +kernel
theorem dX12_squareApart_25 : decode cX12_squareApart 25 = .ok (.iaload, 1) := by decide +kernel
theorem dX12_squareApart_26 : decode cX12_squareApart 26 = .ok (.isub, 1) := by decide +kernel
theorem dX12_squareApart_27 : decode cX12_squareApart 27 = .ok (.istore 4, 2) := by decide +kernel
theorem dX12_squareApart_29 : decode cX12_squareApart 29 = .ok (.iload_n 3, 1) := by decide +kernel
theorem dX12_squareApart_30 : decode cX12_squareApart 30 = .ok (.iload_n 3, 1) := by decide +kernel
theorem dX12_squareApart_31 : decode cX12_squareApart 31 = .ok (.imul, 1) := by decide +kernel
theorem dX12_squareApart_32 : decode cX12_squareApart 32 = .ok (.iload 4, 2) := by decide +kernel
theorem dX12_squareApart_34 : decode cX12_squareApart 34 = .ok (.iload 4, 2) := by decide +kernel
theorem dX12_squareApart_36 : decode cX12_squareApart 36 = .ok (.imul, 1) := by decide +kernel
theorem dX12_squareApart_37 : decode cX12_squareApart 37 = .ok (.iadd, 1) := by decide +kernel
theorem dX12_squareApart_38 : decode cX12_squareApart 38 = .ok (.ireturn, 1) := by decide +kernel
theorem dX12_status_0 : decode cX12_status 0 = .ok (.aload_n 0, 1) := by decide +kernel
theorem dX12_status_1 : decode cX12_status 1 = .ok (.iconst 0, 1) := by decide +kernel
theorem dX12_status_2 : decode cX12_status 2 = .ok (.putfield 86, 3) := by decide +kernel
theorem dX12_status_5 : decode cX12_status 5 = .ok (.iload_n 1, 1) := by decide +kernel
theorem dX12_status_6 : decode cX12_status 6 = .ok (.i2l, 1) := by decide +kernel
theorem dX12_status_7 : decode cX12_status 7 = .ok (.lconst 0, 1) := by decide +kernel
theorem dX12_status_8 : decode cX12_status 8 = .ok (.ldc2_w 291, 3) := by decide +kernel
theorem dX12_status_11 : decode cX12_status 11 = .ok (.invokestatic 97, 3) := by decide +kernel
theorem dX12_status_14 : decode cX12_status 14 = .ok (.ifCond .eq 12, 3) := by decide +kernel
theorem dX12_status_17 : decode cX12_status 17 = .ok (.aload_n 0, 1) := by decide +kernel
theorem dX12_status_18 : decode cX12_status 18 = .ok (.getfield 52, 3) := by decide +kernel
theorem dX12_status_21 : decode cX12_status 21 = .ok (.iload_n 1, 1) := by decide +kernel
theorem dX12_status_22 : decode cX12_status 22 = .ok (.iaload, 1) := by decide +kernel
theorem dX12_status_23 : decode cX12_status 23 = .ok (.goto 4, 3) := by decide +kernel
theorem dX12_status_26 : decode cX12_status 26 = .ok (.iconst (-1), 1) := by decide +kernel
theorem dX12_status_27 : decode cX12_status 27 = .ok (.ireturn, 1) := by decide +kernel
theorem dX12_step_0 : decode cX12_step 0 = .ok (.aload_n 0, 1) := by decide +kernel
theorem dX12_step_1 : decode cX12_step 1 = .ok (.getfield 28, 3) := by decide +kernel
theorem dX12_step_4 : decode cX12_step 4 = .ok (.iload_n 1, 1) := by decide +kernel
theorem dX12_step_5 : decode cX12_step 5 = .ok (.iload_n 2, 1) := by decide +kernel
theorem dX12_step_6 : decode cX12_step 6 = .ok (.iload_n 3, 1) := by decide +kernel
theorem dX12_step_7 : decode cX12_step 7 = .ok (.iload 4, 2) := by decide +kernel
theorem dX12_step_9 : decode cX12_step 9 = .ok (.invokestatic 211, 3) := by decide +kernel
theorem dX12_step_12 : decode cX12_step 12 = .ok (.iaload, 1) := by decide +kernel
theorem dX12_step_13 : decode cX12_step 13 = .ok (.ireturn, 1) := by decide +kernel
theorem dX12_stills_0 : decode cX12_stills 0 = .ok (.aload_n 0, 1) := by decide +kernel
theorem dX12_stills_1 : decode cX12_stills 1 = .ok (.iconst 0, 1) := by decide +kernel
theorem dX12_stills_2 : decode cX12_stills 2 = .ok (.putfield 86, 3) := by decide +kernel
theorem dX12_stills_5 : decode cX12_stills 5 = .ok (.aload_n 0, 1) := by decide +kernel
theorem dX12_stills_6 : decode cX12_stills 6 = .ok (.invokevirtual 306, 3) := by decide +kernel
theorem dX12_stills_9 : decode cX12_stills 9 = .ok (.ifCond .ne 5, 3) := by decide +kernel
theorem dX12_stills_12 : decode cX12_stills 12 = .ok (.iconst (-1), 1) := by decide +kernel
theorem dX12_stills_13 : decode cX12_stills 13 = .ok (.ireturn, 1) := by decide +kernel
theorem dX12_stills_14 : decode cX12_stills 14 = .ok (.aload_n 0, 1) := by decide +kernel
theorem dX12_stills_15 : decode cX12_stills 15 = .ok (.invokevirtual 467, 3) := by decide +kernel
theorem dX12_stills_18 : decode cX12_stills 18 = .ok (.istore_n 1, 1) := by decide +kernel
theorem dX12_stills_19 : decode cX12_stills 19 = .ok (.iload_n 1, 1) := by decide +kernel
theorem dX12_stills_20 : decode cX12_stills 20 = .ok (.bipush 99, 2) := by decide +kernel
theorem dX12_stills_22 : decode cX12_stills 22 = .ok (.if_icmp .le 7, 3) := by decide +kernel
theorem dX12_stills_25 : decode cX12_stills 25 = .ok (.iconst (-1), 1) := by decide +kernel
theorem dX12_stills_26 : decode cX12_stills 26 = .ok (.goto 4, 3) := by decide +kernel
theorem dX12_stills_29 : decode cX12_stills 29 = .ok (.iload_n 1, 1) := by decide +kernel
theorem dX12_stills_30 : decode cX12_stills 30 = .ok (.ireturn, 1) := by decide +kernel
theorem dX12_strongest_0 : decode cX12_strongest 0 = .ok (.iconst (-1), 1) := by decide +kernel
theorem dX12_strongest_1 : decode cX12_strongest 1 = .ok (.istore_n 1, 1) := by decide +kernel
theorem dX12_strongest_2 : decode cX12_strongest 2 = .ok (.iconst 0, 1) := by decide +kernel
theorem dX12_strongest_3 : decode cX12_strongest 3 = .ok (.istore_n 2, 1) := by decide +kernel
theorem dX12_strongest_4 : decode cX12_strongest 4 = .ok (.iload_n 2, 1) := by decide +kernel
theorem dX12_strongest_5 : decode cX12_strongest 5 = .ok (.aload_n 0, 1) := by decide +kernel
theorem dX12_strongest_6 : decode cX12_strongest 6 = .ok (.getfield 241, 3) := by decide +kernel
theorem dX12_strongest_9 : decode cX12_strongest 9 = .ok (.if_icmp .ge 41, 3) := by decide +kernel
theorem dX12_strongest_12 : decode cX12_strongest 12 = .ok (.iload_n 1, 1) := by decide +kernel
theorem dX12_strongest_13 : decode cX12_strongest 13 = .ok (.iconst (-1), 1) := by decide +kernel
theorem dX12_strongest_14 : decode cX12_strongest 14 = .ok (.if_icmp .eq 24, 3) := by decide +kernel
theorem dX12_strongest_17 : decode cX12_strongest 17 = .ok (.aload_n 0, 1) := by decide +kernel
theorem dX12_strongest_18 : decode cX12_strongest 18 = .ok (.getfield 46, 3) := by decide +kernel
theorem dX12_strongest_21 : decode cX12_strongest 21 = .ok (.iload_n 2, 1) := by decide +kernel
theorem dX12_strongest_22 : decode cX12_strongest 22 = .ok (.iaload, 1) := by decide +kernel
theorem dX12_strongest_23 : decode cX12_strongest 23 = .ok (.invokestatic 370, 3) := by decide +kernel
theorem dX12_strongest_26 : decode cX12_strongest 26 = .ok (.aload_n 0, 1) := by decide +kernel
theorem dX12_strongest_27 : decode cX12_strongest 27 = .ok (.getfield 46, 3) := by decide +kernel
theorem dX12_strongest_30 : decode cX12_strongest 30 = .ok (.iload_n 1, 1) := by decide +kernel
theorem dX12_strongest_31 : decode cX12_strongest 31 = .ok (.iaload, 1) := by decide +kernel
theorem dX12_strongest_32 : decode cX12_strongest 32 = .ok (.invokestatic 370, 3) := by decide +kernel
theorem dX12_strongest_35 : decode cX12_strongest 35 = .ok (.if_icmp .le 7, 3) := by decide +kernel
theorem dX12_strongest_38 : decode cX12_strongest 38 = .ok (.iload_n 2, 1) := by decide +kernel
theorem dX12_strongest_39 : decode cX12_strongest 39 = .ok (.goto 4, 3) := by decide +kernel
theorem dX12_strongest_42 : decode cX12_strongest 42 = .ok (.iload_n 1, 1) := by decide +kernel
theorem dX12_strongest_43 : decode cX12_strongest 43 = .ok (.istore_n 1, 1) := by decide +kernel
theorem dX12_strongest_44 : decode cX12_strongest 44 = .ok (.iinc 2 1, 3) := by decide +kernel
theorem dX12_strongest_47 : decode cX12_strongest 47 = .ok (.goto (-43), 3) := by decide +kernel
theorem dX12_strongest_50 : decode cX12_strongest 50 = .ok (.iload_n 1, 1) := by decide +kernel
theorem dX12_strongest_51 : decode cX12_strongest 51 = .ok (.ireturn, 1) := by decide +kernel
theorem dX12_sumRound_0 : decode cX12_sumRound 0 = .ok (.iconst 0, 1) := by decide +kernel
theorem dX12_sumRound_1 : decode cX12_sumRound 1 = .ok (.istore 6, 2) := by decide +kernel
theorem dX12_sumRound_3 : decode cX12_sumRound 3 = .ok (.iload_n 1, 1) := by decide +kernel
theorem dX12_sumRound_4 : decode cX12_sumRound 4 = .ok (.istore 7, 2) := by decide +kernel
theorem dX12_sumRound_6 : decode cX12_sumRound 6 = .ok (.iload 7, 2) := by decide +kernel
theorem dX12_sumRound_8 : decode cX12_sumRound 8 = .ok (.iload_n 3, 1) := by decide +kernel
theorem dX12_sumRound_9 : decode cX12_sumRound 9 = .ok (.if_icmp .ge 36, 3) := by decide +kernel
theorem dX12_sumRound_12 : decode cX12_sumRound 12 = .ok (.iload 6, 2) := by decide +kernel
theorem dX12_sumRound_14 : decode cX12_sumRound 14 = .ok (.aload_n 0, 1) := by decide +kernel
theorem dX12_sumRound_15 : decode cX12_sumRound 15 = .ok (.iload 7, 2) := by decide +kernel
theorem dX12_sumRound_17 : decode cX12_sumRound 17 = .ok (.iload_n 2, 1) := by decide +kernel
theorem dX12_sumRound_18 : decode cX12_sumRound 18 = .ok (.iconst 0, 1) := by decide +kernel
theorem dX12_sumRound_19 : decode cX12_sumRound 19 = .ok (.iload 5, 2) := by decide +kernel
theorem dX12_sumRound_21 : decode cX12_sumRound 21 = .ok (.invokevirtual 218, 3) := by decide +kernel
theorem dX12_sumRound_24 : decode cX12_sumRound 24 = .ok (.aload_n 0, 1) := by decide +kernel
theorem dX12_sumRound_25 : decode cX12_sumRound 25 = .ok (.iload 7, 2) := by decide +kernel
theorem dX12_sumRound_27 : decode cX12_sumRound 27 = .ok (.iload 4, 2) := by decide +kernel
theorem dX12_sumRound_29 : decode cX12_sumRound 29 = .ok (.iconst 0, 1) := by decide +kernel
theorem dX12_sumRound_30 : decode cX12_sumRound 30 = .ok (.iload 5, 2) := by decide +kernel
theorem dX12_sumRound_32 : decode cX12_sumRound 32 = .ok (.invokevirtual 218, 3) := by decide +kernel
theorem dX12_sumRound_35 : decode cX12_sumRound 35 = .ok (.isub, 1) := by decide +kernel
theorem dX12_sumRound_36 : decode cX12_sumRound 36 = .ok (.iadd, 1) := by decide +kernel
theorem dX12_sumRound_37 : decode cX12_sumRound 37 = .ok (.istore 6, 2) := by decide +kernel
theorem dX12_sumRound_39 : decode cX12_sumRound 39 = .ok (.iinc 7 1, 3) := by decide +kernel
theorem dX12_sumRound_42 : decode cX12_sumRound 42 = .ok (.goto (-36), 3) := by decide +kernel
theorem dX12_sumRound_45 : decode cX12_sumRound 45 = .ok (.iload_n 2, 1) := by decide +kernel
theorem dX12_sumRound_46 : decode cX12_sumRound 46 = .ok (.istore 7, 2) := by decide +kernel
theorem dX12_sumRound_48 : decode cX12_sumRound 48 = .ok (.iload 7, 2) := by decide +kernel
theorem dX12_sumRound_50 : decode cX12_sumRound 50 = .ok (.iload 4, 2) := by decide +kernel
theorem dX12_sumRound_52 : decode cX12_sumRound 52 = .ok (.if_icmp .ge 35, 3) := by decide +kernel
theorem dX12_sumRound_55 : decode cX12_sumRound 55 = .ok (.iload 6, 2) := by decide +kernel
theorem dX12_sumRound_57 : decode cX12_sumRound 57 = .ok (.aload_n 0, 1) := by decide +kernel
theorem dX12_sumRound_58 : decode cX12_sumRound 58 = .ok (.iload_n 3, 1) := by decide +kernel
theorem dX12_sumRound_59 : decode cX12_sumRound 59 = .ok (.iload 7, 2) := by decide +kernel
theorem dX12_sumRound_61 : decode cX12_sumRound 61 = .ok (.iconst 1, 1) := by decide +kernel
theorem dX12_sumRound_62 : decode cX12_sumRound 62 = .ok (.iload 5, 2) := by decide +kernel
theorem dX12_sumRound_64 : decode cX12_sumRound 64 = .ok (.invokevirtual 218, 3) := by decide +kernel
theorem dX12_sumRound_67 : decode cX12_sumRound 67 = .ok (.aload_n 0, 1) := by decide +kernel
theorem dX12_sumRound_68 : decode cX12_sumRound 68 = .ok (.iload_n 1, 1) := by decide +kernel
theorem dX12_sumRound_69 : decode cX12_sumRound 69 = .ok (.iload 7, 2) := by decide +kernel
theorem dX12_sumRound_71 : decode cX12_sumRound 71 = .ok (.iconst 1, 1) := by decide +kernel
theorem dX12_sumRound_72 : decode cX12_sumRound 72 = .ok (.iload 5, 2) := by decide +kernel
theorem dX12_sumRound_74 : decode cX12_sumRound 74 = .ok (.invokevirtual 218, 3) := by decide +kernel
theorem dX12_sumRound_77 : decode cX12_sumRound 77 = .ok (.isub, 1) := by decide +kernel
theorem dX12_sumRound_78 : decode cX12_sumRound 78 = .ok (.iadd, 1) := by decide +kernel
theorem dX12_sumRound_79 : decode cX12_sumRound 79 = .ok (.istore 6, 2) := by decide +kernel
theorem dX12_sumRound_81 : decode cX12_sumRound 81 = .ok (.iinc 7 1, 3) := by decide +kernel
theorem dX12_sumRound_84 : decode cX12_sumRound 84 = .ok (.goto (-36), 3) := by decide +kernel
theorem dX12_sumRound_87 : decode cX12_sumRound 87 = .ok (.iload 6, 2) := by decide +kernel
theorem dX12_sumRound_89 : decode cX12_sumRound 89 = .ok (.ireturn, 1) := by decide +kernel
theorem dX12_takeBack_0 : decode cX12_takeBack 0 = .ok (.iconst 0, 1) := by decide +kernel
theorem dX12_takeBack_1 : decode cX12_takeBack 1 = .ok (.istore_n 1, 1) := by decide +kernel
theorem dX12_takeBack_2 : decode cX12_takeBack 2 = .ok (.iload_n 1, 1) := by decide +kernel
theorem dX12_takeBack_3 : decode cX12_takeBack 3 = .ok (.sipush 486, 3) := by decide +kernel
theorem dX12_takeBack_6 : decode cX12_takeBack 6 = .ok (.if_icmp .ge 21, 3) := by decide +kernel
theorem dX12_takeBack_9 : decode cX12_takeBack 9 = .ok (.aload_n 0, 1) := by decide +kernel
theorem dX12_takeBack_10 : decode cX12_takeBack 10 = .ok (.getfield 28, 3) := by decide +kernel
theorem dX12_takeBack_13 : decode cX12_takeBack 13 = .ok (.iload_n 1, 1) := by decide +kernel
theorem dX12_takeBack_14 : decode cX12_takeBack 14 = .ok (.aload_n 0, 1) := by decide +kernel
theorem dX12_takeBack_15 : decode cX12_takeBack 15 = .ok (.getfield 80, 3) := by decide +kernel
theorem dX12_takeBack_18 : decode cX12_takeBack 18 = .ok (.iload_n 1, 1) := by decide +kernel
theorem dX12_takeBack_19 : decode cX12_takeBack 19 = .ok (.iaload, 1) := by decide +kernel
theorem dX12_takeBack_20 : decode cX12_takeBack 20 = .ok (.iastore, 1) := by decide +kernel
theorem dX12_takeBack_21 : decode cX12_takeBack 21 = .ok (.iinc 1 1, 3) := by decide +kernel
theorem dX12_takeBack_24 : decode cX12_takeBack 24 = .ok (.goto (-22), 3) := by decide +kernel
theorem dX12_takeBack_27 : decode cX12_takeBack 27 = .ok (.return_, 1) := by decide +kernel
theorem dX12_takesNumber_0 : decode cX12_takesNumber 0 = .ok (.aload_n 0, 1) := by decide +kernel
theorem dX12_takesNumber_1 : decode cX12_takesNumber 1 = .ok (.getfield 134, 3) := by decide +kernel
theorem dX12_takesNumber_4 : decode cX12_takesNumber 4 = .ok (.iconst (-1), 1) := by decide +kernel
theorem dX12_takesNumber_5 : decode cX12_takesNumber 5 = .ok (.if_icmp .ne 26, 3) := by decide +kernel
theorem dX12_takesNumber_8 : decode cX12_takesNumber 8 = .ok (.aload_n 0, 1) := by decide +kernel
theorem dX12_takesNumber_9 : decode cX12_takesNumber 9 = .ok (.getfield 111, 3) := by decide +kernel
theorem dX12_takesNumber_12 : decode cX12_takesNumber 12 = .ok (.iconst 2, 1) := by decide +kernel
theorem dX12_takesNumber_13 : decode cX12_takesNumber 13 = .ok (.if_icmp .ne 18, 3) := by decide +kernel
theorem dX12_takesNumber_16 : decode cX12_takesNumber 16 = .ok (.aload_n 0, 1) := by decide +kernel
theorem dX12_takesNumber_17 : decode cX12_takesNumber 17 = .ok (.getfield 125, 3) := by decide +kernel
theorem dX12_takesNumber_20 : decode cX12_takesNumber 20 = .ok (.i2l, 1) := by decide +kernel
theorem dX12_takesNumber_21 : decode cX12_takesNumber 21 = .ok (.iload_n 1, 1) := by decide +kernel
theorem dX12_takesNumber_22 : decode cX12_takesNumber 22 = .ok (.i2l, 1) := by decide +kernel
theorem dX12_takesNumber_23 : decode cX12_takesNumber 23 = .ok (.iload_n 2, 1) := by decide +kernel
theorem dX12_takesNumber_24 : decode cX12_takesNumber 24 = .ok (.i2l, 1) := by decide +kernel
theorem dX12_takesNumber_25 : decode cX12_takesNumber 25 = .ok (.invokestatic 97, 3) := by decide +kernel
theorem dX12_takesNumber_28 : decode cX12_takesNumber 28 = .ok (.ifCond .ne 9, 3) := by decide +kernel
theorem dX12_takesNumber_31 : decode cX12_takesNumber 31 = .ok (.aload_n 0, 1) := by decide +kernel
theorem dX12_takesNumber_32 : decode cX12_takesNumber 32 = .ok (.invokevirtual 150, 3) := by decide +kernel
theorem dX12_takesNumber_35 : decode cX12_takesNumber 35 = .ok (.iload_n 1, 1) := by decide +kernel
theorem dX12_takesNumber_36 : decode cX12_takesNumber 36 = .ok (.ireturn, 1) := by decide +kernel
theorem dX12_takesNumber_37 : decode cX12_takesNumber 37 = .ok (.aload_n 0, 1) := by decide +kernel
theorem dX12_takesNumber_38 : decode cX12_takesNumber 38 = .ok (.getfield 125, 3) := by decide +kernel
theorem dX12_takesNumber_41 : decode cX12_takesNumber 41 = .ok (.istore_n 3, 1) := by decide +kernel
theorem dX12_takesNumber_42 : decode cX12_takesNumber 42 = .ok (.aload_n 0, 1) := by decide +kernel
theorem dX12_takesNumber_43 : decode cX12_takesNumber 43 = .ok (.invokevirtual 147, 3) := by decide +kernel
theorem dX12_takesNumber_46 : decode cX12_takesNumber 46 = .ok (.iload_n 3, 1) := by decide +kernel
theorem dX12_takesNumber_47 : decode cX12_takesNumber 47 = .ok (.ireturn, 1) := by decide +kernel
theorem dX12_takesSign_0 : decode cX12_takesSign 0 = .ok (.aload_n 0, 1) := by decide +kernel
theorem dX12_takesSign_1 : decode cX12_takesSign 1 = .ok (.getfield 134, 3) := by decide +kernel
theorem dX12_takesSign_4 : decode cX12_takesSign 4 = .ok (.iconst (-1), 1) := by decide +kernel
theorem dX12_takesSign_5 : decode cX12_takesSign 5 = .ok (.if_icmp .ne 28, 3) := by decide +kernel
theorem dX12_takesSign_8 : decode cX12_takesSign 8 = .ok (.aload_n 0, 1) := by decide +kernel
theorem dX12_takesSign_9 : decode cX12_takesSign 9 = .ok (.getfield 111, 3) := by decide +kernel
theorem dX12_takesSign_12 : decode cX12_takesSign 12 = .ok (.iconst 3, 1) := by decide +kernel
theorem dX12_takesSign_13 : decode cX12_takesSign 13 = .ok (.if_icmp .ne 20, 3) := by decide +kernel
theorem dX12_takesSign_16 : decode cX12_takesSign 16 = .ok (.aload_n 0, 1) := by decide +kernel
theorem dX12_takesSign_17 : decode cX12_takesSign 17 = .ok (.getfield 9, 3) := by decide +kernel
theorem dX12_takesSign_20 : decode cX12_takesSign 20 = .ok (.aload_n 0, 1) := by decide +kernel
theorem dX12_takesSign_21 : decode cX12_takesSign 21 = .ok (.getfield 108, 3) := by decide +kernel
theorem dX12_takesSign_24 : decode cX12_takesSign 24 = .ok (.iaload, 1) := by decide +kernel
theorem dX12_takesSign_25 : decode cX12_takesSign 25 = .ok (.iload_n 1, 1) := by decide +kernel
theorem dX12_takesSign_26 : decode cX12_takesSign 26 = .ok (.if_icmp .ne 7, 3) := by decide +kernel
theorem dX12_takesSign_29 : decode cX12_takesSign 29 = .ok (.iconst 1, 1) := by decide +kernel
theorem dX12_takesSign_30 : decode cX12_takesSign 30 = .ok (.goto 4, 3) := by decide +kernel
theorem dX12_takesSign_33 : decode cX12_takesSign 33 = .ok (.iconst 0, 1) := by decide +kernel
theorem dX12_takesSign_34 : decode cX12_takesSign 34 = .ok (.istore_n 2, 1) := by decide +kernel
theorem dX12_takesSign_35 : decode cX12_takesSign 35 = .ok (.iload_n 2, 1) := by decide +kernel
theorem dX12_takesSign_36 : decode cX12_takesSign 36 = .ok (.ifCond .eq 7, 3) := by decide +kernel
theorem dX12_takesSign_39 : decode cX12_takesSign 39 = .ok (.aload_n 0, 1) := by decide +kernel
theorem dX12_takesSign_40 : decode cX12_takesSign 40 = .ok (.invokevirtual 147, 3) := by decide +kernel
theorem dX12_takesSign_43 : decode cX12_takesSign 43 = .ok (.iload_n 2, 1) := by decide +kernel
theorem dX12_takesSign_44 : decode cX12_takesSign 44 = .ok (.ireturn, 1) := by decide +kernel
theorem dX12_text_0 : decode cX12_text 0 = .ok (.aload_n 0, 1) := by decide +kernel
theorem dX12_text_1 : decode cX12_text 1 = .ok (.iconst 0, 1) := by decide +kernel
theorem dX12_text_2 : decode cX12_text 2 = .ok (.putfield 86, 3) := by decide +kernel
theorem dX12_text_5 : decode cX12_text 5 = .ok (.aload_n 0, 1) := by decide +kernel
theorem dX12_text_6 : decode cX12_text 6 = .ok (.invokevirtual 202, 3) := by decide +kernel
theorem dX12_text_9 : decode cX12_text 9 = .ok (.iconst (-1), 1) := by decide +kernel
theorem dX12_text_10 : decode cX12_text 10 = .ok (.if_icmp .eq 5, 3) := by decide +kernel
theorem dX12_text_13 : decode cX12_text 13 = .ok (.iconst (-1), 1) := by decide +kernel
theorem dX12_text_14 : decode cX12_text 14 = .ok (.ireturn, 1) := by decide +kernel
theorem dX12_text_15 : decode cX12_text 15 = .ok (.aload_n 0, 1) := by decide +kernel
theorem dX12_text_16 : decode cX12_text 16 = .ok (.iconst 0, 1) := by decide +kernel
theorem dX12_text_17 : decode cX12_text 17 = .ok (.putfield 94, 3) := by decide +kernel
theorem dX12_text_20 : decode cX12_text 20 = .ok (.aload_n 0, 1) := by decide +kernel
theorem dX12_text_21 : decode cX12_text 21 = .ok (.aload_n 0, 1) := by decide +kernel
theorem dX12_text_22 : decode cX12_text 22 = .ok (.getfield 156, 3) := by decide +kernel
theorem dX12_text_25 : decode cX12_text 25 = .ok (.putfield 205, 3) := by decide +kernel
theorem dX12_text_28 : decode cX12_text 28 = .ok (.aload_n 0, 1) := by decide +kernel
theorem dX12_text_29 : decode cX12_text 29 = .ok (.aload_n 0, 1) := by decide +kernel
theorem dX12_text_30 : decode cX12_text 30 = .ok (.getfield 166, 3) := by decide +kernel
theorem dX12_text_33 : decode cX12_text 33 = .ok (.putfield 208, 3) := by decide +kernel
theorem dX12_text_36 : decode cX12_text 36 = .ok (.iconst 0, 1) := by decide +kernel
theorem dX12_text_37 : decode cX12_text 37 = .ok (.istore_n 1, 1) := by decide +kernel
theorem dX12_text_38 : decode cX12_text 38 = .ok (.iload_n 1, 1) := by decide +kernel
theorem dX12_text_39 : decode cX12_text 39 = .ok (.iconst 4, 1) := by decide +kernel
theorem dX12_text_40 : decode cX12_text 40 = .ok (.if_icmp .ge 21, 3) := by decide +kernel
theorem dX12_text_43 : decode cX12_text 43 = .ok (.aload_n 0, 1) := by decide +kernel
theorem dX12_text_44 : decode cX12_text 44 = .ok (.getfield 31, 3) := by decide +kernel
theorem dX12_text_47 : decode cX12_text 47 = .ok (.iload_n 1, 1) := by decide +kernel
theorem dX12_text_48 : decode cX12_text 48 = .ok (.aload_n 0, 1) := by decide +kernel
theorem dX12_text_49 : decode cX12_text 49 = .ok (.getfield 25, 3) := by decide +kernel
theorem dX12_text_52 : decode cX12_text 52 = .ok (.iload_n 1, 1) := by decide +kernel
theorem dX12_text_53 : decode cX12_text 53 = .ok (.iaload, 1) := by decide +kernel
theorem dX12_text_54 : decode cX12_text 54 = .ok (.iastore, 1) := by decide +kernel
theorem dX12_text_55 : decode cX12_text 55 = .ok (.iinc 1 1, 3) := by decide +kernel
theorem dX12_text_58 : decode cX12_text 58 = .ok (.goto (-20), 3) := by decide +kernel
theorem dX12_text_61 : decode cX12_text 61 = .ok (.iconst 0, 1) := by decide +kernel
theorem dX12_text_62 : decode cX12_text 62 = .ok (.istore_n 1, 1) := by decide +kernel
theorem dX12_text_63 : decode cX12_text 63 = .ok (.iload_n 1, 1) := by decide +kernel
theorem dX12_text_64 : decode cX12_text 64 = .ok (.sipush 486, 3) := by decide +kernel
theorem dX12_text_67 : decode cX12_text 67 = .ok (.if_icmp .ge 16, 3) := by decide +kernel
theorem dX12_text_70 : decode cX12_text 70 = .ok (.aload_n 0, 1) := by decide +kernel
theorem dX12_text_71 : decode cX12_text 71 = .ok (.getfield 28, 3) := by decide +kernel
theorem dX12_text_74 : decode cX12_text 74 = .ok (.iload_n 1, 1) := by decide +kernel
theorem dX12_text_75 : decode cX12_text 75 = .ok (.iconst 0, 1) := by decide +kernel
theorem dX12_text_76 : decode cX12_text 76 = .ok (.iastore, 1) := by decide +kernel
theorem dX12_text_77 : decode cX12_text 77 = .ok (.iinc 1 1, 3) := by decide +kernel
theorem dX12_text_80 : decode cX12_text 80 = .ok (.goto (-17), 3) := by decide +kernel
theorem dX12_text_83 : decode cX12_text 83 = .ok (.iconst 0, 1) := by decide +kernel
theorem dX12_text_84 : decode cX12_text 84 = .ok (.istore_n 1, 1) := by decide +kernel
theorem dX12_text_85 : decode cX12_text 85 = .ok (.iload_n 1, 1) := by decide +kernel
theorem dX12_text_86 : decode cX12_text 86 = .ok (.aload_n 0, 1) := by decide +kernel
theorem dX12_text_87 : decode cX12_text 87 = .ok (.getfield 208, 3) := by decide +kernel
theorem dX12_text_90 : decode cX12_text 90 = .ok (.if_icmp .ge 51, 3) := by decide +kernel
theorem dX12_text_93 : decode cX12_text 93 = .ok (.iconst 0, 1) := by decide +kernel
theorem dX12_text_94 : decode cX12_text 94 = .ok (.istore_n 2, 1) := by decide +kernel
theorem dX12_text_95 : decode cX12_text 95 = .ok (.iload_n 2, 1) := by decide +kernel
theorem dX12_text_96 : decode cX12_text 96 = .ok (.aload_n 0, 1) := by decide +kernel
theorem dX12_text_97 : decode cX12_text 97 = .ok (.getfield 205, 3) := by decide +kernel
theorem dX12_text_100 : decode cX12_text 100 = .ok (.if_icmp .ge 35, 3) := by decide +kernel
theorem dX12_text_103 : decode cX12_text 103 = .ok (.aload_n 0, 1) := by decide +kernel
theorem dX12_text_104 : decode cX12_text 104 = .ok (.getfield 28, 3) := by decide +kernel
theorem dX12_text_107 : decode cX12_text 107 = .ok (.iload_n 2, 1) := by decide +kernel
theorem dX12_text_108 : decode cX12_text 108 = .ok (.iload_n 1, 1) := by decide +kernel
theorem dX12_text_109 : decode cX12_text 109 = .ok (.iconst 0, 1) := by decide +kernel
theorem dX12_text_110 : decode cX12_text 110 = .ok (.iconst 0, 1) := by decide +kernel
theorem dX12_text_111 : decode cX12_text 111 = .ok (.invokestatic 211, 3) := by decide +kernel
theorem dX12_text_114 : decode cX12_text 114 = .ok (.iconst 1, 1) := by decide +kernel
theorem dX12_text_115 : decode cX12_text 115 = .ok (.iastore, 1) := by decide +kernel
theorem dX12_text_116 : decode cX12_text 116 = .ok (.aload_n 0, 1) := by decide +kernel
theorem dX12_text_117 : decode cX12_text 117 = .ok (.getfield 28, 3) := by decide +kernel
theorem dX12_text_120 : decode cX12_text 120 = .ok (.iload_n 2, 1) := by decide +kernel
theorem dX12_text_121 : decode cX12_text 121 = .ok (.iload_n 1, 1) := by decide +kernel
theorem dX12_text_122 : decode cX12_text 122 = .ok (.iconst 1, 1) := by decide +kernel
theorem dX12_text_123 : decode cX12_text 123 = .ok (.iconst 1, 1) := by decide +kernel
theorem dX12_text_124 : decode cX12_text 124 = .ok (.invokestatic 211, 3) := by decide +kernel
theorem dX12_text_127 : decode cX12_text 127 = .ok (.iconst 1, 1) := by decide +kernel
theorem dX12_text_128 : decode cX12_text 128 = .ok (.iastore, 1) := by decide +kernel
theorem dX12_text_129 : decode cX12_text 129 = .ok (.iinc 2 1, 3) := by decide +kernel
theorem dX12_text_132 : decode cX12_text 132 = .ok (.goto (-37), 3) := by decide +kernel
theorem dX12_text_135 : decode cX12_text 135 = .ok (.iinc 1 1, 3) := by decide +kernel
theorem dX12_text_138 : decode cX12_text 138 = .ok (.goto (-53), 3) := by decide +kernel
theorem dX12_text_141 : decode cX12_text 141 = .ok (.iconst 0, 1) := by decide +kernel
theorem dX12_text_142 : decode cX12_text 142 = .ok (.istore_n 1, 1) := by decide +kernel
theorem dX12_text_143 : decode cX12_text 143 = .ok (.iload_n 1, 1) := by decide +kernel
theorem dX12_text_144 : decode cX12_text 144 = .ok (.aload_n 0, 1) := by decide +kernel
theorem dX12_text_145 : decode cX12_text 145 = .ok (.getfield 153, 3) := by decide +kernel
theorem dX12_text_148 : decode cX12_text 148 = .ok (.if_icmp .ge 53, 3) := by decide +kernel
theorem dX12_text_151 : decode cX12_text 151 = .ok (.iconst 0, 1) := by decide +kernel
theorem dX12_text_152 : decode cX12_text 152 = .ok (.istore_n 2, 1) := by decide +kernel
theorem dX12_text_153 : decode cX12_text 153 = .ok (.iload_n 2, 1) := by decide +kernel
theorem dX12_text_154 : decode cX12_text 154 = .ok (.aload_n 0, 1) := by decide +kernel
theorem dX12_text_155 : decode cX12_text 155 = .ok (.getfield 13, 3) := by decide +kernel
theorem dX12_text_158 : decode cX12_text 158 = .ok (.iload_n 1, 1) := by decide +kernel
theorem dX12_text_159 : decode cX12_text 159 = .ok (.iaload, 1) := by decide +kernel
theorem dX12_text_160 : decode cX12_text 160 = .ok (.if_icmp .gt 35, 3) := by decide +kernel
theorem dX12_text_163 : decode cX12_text 163 = .ok (.aload_n 0, 1) := by decide +kernel
theorem dX12_text_164 : decode cX12_text 164 = .ok (.iload_n 2, 1) := by decide +kernel
theorem dX12_text_165 : decode cX12_text 165 = .ok (.aload_n 0, 1) := by decide +kernel
theorem dX12_text_166 : decode cX12_text 166 = .ok (.getfield 16, 3) := by decide +kernel
theorem dX12_text_169 : decode cX12_text 169 = .ok (.iload_n 1, 1) := by decide +kernel
theorem dX12_text_170 : decode cX12_text 170 = .ok (.iaload, 1) := by decide +kernel
theorem dX12_text_171 : decode cX12_text 171 = .ok (.iconst 1, 1) := by decide +kernel
theorem dX12_text_172 : decode cX12_text 172 = .ok (.aload_n 0, 1) := by decide +kernel
theorem dX12_text_173 : decode cX12_text 173 = .ok (.getfield 19, 3) := by decide +kernel
theorem dX12_text_176 : decode cX12_text 176 = .ok (.iload_n 1, 1) := by decide +kernel
theorem dX12_text_177 : decode cX12_text 177 = .ok (.iaload, 1) := by decide +kernel
theorem dX12_text_178 : decode cX12_text 178 = .ok (.ineg, 1) := by decide +kernel
theorem dX12_text_179 : decode cX12_text 179 = .ok (.aload_n 0, 1) := by decide +kernel
theorem dX12_text_180 : decode cX12_text 180 = .ok (.getfield 22, 3) := by decide +kernel
theorem dX12_text_183 : decode cX12_text 183 = .ok (.iload_n 1, 1) := by decide +kernel
theorem dX12_text_184 : decode cX12_text 184 = .ok (.iaload, 1) := by decide +kernel
theorem dX12_text_185 : decode cX12_text 185 = .ok (.ineg, 1) := by decide +kernel
theorem dX12_text_186 : decode cX12_text 186 = .ok (.invokevirtual 225, 3) := by decide +kernel
theorem dX12_text_189 : decode cX12_text 189 = .ok (.iinc 2 1, 3) := by decide +kernel
theorem dX12_text_192 : decode cX12_text 192 = .ok (.goto (-39), 3) := by decide +kernel
theorem dX12_text_195 : decode cX12_text 195 = .ok (.iinc 1 1, 3) := by decide +kernel
theorem dX12_text_198 : decode cX12_text 198 = .ok (.goto (-55), 3) := by decide +kernel
theorem dX12_text_201 : decode cX12_text 201 = .ok (.aload_n 0, 1) := by decide +kernel
theorem dX12_text_202 : decode cX12_text 202 = .ok (.iconst 0, 1) := by decide +kernel
theorem dX12_text_203 : decode cX12_text 203 = .ok (.putfield 229, 3) := by decide +kernel
theorem dX12_text_206 : decode cX12_text 206 = .ok (.aload_n 0, 1) := by decide +kernel
theorem dX12_text_207 : decode cX12_text 207 = .ok (.iconst 0, 1) := by decide +kernel
theorem dX12_text_208 : decode cX12_text 208 = .ok (.putfield 232, 3) := by decide +kernel
theorem dX12_text_211 : decode cX12_text 211 = .ok (.aload_n 0, 1) := by decide +kernel
theorem dX12_text_212 : decode cX12_text 212 = .ok (.iconst 0, 1) := by decide +kernel
theorem dX12_text_213 : decode cX12_text 213 = .ok (.putfield 235, 3) := by decide +kernel
theorem dX12_text_216 : decode cX12_text 216 = .ok (.aload_n 0, 1) := by decide +kernel
theorem dX12_text_217 : decode cX12_text 217 = .ok (.invokevirtual 238, 3) := by decide +kernel
theorem dX12_text_220 : decode cX12_text 220 = .ok (.ireturn, 1) := by decide +kernel
theorem dX12_thrown_0 : decode cX12_thrown 0 = .ok (.aload_n 0, 1) := by decide +kernel
theorem dX12_thrown_1 : decode cX12_thrown 1 = .ok (.getfield 86, 3) := by decide +kernel
theorem dX12_thrown_4 : decode cX12_thrown 4 = .ok (.ireturn, 1) := by decide +kernel
theorem dX12_toX_0 : decode cX12_toX 0 = .ok (.iload_n 1, 1) := by decide +kernel
theorem dX12_toX_1 : decode cX12_toX 1 = .ok (.ifCond .ne 9, 3) := by decide +kernel
theorem dX12_toX_4 : decode cX12_toX 4 = .ok (.iload_n 0, 1) := by decide +kernel
theorem dX12_toX_5 : decode cX12_toX 5 = .ok (.iconst 1, 1) := by decide +kernel
theorem dX12_toX_6 : decode cX12_toX 6 = .ok (.iadd, 1) := by decide +kernel
theorem dX12_toX_7 : decode cX12_toX 7 = .ok (.goto 15, 3) := by decide +kernel
theorem dX12_toX_10 : decode cX12_toX 10 = .ok (.iload_n 1, 1) := by decide +kernel
theorem dX12_toX_11 : decode cX12_toX 11 = .ok (.iconst 2, 1) := by decide +kernel
theorem dX12_toX_12 : decode cX12_toX 12 = .ok (.if_icmp .ne 9, 3) := by decide +kernel
theorem dX12_toX_15 : decode cX12_toX 15 = .ok (.iload_n 0, 1) := by decide +kernel
theorem dX12_toX_16 : decode cX12_toX 16 = .ok (.iconst 1, 1) := by decide +kernel
theorem dX12_toX_17 : decode cX12_toX 17 = .ok (.isub, 1) := by decide +kernel
theorem dX12_toX_18 : decode cX12_toX 18 = .ok (.goto 4, 3) := by decide +kernel
theorem dX12_toX_21 : decode cX12_toX 21 = .ok (.iload_n 0, 1) := by decide +kernel
theorem dX12_toX_22 : decode cX12_toX 22 = .ok (.ireturn, 1) := by decide +kernel
theorem dX12_toY_0 : decode cX12_toY 0 = .ok (.iload_n 1, 1) := by decide +kernel
theorem dX12_toY_1 : decode cX12_toY 1 = .ok (.iconst 1, 1) := by decide +kernel
theorem dX12_toY_2 : decode cX12_toY 2 = .ok (.if_icmp .ne 9, 3) := by decide +kernel
theorem dX12_toY_5 : decode cX12_toY 5 = .ok (.iload_n 0, 1) := by decide +kernel
theorem dX12_toY_6 : decode cX12_toY 6 = .ok (.iconst 1, 1) := by decide +kernel
theorem dX12_toY_7 : decode cX12_toY 7 = .ok (.iadd, 1) := by decide +kernel
theorem dX12_toY_8 : decode cX12_toY 8 = .ok (.goto 15, 3) := by decide +kernel
theorem dX12_toY_11 : decode cX12_toY 11 = .ok (.iload_n 1, 1) := by decide +kernel
theorem dX12_toY_12 : decode cX12_toY 12 = .ok (.iconst 3, 1) := by decide +kernel
theorem dX12_toY_13 : decode cX12_toY 13 = .ok (.if_icmp .ne 9, 3) := by decide +kernel
theorem dX12_toY_16 : decode cX12_toY 16 = .ok (.iload_n 0, 1) := by decide +kernel
theorem dX12_toY_17 : decode cX12_toY 17 = .ok (.iconst 1, 1) := by decide +kernel
theorem dX12_toY_18 : decode cX12_toY 18 = .ok (.isub, 1) := by decide +kernel
theorem dX12_toY_19 : decode cX12_toY 19 = .ok (.goto 4, 3) := by decide +kernel
theorem dX12_toY_22 : decode cX12_toY 22 = .ok (.iload_n 0, 1) := by decide +kernel
theorem dX12_toY_23 : decode cX12_toY 23 = .ok (.ireturn, 1) := by decide +kernel
theorem dX12_undo_0 : decode cX12_undo 0 = .ok (.aload_n 0, 1) := by decide +kernel
theorem dX12_undo_1 : decode cX12_undo 1 = .ok (.iconst 0, 1) := by decide +kernel
theorem dX12_undo_2 : decode cX12_undo 2 = .ok (.putfield 86, 3) := by decide +kernel
theorem dX12_undo_5 : decode cX12_undo 5 = .ok (.aload_n 0, 1) := by decide +kernel
theorem dX12_undo_6 : decode cX12_undo 6 = .ok (.getfield 229, 3) := by decide +kernel
theorem dX12_undo_9 : decode cX12_undo 9 = .ok (.ifCond .ne 5, 3) := by decide +kernel
theorem dX12_undo_12 : decode cX12_undo 12 = .ok (.iconst (-1), 1) := by decide +kernel
theorem dX12_undo_13 : decode cX12_undo 13 = .ok (.ireturn, 1) := by decide +kernel
theorem dX12_undo_14 : decode cX12_undo 14 = .ok (.aload_n 0, 1) := by decide +kernel
theorem dX12_undo_15 : decode cX12_undo 15 = .ok (.dup, 1) := by decide +kernel
theorem dX12_undo_16 : decode cX12_undo 16 = .ok (.getfield 229, 3) := by decide +kernel
theorem dX12_undo_19 : decode cX12_undo 19 = .ok (.iconst 1, 1) := by decide +kernel
theorem dX12_undo_20 : decode cX12_undo 20 = .ok (.isub, 1) := by decide +kernel
theorem dX12_undo_21 : decode cX12_undo 21 = .ok (.putfield 229, 3) := by decide +kernel
theorem dX12_undo_24 : decode cX12_undo 24 = .ok (.iconst 0, 1) := by decide +kernel
theorem dX12_undo_25 : decode cX12_undo 25 = .ok (.istore_n 1, 1) := by decide +kernel
theorem dX12_undo_26 : decode cX12_undo 26 = .ok (.iload_n 1, 1) := by decide +kernel
theorem dX12_undo_27 : decode cX12_undo 27 = .ok (.sipush 486, 3) := by decide +kernel
theorem dX12_undo_30 : decode cX12_undo 30 = .ok (.if_icmp .ge 30, 3) := by decide +kernel
theorem dX12_undo_33 : decode cX12_undo 33 = .ok (.aload_n 0, 1) := by decide +kernel
theorem dX12_undo_34 : decode cX12_undo 34 = .ok (.getfield 28, 3) := by decide +kernel
theorem dX12_undo_37 : decode cX12_undo 37 = .ok (.iload_n 1, 1) := by decide +kernel
theorem dX12_undo_38 : decode cX12_undo 38 = .ok (.aload_n 0, 1) := by decide +kernel
theorem dX12_undo_39 : decode cX12_undo 39 = .ok (.getfield 49, 3) := by decide +kernel
theorem dX12_undo_42 : decode cX12_undo 42 = .ok (.sipush 486, 3) := by decide +kernel
theorem dX12_undo_45 : decode cX12_undo 45 = .ok (.aload_n 0, 1) := by decide +kernel
theorem dX12_undo_46 : decode cX12_undo 46 = .ok (.getfield 229, 3) := by decide +kernel
theorem dX12_undo_49 : decode cX12_undo 49 = .ok (.imul, 1) := by decide +kernel
theorem dX12_undo_50 : decode cX12_undo 50 = .ok (.iload_n 1, 1) := by decide +kernel
theorem dX12_undo_51 : decode cX12_undo 51 = .ok (.iadd, 1) := by decide +kernel
theorem dX12_undo_52 : decode cX12_undo 52 = .ok (.iaload, 1) := by decide +kernel
theorem dX12_undo_53 : decode cX12_undo 53 = .ok (.iastore, 1) := by decide +kernel
theorem dX12_undo_54 : decode cX12_undo 54 = .ok (.iinc 1 1, 3) := by decide +kernel
theorem dX12_undo_57 : decode cX12_undo 57 = .ok (.goto (-31), 3) := by decide +kernel
theorem dX12_undo_60 : decode cX12_undo 60 = .ok (.aload_n 0, 1) := by decide +kernel
theorem dX12_undo_61 : decode cX12_undo 61 = .ok (.getfield 229, 3) := by decide +kernel
theorem dX12_undo_64 : decode cX12_undo 64 = .ok (.ireturn, 1) := by decide +kernel
theorem dX12_vector_0 : decode cX12_vector 0 = .ok (.aload_n 0, 1) := by decide +kernel
theorem dX12_vector_1 : decode cX12_vector 1 = .ok (.iload_n 1, 1) := by decide +kernel
theorem dX12_vector_2 : decode cX12_vector 2 = .ok (.iload_n 2, 1) := by decide +kernel
theorem dX12_vector_3 : decode cX12_vector 3 = .ok (.iconst 0, 1) := by decide +kernel
theorem dX12_vector_4 : decode cX12_vector 4 = .ok (.iload_n 3, 1) := by decide +kernel
theorem dX12_vector_5 : decode cX12_vector 5 = .ok (.invokevirtual 218, 3) := by decide +kernel
theorem dX12_vector_8 : decode cX12_vector 8 = .ok (.aload_n 0, 1) := by decide +kernel
theorem dX12_vector_9 : decode cX12_vector 9 = .ok (.iload_n 1, 1) := by decide +kernel
theorem dX12_vector_10 : decode cX12_vector 10 = .ok (.iconst 1, 1) := by decide +kernel
theorem dX12_vector_11 : decode cX12_vector 11 = .ok (.iadd, 1) := by decide +kernel
theorem dX12_vector_12 : decode cX12_vector 12 = .ok (.iload_n 2, 1) := by decide +kernel
theorem dX12_vector_13 : decode cX12_vector 13 = .ok (.iconst 1, 1) := by decide +kernel
theorem dX12_vector_14 : decode cX12_vector 14 = .ok (.iload_n 3, 1) := by decide +kernel
theorem dX12_vector_15 : decode cX12_vector 15 = .ok (.invokevirtual 218, 3) := by decide +kernel
theorem dX12_vector_18 : decode cX12_vector 18 = .ok (.iadd, 1) := by decide +kernel
theorem dX12_vector_19 : decode cX12_vector 19 = .ok (.aload_n 0, 1) := by decide +kernel
theorem dX12_vector_20 : decode cX12_vector 20 = .ok (.iload_n 1, 1) := by decide +kernel
theorem dX12_vector_21 : decode cX12_vector 21 = .ok (.iload_n 2, 1) := by decide +kernel
theorem dX12_vector_22 : decode cX12_vector 22 = .ok (.iconst 1, 1) := by decide +kernel
theorem dX12_vector_23 : decode cX12_vector 23 = .ok (.iadd, 1) := by decide +kernel
theorem dX12_vector_24 : decode cX12_vector 24 = .ok (.iconst 0, 1) := by decide +kernel
theorem dX12_vector_25 : decode cX12_vector 25 = .ok (.iload_n 3, 1) := by decide +kernel
theorem dX12_vector_26 : decode cX12_vector 26 = .ok (.invokevirtual 218, 3) := by decide +kernel
theorem dX12_vector_29 : decode cX12_vector 29 = .ok (.isub, 1) := by decide +kernel
theorem dX12_vector_30 : decode cX12_vector 30 = .ok (.aload_n 0, 1) := by decide +kernel
theorem dX12_vector_31 : decode cX12_vector 31 = .ok (.iload_n 1, 1) := by decide +kernel
theorem dX12_vector_32 : decode cX12_vector 32 = .ok (.iload_n 2, 1) := by decide +kernel
theorem dX12_vector_33 : decode cX12_vector 33 = .ok (.iconst 1, 1) := by decide +kernel
theorem dX12_vector_34 : decode cX12_vector 34 = .ok (.iload_n 3, 1) := by decide +kernel
theorem dX12_vector_35 : decode cX12_vector 35 = .ok (.invokevirtual 218, 3) := by decide +kernel
theorem dX12_vector_38 : decode cX12_vector 38 = .ok (.isub, 1) := by decide +kernel
theorem dX12_vector_39 : decode cX12_vector 39 = .ok (.ireturn, 1) := by decide +kernel
theorem dX12_wall_0 : decode cX12_wall 0 = .ok (.aload_n 0, 1) := by decide +kernel
theorem dX12_wall_1 : decode cX12_wall 1 = .ok (.iconst 0, 1) := by decide +kernel
theorem dX12_wall_2 : decode cX12_wall 2 = .ok (.putfield 86, 3) := by decide +kernel
theorem dX12_wall_5 : decode cX12_wall 5 = .ok (.aload_n 0, 1) := by decide +kernel
theorem dX12_wall_6 : decode cX12_wall 6 = .ok (.invokevirtual 306, 3) := by decide +kernel
theorem dX12_wall_9 : decode cX12_wall 9 = .ok (.ifCond .eq 31, 3) := by decide +kernel
theorem dX12_wall_12 : decode cX12_wall 12 = .ok (.iload_n 1, 1) := by decide +kernel
theorem dX12_wall_13 : decode cX12_wall 13 = .ok (.i2l, 1) := by decide +kernel
theorem dX12_wall_14 : decode cX12_wall 14 = .ok (.lconst 0, 1) := by decide +kernel
theorem dX12_wall_15 : decode cX12_wall 15 = .ok (.aload_n 0, 1) := by decide +kernel
theorem dX12_wall_16 : decode cX12_wall 16 = .ok (.invokevirtual 321, 3) := by decide +kernel
theorem dX12_wall_19 : decode cX12_wall 19 = .ok (.iconst 1, 1) := by decide +kernel
theorem dX12_wall_20 : decode cX12_wall 20 = .ok (.isub, 1) := by decide +kernel
theorem dX12_wall_21 : decode cX12_wall 21 = .ok (.i2l, 1) := by decide +kernel
theorem dX12_wall_22 : decode cX12_wall 22 = .ok (.invokestatic 97, 3) := by decide +kernel
theorem dX12_wall_25 : decode cX12_wall 25 = .ok (.ifCond .eq 15, 3) := by decide +kernel
theorem dX12_wall_28 : decode cX12_wall 28 = .ok (.iload_n 2, 1) := by decide +kernel
theorem dX12_wall_29 : decode cX12_wall 29 = .ok (.i2l, 1) := by decide +kernel
theorem dX12_wall_30 : decode cX12_wall 30 = .ok (.lconst 0, 1) := by decide +kernel
theorem dX12_wall_31 : decode cX12_wall 31 = .ok (.ldc2_w 352, 3) := by decide +kernel
theorem dX12_wall_34 : decode cX12_wall 34 = .ok (.invokestatic 97, 3) := by decide +kernel
theorem dX12_wall_37 : decode cX12_wall 37 = .ok (.ifCond .ne 5, 3) := by decide +kernel
theorem dX12_wall_40 : decode cX12_wall 40 = .ok (.iconst (-1), 1) := by decide +kernel
theorem dX12_wall_41 : decode cX12_wall 41 = .ok (.ireturn, 1) := by decide +kernel
theorem dX12_wall_42 : decode cX12_wall 42 = .ok (.aload_n 0, 1) := by decide +kernel
theorem dX12_wall_43 : decode cX12_wall 43 = .ok (.getfield 68, 3) := by decide +kernel
theorem dX12_wall_46 : decode cX12_wall 46 = .ok (.iload_n 1, 1) := by decide +kernel
theorem dX12_wall_47 : decode cX12_wall 47 = .ok (.iaload, 1) := by decide +kernel
theorem dX12_wall_48 : decode cX12_wall 48 = .ok (.istore_n 3, 1) := by decide +kernel
theorem dX12_wall_49 : decode cX12_wall 49 = .ok (.iload_n 2, 1) := by decide +kernel
theorem dX12_wall_50 : decode cX12_wall 50 = .ok (.tableswitch 54 0 3 #[30, 36, 43, 50], 30) := by decide +kernel
theorem dX12_wall_80 : decode cX12_wall 80 = .ok (.aload_n 0, 1) := by decide +kernel
theorem dX12_wall_81 : decode cX12_wall 81 = .ok (.iload_n 3, 1) := by decide +kernel
theorem dX12_wall_82 : decode cX12_wall 82 = .ok (.invokevirtual 434, 3) := by decide +kernel
theorem dX12_wall_85 : decode cX12_wall 85 = .ok (.ireturn, 1) := by decide +kernel
theorem dX12_wall_86 : decode cX12_wall 86 = .ok (.iload_n 3, 1) := by decide +kernel
theorem dX12_wall_87 : decode cX12_wall 87 = .ok (.iconst 2, 1) := by decide +kernel
theorem dX12_wall_88 : decode cX12_wall 88 = .ok (.idiv, 1) := by decide +kernel
theorem dX12_wall_89 : decode cX12_wall 89 = .ok (.bipush 9, 2) := by decide +kernel
theorem dX12_wall_91 : decode cX12_wall 91 = .ok (.irem, 1) := by decide +kernel
theorem dX12_wall_92 : decode cX12_wall 92 = .ok (.ireturn, 1) := by decide +kernel
theorem dX12_wall_93 : decode cX12_wall 93 = .ok (.iload_n 3, 1) := by decide +kernel
theorem dX12_wall_94 : decode cX12_wall 94 = .ok (.iconst 2, 1) := by decide +kernel
theorem dX12_wall_95 : decode cX12_wall 95 = .ok (.idiv, 1) := by decide +kernel
theorem dX12_wall_96 : decode cX12_wall 96 = .ok (.bipush 9, 2) := by decide +kernel
theorem dX12_wall_98 : decode cX12_wall 98 = .ok (.idiv, 1) := by decide +kernel
theorem dX12_wall_99 : decode cX12_wall 99 = .ok (.ireturn, 1) := by decide +kernel
theorem dX12_wall_100 : decode cX12_wall 100 = .ok (.iload_n 3, 1) := by decide +kernel
theorem dX12_wall_101 : decode cX12_wall 101 = .ok (.iconst 2, 1) := by decide +kernel
theorem dX12_wall_102 : decode cX12_wall 102 = .ok (.irem, 1) := by decide +kernel
theorem dX12_wall_103 : decode cX12_wall 103 = .ok (.ireturn, 1) := by decide +kernel
theorem dX12_wall_104 : decode cX12_wall 104 = .ok (.aload_n 0, 1) := by decide +kernel
theorem dX12_wall_105 : decode cX12_wall 105 = .ok (.iload_n 3, 1) := by decide +kernel
theorem dX12_wall_106 : decode cX12_wall 106 = .ok (.invokevirtual 437, 3) := by decide +kernel
theorem dX12_wall_109 : decode cX12_wall 109 = .ok (.ireturn, 1) := by decide +kernel
theorem dX12_way_0 : decode cX12_way 0 = .ok (.aload_n 0, 1) := by decide +kernel
theorem dX12_way_1 : decode cX12_way 1 = .ok (.getfield 40, 3) := by decide +kernel
theorem dX12_way_4 : decode cX12_way 4 = .ok (.iload_n 1, 1) := by decide +kernel
theorem dX12_way_5 : decode cX12_way 5 = .ok (.iaload, 1) := by decide +kernel
theorem dX12_way_6 : decode cX12_way 6 = .ok (.aload_n 0, 1) := by decide +kernel
theorem dX12_way_7 : decode cX12_way 7 = .ok (.getfield 43, 3) := by decide +kernel
theorem dX12_way_10 : decode cX12_way 10 = .ok (.iload_n 1, 1) := by decide +kernel
theorem dX12_way_11 : decode cX12_way 11 = .ok (.iaload, 1) := by decide +kernel
theorem dX12_way_12 : decode cX12_way 12 = .ok (.invokestatic 250, 3) := by decide +kernel
theorem dX12_way_15 : decode cX12_way 15 = .ok (.ireturn, 1) := by decide +kernel
theorem dX12_wayOf_0 : decode cX12_wayOf 0 = .ok (.iload_n 1, 1) := by decide +kernel
theorem dX12_wayOf_1 : decode cX12_wayOf 1 = .ok (.ifCond .ne 7, 3) := by decide +kernel
theorem dX12_wayOf_4 : decode cX12_wayOf 4 = .ok (.iconst 0, 1) := by decide +kernel
theorem dX12_wayOf_5 : decode cX12_wayOf 5 = .ok (.goto 12, 3) := by decide +kernel
theorem dX12_wayOf_8 : decode cX12_wayOf 8 = .ok (.iload_n 0, 1) := by decide +kernel
theorem dX12_wayOf_9 : decode cX12_wayOf 9 = .ok (.ifCond .ne 7, 3) := by decide +kernel
theorem dX12_wayOf_12 : decode cX12_wayOf 12 = .ok (.iconst 1, 1) := by decide +kernel
theorem dX12_wayOf_13 : decode cX12_wayOf 13 = .ok (.goto 4, 3) := by decide +kernel
theorem dX12_wayOf_16 : decode cX12_wayOf 16 = .ok (.iconst (-1), 1) := by decide +kernel
theorem dX12_wayOf_17 : decode cX12_wayOf 17 = .ok (.ireturn, 1) := by decide +kernel
