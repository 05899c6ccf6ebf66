theorem dJ0_charAt_5068e_12 : decode cJ0_charAt_5068e 12 = .ok (.invokestatic 495, 3) := by decide +kernel
theorem dJ0_charAt_5068e_15 : decode cJ0_charAt_5068e 15 = .ok (.ireturn, 1) := by decide +kernel
theorem dJ0_charAt_5068e_16 : decode cJ0_charAt_5068e 16 = .ok (.aload_n 0, 1) := by decide +kernel
theorem dJ0_charAt_5068e_17 : decode cJ0_charAt_5068e 17 = .ok (.getfield 9, 3) := by decide +kernel
theorem dJ0_charAt_5068e_20 : decode cJ0_charAt_5068e 20 = .ok (.iload_n 1, 1) := by decide +kernel
theorem dJ0_charAt_5068e_21 : decode cJ0_charAt_5068e 21 = .ok (.invokestatic 498, 3) := by decide +kernel
theorem dJ0_charAt_5068e_24 : decode cJ0_charAt_5068e 24 = .ok (.ireturn, 1) := by decide +kernel
theorem dX5_spells_0 : decode cX5_spells 0 = .ok (.aload_n 0, 1) := by decide +kernel
theorem dX5_spells_1 : decode cX5_spells 1 = .ok (.getfield 25, 3) := by decide +kernel
theorem dX5_spells_4 : decode cX5_spells 4 = .ok (.aload_n 0, 1) := by decide +kernel
theorem dX5_spells_5 : decode cX5_spells 5 = .ok (.getfield 78, 3) := by decide +kernel
theorem dX5_spells_8 : decode cX5_spells 8 = .ok (.isub, 1) := by decide +kernel
theorem dX5_spells_9 : decode cX5_spells 9 = .ok (.aload_n 1, 1) := by decide +kernel
theorem dX5_spells_10 : decode cX5_spells 10 = .ok (.invokevirtual 125, 3) := by decide +kernel
theorem dX5_spells_13 : decode cX5_spells 13 = .ok (.if_icmp .eq 5, 3) := by decide +kernel
theorem dX5_spells_16 : decode cX5_spells 16 = .ok (.iconst 0, 1) := by decide +kernel
theorem dX5_spells_17 : decode cX5_spells 17 = .ok (.ireturn, 1) := by decide +kernel
theorem dX5_spells_18 : decode cX5_spells 18 = .ok (.iconst 0, 1) := by decide +kernel
theorem dX5_spells_19 : decode cX5_spells 19 = .ok (.istore_n 2, 1) := by decide +kernel
theorem dX5_spells_20 : decode cX5_spells 20 = .ok (.iload_n 2, 1) := by decide +kernel
theorem dX5_spells_21 : decode cX5_spells 21 = .ok (.aload_n 1, 1) := by decide +kernel
theorem dX5_spells_22 : decode cX5_spells 22 = .ok (.invokevirtual 125, 3) := by decide +kernel
theorem dX5_spells_25 : decode cX5_spells 25 = .ok (.if_icmp .ge 32, 3) := by decide +kernel
theorem dX5_spells_28 : decode cX5_spells 28 = .ok (.aload_n 0, 1) := by decide +kernel
theorem dX5_spells_29 : decode cX5_spells 29 = .ok (.getfield 21, 3) := by decide +kernel
theorem dX5_spells_32 : decode cX5_spells 32 = .ok (.aload_n 0, 1) := by decide +kernel
theorem dX5_spells_33 : decode cX5_spells 33 = .ok (.getfield 78, 3) := by decide +kernel
theorem dX5_spells_36 : decode cX5_spells 36 = .ok (.iload_n 2, 1) := by decide +kernel
theorem dX5_spells_37 : decode cX5_spells 37 = .ok (.iadd, 1) := by decide +kernel
theorem dX5_spells_38 : decode cX5_spells 38 = .ok (.invokevirtual 121, 3) := by decide +kernel
theorem dX5_spells_41 : decode cX5_spells 41 = .ok (.aload_n 1, 1) := by decide +kernel
theorem dX5_spells_42 : decode cX5_spells 42 = .ok (.iload_n 2, 1) := by decide +kernel
theorem dX5_spells_43 : decode cX5_spells 43 = .ok (.invokevirtual 129, 3) := by decide +kernel
theorem dX5_spells_46 : decode cX5_spells 46 = .ok (.if_icmp .eq 5, 3) := by decide +kernel
theorem dX5_spells_49 : decode cX5_spells 49 = .ok (.iconst 0, 1) := by decide +kernel
theorem dX5_spells_50 : decode cX5_spells 50 = .ok (.ireturn, 1) := by decide +kernel
theorem dX5_spells_51 : decode cX5_spells 51 = .ok (.iinc 2 1, 3) := by decide +kernel
theorem dX5_spells_54 : decode cX5_spells 54 = .ok (.goto (-34), 3) := by decide +kernel
theorem dX5_spells_57 : decode cX5_spells 57 = .ok (.iconst 1, 1) := by decide +kernel
theorem dX5_spells_58 : decode cX5_spells 58 = .ok (.ireturn, 1) := by decide +kernel
theorem dX5_readNumber_0 : decode cX5_readNumber 0 = .ok (.aload_n 0, 1) := by decide +kernel
theorem dX5_readNumber_1 : decode cX5_readNumber 1 = .ok (.getfield 29, 3) := by decide +kernel
theorem dX5_readNumber_4 : decode cX5_readNumber 4 = .ok (.iconst (-1), 1) := by decide +kernel
theorem dX5_readNumber_5 : decode cX5_readNumber 5 = .ok (.if_icmp .eq 5, 3) := by decide +kernel
theorem dX5_readNumber_8 : decode cX5_readNumber 8 = .ok (.iconst 0, 1) := by decide +kernel
theorem dX5_readNumber_9 : decode cX5_readNumber 9 = .ok (.ireturn, 1) := by decide +kernel
theorem dX5_readNumber_10 : decode cX5_readNumber 10 = .ok (.aload_n 0, 1) := by decide +kernel
theorem dX5_readNumber_11 : decode cX5_readNumber 11 = .ok (.invokevirtual 59, 3) := by decide +kernel
theorem dX5_readNumber_14 : decode cX5_readNumber 14 = .ok (.bipush 45, 2) := by decide +kernel
theorem dX5_readNumber_16 : decode cX5_readNumber 16 = .ok (.if_icmp .ne 7, 3) := by decide +kernel
theorem dX5_readNumber_19 : decode cX5_readNumber 19 = .ok (.iconst 1, 1) := by decide +kernel
theorem dX5_readNumber_20 : decode cX5_readNumber 20 = .ok (.goto 4, 3) := by decide +kernel
theorem dX5_readNumber_23 : decode cX5_readNumber 23 = .ok (.iconst 0, 1) := by decide +kernel
theorem dX5_readNumber_24 : decode cX5_readNumber 24 = .ok (.istore_n 3, 1) := by decide +kernel
theorem dX5_readNumber_25 : decode cX5_readNumber 25 = .ok (.aload_n 0, 1) := by decide +kernel
theorem dX5_readNumber_26 : decode cX5_readNumber 26 = .ok (.aload_n 0, 1) := by decide +kernel
theorem dX5_readNumber_27 : decode cX5_readNumber 27 = .ok (.getfield 25, 3) := by decide +kernel
theorem dX5_readNumber_30 : decode cX5_readNumber 30 = .ok (.putfield 78, 3) := by decide +kernel
theorem dX5_readNumber_33 : decode cX5_readNumber 33 = .ok (.iload_n 3, 1) := by decide +kernel
theorem dX5_readNumber_34 : decode cX5_readNumber 34 = .ok (.ifCond .eq 13, 3) := by decide +kernel
theorem dX5_readNumber_37 : decode cX5_readNumber 37 = .ok (.aload_n 0, 1) := by decide +kernel
theorem dX5_readNumber_38 : decode cX5_readNumber 38 = .ok (.dup, 1) := by decide +kernel
theorem dX5_readNumber_39 : decode cX5_readNumber 39 = .ok (.getfield 25, 3) := by decide +kernel
theorem dX5_readNumber_42 : decode cX5_readNumber 42 = .ok (.iconst 1, 1) := by decide +kernel
theorem dX5_readNumber_43 : decode cX5_readNumber 43 = .ok (.iadd, 1) := by decide +kernel
theorem dX5_readNumber_44 : decode cX5_readNumber 44 = .ok (.putfield 25, 3) := by decide +kernel
theorem dX5_readNumber_47 : decode cX5_readNumber 47 = .ok (.iconst 0, 1) := by decide +kernel
theorem dX5_readNumber_48 : decode cX5_readNumber 48 = .ok (.istore 4, 2) := by decide +kernel
theorem dX5_readNumber_50 : decode cX5_readNumber 50 = .ok (.iconst 0, 1) := by decide +kernel
theorem dX5_readNumber_51 : decode cX5_readNumber 51 = .ok (.istore 5, 2) := by decide +kernel
theorem dX5_readNumber_53 : decode cX5_readNumber 53 = .ok (.aload_n 0, 1) := by decide +kernel
theorem dX5_readNumber_54 : decode cX5_readNumber 54 = .ok (.getfield 25, 3) := by decide +kernel
theorem dX5_readNumber_57 : decode cX5_readNumber 57 = .ok (.aload_n 0, 1) := by decide +kernel
theorem dX5_readNumber_58 : decode cX5_readNumber 58 = .ok (.getfield 21, 3) := by decide +kernel
theorem dX5_readNumber_61 : decode cX5_readNumber 61 = .ok (.getfield 118, 3) := by decide +kernel
theorem dX5_readNumber_64 : decode cX5_readNumber 64 = .ok (.if_icmp .ge 79, 3) := by decide +kernel
theorem dX5_readNumber_67 : decode cX5_readNumber 67 = .ok (.aload_n 0, 1) := by decide +kernel
theorem dX5_readNumber_68 : decode cX5_readNumber 68 = .ok (.getfield 21, 3) := by decide +kernel
theorem dX5_readNumber_71 : decode cX5_readNumber 71 = .ok (.aload_n 0, 1) := by decide +kernel
theorem dX5_readNumber_72 : decode cX5_readNumber 72 = .ok (.getfield 25, 3) := by decide +kernel
theorem dX5_readNumber_75 : decode cX5_readNumber 75 = .ok (.invokevirtual 121, 3) := by decide +kernel
theorem dX5_readNumber_78 : decode cX5_readNumber 78 = .ok (.bipush 48, 2) := by decide +kernel
theorem dX5_readNumber_80 : decode cX5_readNumber 80 = .ok (.if_icmp .lt 63, 3) := by decide +kernel
theorem dX5_readNumber_83 : decode cX5_readNumber 83 = .ok (.aload_n 0, 1) := by decide +kernel
theorem dX5_readNumber_84 : decode cX5_readNumber 84 = .ok (.getfield 21, 3) := by decide +kernel
theorem dX5_readNumber_87 : decode cX5_readNumber 87 = .ok (.aload_n 0, 1) := by decide +kernel
theorem dX5_readNumber_88 : decode cX5_readNumber 88 = .ok (.getfield 25, 3) := by decide +kernel
theorem dX5_readNumber_91 : decode cX5_readNumber 91 = .ok (.invokevirtual 121, 3) := by decide +kernel
theorem dX5_readNumber_94 : decode cX5_readNumber 94 = .ok (.bipush 57, 2) := by decide +kernel
theorem dX5_readNumber_96 : decode cX5_readNumber 96 = .ok (.if_icmp .gt 47, 3) := by decide +kernel
theorem dX5_readNumber_99 : decode cX5_readNumber 99 = .ok (.iload 5, 2) := by decide +kernel
theorem dX5_readNumber_101 : decode cX5_readNumber 101 = .ok (.iconst 2, 1) := by decide +kernel
theorem dX5_readNumber_102 : decode cX5_readNumber 102 = .ok (.if_icmp .ge 25, 3) := by decide +kernel
theorem dX5_readNumber_105 : decode cX5_readNumber 105 = .ok (.bipush 10, 2) := by decide +kernel
theorem dX5_readNumber_107 : decode cX5_readNumber 107 = .ok (.iload 4, 2) := by decide +kernel
theorem dX5_readNumber_109 : decode cX5_readNumber 109 = .ok (.imul, 1) := by decide +kernel
theorem dX5_readNumber_110 : decode cX5_readNumber 110 = .ok (.aload_n 0, 1) := by decide +kernel
theorem dX5_readNumber_111 : decode cX5_readNumber 111 = .ok (.getfield 21, 3) := by decide +kernel
theorem dX5_readNumber_114 : decode cX5_readNumber 114 = .ok (.aload_n 0, 1) := by decide +kernel
theorem dX5_readNumber_115 : decode cX5_readNumber 115 = .ok (.getfield 25, 3) := by decide +kernel
theorem dX5_readNumber_118 : decode cX5_readNumber 118 = .ok (.invokevirtual 121, 3) := by decide +kernel
theorem dX5_readNumber_121 : decode cX5_readNumber 121 = .ok (.iadd, 1) := by decide +kernel
theorem dX5_readNumber_122 : decode cX5_readNumber 122 = .ok (.bipush 48, 2) := by decide +kernel
theorem dX5_readNumber_124 : decode cX5_readNumber 124 = .ok (.isub, 1) := by decide +kernel
theorem dX5_readNumber_125 : decode cX5_readNumber 125 = .ok (.istore 4, 2) := by decide +kernel
theorem dX5_readNumber_127 : decode cX5_readNumber 127 = .ok (.iinc 5 1, 3) := by decide +kernel
theorem dX5_readNumber_130 : decode cX5_readNumber 130 = .ok (.aload_n 0, 1) := by decide +kernel
theorem dX5_readNumber_131 : decode cX5_readNumber 131 = .ok (.dup, 1) := by decide +kernel
theorem dX5_readNumber_132 : decode cX5_readNumber 132 = .ok (.getfield 25, 3) := by decide +kernel
theorem dX5_readNumber_135 : decode cX5_readNumber 135 = .ok (.iconst 1, 1) := by decide +kernel
theorem dX5_readNumber_136 : decode cX5_readNumber 136 = .ok (.iadd, 1) := by decide +kernel
theorem dX5_readNumber_137 : decode cX5_readNumber 137 = .ok (.putfield 25, 3) := by decide +kernel
theorem dX5_readNumber_140 : decode cX5_readNumber 140 = .ok (.goto (-87), 3) := by decide +kernel
theorem dX5_readNumber_143 : decode cX5_readNumber 143 = .ok (.iload_n 3, 1) := by decide +kernel
theorem dX5_readNumber_144 : decode cX5_readNumber 144 = .ok (.ifCond .eq 8, 3) := by decide +kernel
theorem dX5_readNumber_147 : decode cX5_readNumber 147 = .ok (.iload 4, 2) := by decide +kernel
theorem dX5_readNumber_149 : decode cX5_readNumber 149 = .ok (.ineg, 1) := by decide +kernel
theorem dX5_readNumber_150 : decode cX5_readNumber 150 = .ok (.istore 4, 2) := by decide +kernel
theorem dX5_readNumber_152 : decode cX5_readNumber 152 = .ok (.iload 5, 2) := by decide +kernel
theorem dX5_readNumber_154 : decode cX5_readNumber 154 = .ok (.iconst 1, 1) := by decide +kernel
theorem dX5_readNumber_155 : decode cX5_readNumber 155 = .ok (.if_icmp .lt 21, 3) := by decide +kernel
theorem dX5_readNumber_158 : decode cX5_readNumber 158 = .ok (.iload 5, 2) := by decide +kernel
theorem dX5_readNumber_160 : decode cX5_readNumber 160 = .ok (.iconst 2, 1) := by decide +kernel
theorem dX5_readNumber_161 : decode cX5_readNumber 161 = .ok (.if_icmp .gt 15, 3) := by decide +kernel
theorem dX5_readNumber_164 : decode cX5_readNumber 164 = .ok (.iload 4, 2) := by decide +kernel
theorem dX5_readNumber_166 : decode cX5_readNumber 166 = .ok (.iload_n 1, 1) := by decide +kernel
theorem dX5_readNumber_167 : decode cX5_readNumber 167 = .ok (.if_icmp .lt 9, 3) := by decide +kernel
theorem dX5_readNumber_170 : decode cX5_readNumber 170 = .ok (.iload 4, 2) := by decide +kernel
theorem dX5_readNumber_172 : decode cX5_readNumber 172 = .ok (.iload_n 2, 1) := by decide +kernel
theorem dX5_readNumber_173 : decode cX5_readNumber 173 = .ok (.if_icmp .le 11, 3) := by decide +kernel
theorem dX5_readNumber_176 : decode cX5_readNumber 176 = .ok (.aload_n 0, 1) := by decide +kernel
theorem dX5_readNumber_177 : decode cX5_readNumber 177 = .ok (.aload_n 0, 1) := by decide +kernel
theorem dX5_readNumber_178 : decode cX5_readNumber 178 = .ok (.getfield 78, 3) := by decide +kernel
theorem dX5_readNumber_181 : decode cX5_readNumber 181 = .ok (.putfield 29, 3) := by decide +kernel
theorem dX5_readNumber_184 : decode cX5_readNumber 184 = .ok (.iload 4, 2) := by decide +kernel
theorem dX5_readNumber_186 : decode cX5_readNumber 186 = .ok (.ireturn, 1) := by decide +kernel
theorem dX5_readSize_0 : decode cX5_readSize 0 = .ok (.aload_n 0, 1) := by decide +kernel
theorem dX5_readSize_1 : decode cX5_readSize 1 = .ok (.invokevirtual 69, 3) := by decide +kernel
theorem dX5_readSize_4 : decode cX5_readSize 4 = .ok (.aload_n 0, 1) := by decide +kernel
theorem dX5_readSize_5 : decode cX5_readSize 5 = .ok (.ldc 72, 2) := by decide +kernel
theorem dX5_readSize_7 : decode cX5_readSize 7 = .ok (.invokevirtual 74, 3) := by decide +kernel
theorem dX5_readSize_10 : decode cX5_readSize 10 = .ok (.ifCond .ne 11, 3) := by decide +kernel
theorem dX5_readSize_13 : decode cX5_readSize 13 = .ok (.aload_n 0, 1) := by decide +kernel
theorem dX5_readSize_14 : decode cX5_readSize 14 = .ok (.aload_n 0, 1) := by decide +kernel
theorem dX5_readSize_15 : decode cX5_readSize 15 = .ok (.getfield 78, 3) := by decide +kernel
theorem dX5_readSize_18 : decode cX5_readSize 18 = .ok (.putfield 29, 3) := by decide +kernel
theorem dX5_readSize_21 : decode cX5_readSize 21 = .ok (.aload_n 0, 1) := by decide +kernel
theorem dX5_readSize_22 : decode cX5_readSize 22 = .ok (.aload_n 0, 1) := by decide +kernel
theorem dX5_readSize_23 : decode cX5_readSize 23 = .ok (.iconst 2, 1) := by decide +kernel
theorem dX5_readSize_24 : decode cX5_readSize 24 = .ok (.bipush 9, 2) := by decide +kernel
theorem dX5_readSize_26 : decode cX5_readSize 26 = .ok (.invokevirtual 83, 3) := by decide +kernel
theorem dX5_readSize_29 : decode cX5_readSize 29 = .ok (.putfield 87, 3) := by decide +kernel
theorem dX5_readSize_32 : decode cX5_readSize 32 = .ok (.aload_n 0, 1) := by decide +kernel
theorem dX5_readSize_33 : decode cX5_readSize 33 = .ok (.aload_n 0, 1) := by decide +kernel
theorem dX5_readSize_34 : decode cX5_readSize 34 = .ok (.iconst 2, 1) := by decide +kernel
theorem dX5_readSize_35 : decode cX5_readSize 35 = .ok (.bipush 9, 2) := by decide +kernel
theorem dX5_readSize_37 : decode cX5_readSize 37 = .ok (.invokevirtual 83, 3) := by decide +kernel
theorem dX5_readSize_40 : decode cX5_readSize 40 = .ok (.putfield 90, 3) := by decide +kernel
theorem dX5_readSize_43 : decode cX5_readSize 43 = .ok (.return_, 1) := by decide +kernel
theorem dX5_readSemicolon_0 : decode cX5_readSemicolon 0 = .ok (.aload_n 0, 1) := by decide +kernel
theorem dX5_readSemicolon_1 : decode cX5_readSemicolon 1 = .ok (.invokevirtual 59, 3) := by decide +kernel
theorem dX5_readSemicolon_4 : decode cX5_readSemicolon 4 = .ok (.bipush 59, 2) := by decide +kernel
theorem dX5_readSemicolon_6 : decode cX5_readSemicolon 6 = .ok (.if_icmp .ne 16, 3) := by decide +kernel
theorem dX5_readSemicolon_9 : decode cX5_readSemicolon 9 = .ok (.aload_n 0, 1) := by decide +kernel
theorem dX5_readSemicolon_10 : decode cX5_readSemicolon 10 = .ok (.dup, 1) := by decide +kernel
theorem dX5_readSemicolon_11 : decode cX5_readSemicolon 11 = .ok (.getfield 25, 3) := by decide +kernel
theorem dX5_readSemicolon_14 : decode cX5_readSemicolon 14 = .ok (.iconst 1, 1) := by decide +kernel
theorem dX5_readSemicolon_15 : decode cX5_readSemicolon 15 = .ok (.iadd, 1) := by decide +kernel
theorem dX5_readSemicolon_16 : decode cX5_readSemicolon 16 = .ok (.putfield 25, 3) := by decide +kernel
theorem dX5_readSemicolon_19 : decode cX5_readSemicolon 19 = .ok (.goto 11, 3) := by decide +kernel
theorem dX5_readSemicolon_22 : decode cX5_readSemicolon 22 = .ok (.aload_n 0, 1) := by decide +kernel
theorem dX5_readSemicolon_23 : decode cX5_readSemicolon 23 = .ok (.aload_n 0, 1) := by decide +kernel
theorem dX5_readSemicolon_24 : decode cX5_readSemicolon 24 = .ok (.getfield 25, 3) := by decide +kernel
theorem dX5_readSemicolon_27 : decode cX5_readSemicolon 27 = .ok (.putfield 29, 3) := by decide +kernel
theorem dX5_readSemicolon_30 : decode cX5_readSemicolon 30 = .ok (.return_, 1) := by decide +kernel
theorem dX5_readSetting_0 : decode cX5_readSetting 0 = .ok (.iload_n 1, 1) := by decide +kernel
theorem dX5_readSetting_1 : decode cX5_readSetting 1 = .ok (.ifCond .lt 32, 3) := by decide +kernel
theorem dX5_readSetting_4 : decode cX5_readSetting 4 = .ok (.iload_n 1, 1) := by decide +kernel
theorem dX5_readSetting_5 : decode cX5_readSetting 5 = .ok (.aload_n 0, 1) := by decide +kernel
theorem dX5_readSetting_6 : decode cX5_readSetting 6 = .ok (.getfield 9, 3) := by decide +kernel
theorem dX5_readSetting_9 : decode cX5_readSetting 9 = .ok (.arraylength, 1) := by decide +kernel
theorem dX5_readSetting_10 : decode cX5_readSetting 10 = .ok (.if_icmp .ge 23, 3) := by decide +kernel
theorem dX5_readSetting_13 : decode cX5_readSetting 13 = .ok (.aload_n 0, 1) := by decide +kernel
theorem dX5_readSetting_14 : decode cX5_readSetting 14 = .ok (.getfield 9, 3) := by decide +kernel
theorem dX5_readSetting_17 : decode cX5_readSetting 17 = .ok (.iload_n 1, 1) := by decide +kernel
theorem dX5_readSetting_18 : decode cX5_readSetting 18 = .ok (.aload_n 0, 1) := by decide +kernel
theorem dX5_readSetting_19 : decode cX5_readSetting 19 = .ok (.getstatic 112, 3) := by decide +kernel
theorem dX5_readSetting_22 : decode cX5_readSetting 22 = .ok (.iload_n 1, 1) := by decide +kernel
theorem dX5_readSetting_23 : decode cX5_readSetting 23 = .ok (.iaload, 1) := by decide +kernel
theorem dX5_readSetting_24 : decode cX5_readSetting 24 = .ok (.getstatic 115, 3) := by decide +kernel
theorem dX5_readSetting_27 : decode cX5_readSetting 27 = .ok (.iload_n 1, 1) := by decide +kernel
theorem dX5_readSetting_28 : decode cX5_readSetting 28 = .ok (.iaload, 1) := by decide +kernel
theorem dX5_readSetting_29 : decode cX5_readSetting 29 = .ok (.invokevirtual 83, 3) := by decide +kernel
theorem dX5_readSetting_32 : decode cX5_readSetting 32 = .ok (.iastore, 1) := by decide +kernel
theorem dX5_readSetting_33 : decode cX5_readSetting 33 = .ok (.return_, 1) := by decide +kernel
theorem dX5_isTold_0 : decode cX5_isTold 0 = .ok (.iconst 0, 1) := by decide +kernel
theorem dX5_isTold_1 : decode cX5_isTold 1 = .ok (.istore_n 3, 1) := by decide +kernel
theorem dX5_isTold_2 : decode cX5_isTold 2 = .ok (.iload_n 3, 1) := by decide +kernel
theorem dX5_isTold_3 : decode cX5_isTold 3 = .ok (.aload_n 0, 1) := by decide +kernel
theorem dX5_isTold_4 : decode cX5_isTold 4 = .ok (.getfield 32, 3) := by decide +kernel
theorem dX5_isTold_7 : decode cX5_isTold 7 = .ok (.if_icmp .ge 43, 3) := by decide +kernel
theorem dX5_isTold_10 : decode cX5_isTold 10 = .ok (.iload_n 3, 1) := by decide +kernel
theorem dX5_isTold_11 : decode cX5_isTold 11 = .ok (.bipush 10, 2) := by decide +kernel
theorem dX5_isTold_13 : decode cX5_isTold 13 = .ok (.if_icmp .ge 37, 3) := by decide +kernel
theorem dX5_isTold_16 : decode cX5_isTold 16 = .ok (.aload_n 0, 1) := by decide +kernel
theorem dX5_isTold_17 : decode cX5_isTold 17 = .ok (.getfield 15, 3) := by decide +kernel
theorem dX5_isTold_20 : decode cX5_isTold 20 = .ok (.iconst 2, 1) := by decide +kernel
theorem dX5_isTold_21 : decode cX5_isTold 21 = .ok (.iload_n 3, 1) := by decide +kernel
theorem dX5_isTold_22 : decode cX5_isTold 22 = .ok (.imul, 1) := by decide +kernel
theorem dX5_isTold_23 : decode cX5_isTold 23 = .ok (.iaload, 1) := by decide +kernel
theorem dX5_isTold_24 : decode cX5_isTold 24 = .ok (.iload_n 1, 1) := by decide +kernel
theorem dX5_isTold_25 : decode cX5_isTold 25 = .ok (.if_icmp .ne 19, 3) := by decide +kernel
theorem dX5_isTold_28 : decode cX5_isTold 28 = .ok (.aload_n 0, 1) := by decide +kernel
theorem dX5_isTold_29 : decode cX5_isTold 29 = .ok (.getfield 15, 3) := by decide +kernel
theorem dX5_isTold_32 : decode cX5_isTold 32 = .ok (.iconst 2, 1) := by decide +kernel
theorem dX5_isTold_33 : decode cX5_isTold 33 = .ok (.iload_n 3, 1) := by decide +kernel
theorem dX5_isTold_34 : decode cX5_isTold 34 = .ok (.imul, 1) := by decide +kernel
theorem dX5_isTold_35 : decode cX5_isTold 35 = .ok (.iconst 1, 1) := by decide +kernel
theorem dX5_isTold_36 : decode cX5_isTold 36 = .ok (.iadd, 1) := by decide +kernel
theorem dX5_isTold_37 : decode cX5_isTold 37 = .ok (.iaload, 1) := by decide +kernel
theorem dX5_isTold_38 : decode cX5_isTold 38 = .ok (.iload_n 2, 1) := by decide +kernel
theorem dX5_isTold_39 : decode cX5_isTold 39 = .ok (.if_icmp .ne 5, 3) := by decide +kernel
theorem dX5_isTold_42 : decode cX5_isTold 42 = .ok (.iconst 1, 1) := by decide +kernel
theorem dX5_isTold_43 : decode cX5_isTold 43 = .ok (.ireturn, 1) := by decide +kernel
theorem dX5_isTold_44 : decode cX5_isTold 44 = .ok (.iinc 3 1, 3) := by decide +kernel
theorem dX5_isTold_47 : decode cX5_isTold 47 = .ok (.goto (-45), 3) := by decide +kernel
theorem dX5_isTold_50 : decode cX5_isTold 50 = .ok (.iconst 0, 1) := by decide +kernel
theorem dX5_isTold_51 : decode cX5_isTold 51 = .ok (.ireturn, 1) := by decide +kernel
theorem dX5_readCore_0 : decode cX5_readCore 0 = .ok (.aload_n 0, 1) := by decide +kernel
theorem dX5_readCore_1 : decode cX5_readCore 1 = .ok (.iconst 0, 1) := by decide +kernel
theorem dX5_readCore_2 : decode cX5_readCore 2 = .ok (.aload_n 0, 1) := by decide +kernel
theorem dX5_readCore_3 : decode cX5_readCore 3 = .ok (.getfield 87, 3) := by decide +kernel
theorem dX5_readCore_6 : decode cX5_readCore 6 = .ok (.iconst 2, 1) := by decide +kernel
theorem dX5_readCore_7 : decode cX5_readCore 7 = .ok (.isub, 1) := by decide +kernel
theorem dX5_readCore_8 : decode cX5_readCore 8 = .ok (.invokevirtual 83, 3) := by decide +kernel
theorem dX5_readCore_11 : decode cX5_readCore 11 = .ok (.istore_n 1, 1) := by decide +kernel
theorem dX5_readCore_12 : decode cX5_readCore 12 = .ok (.aload_n 0, 1) := by decide +kernel
theorem dX5_readCore_13 : decode cX5_readCore 13 = .ok (.iconst 0, 1) := by decide +kernel
theorem dX5_readCore_14 : decode cX5_readCore 14 = .ok (.aload_n 0, 1) := by decide +kernel
theorem dX5_readCore_15 : decode cX5_readCore 15 = .ok (.getfield 90, 3) := by decide +kernel
theorem dX5_readCore_18 : decode cX5_readCore 18 = .ok (.iconst 2, 1) := by decide +kernel
theorem dX5_readCore_19 : decode cX5_readCore 19 = .ok (.isub, 1) := by decide +kernel
theorem dX5_readCore_20 : decode cX5_readCore 20 = .ok (.invokevirtual 83, 3) := by decide +kernel
theorem dX5_readCore_23 : decode cX5_readCore 23 = .ok (.istore_n 2, 1) := by decide +kernel
theorem dX5_readCore_24 : decode cX5_readCore 24 = .ok (.aload_n 0, 1) := by decide +kernel
theorem dX5_readCore_25 : decode cX5_readCore 25 = .ok (.getfield 29, 3) := by decide +kernel
theorem dX5_readCore_28 : decode cX5_readCore 28 = .ok (.iconst (-1), 1) := by decide +kernel
theorem dX5_readCore_29 : decode cX5_readCore 29 = .ok (.if_icmp .ne 20, 3) := by decide +kernel
theorem dX5_readCore_32 : decode cX5_readCore 32 = .ok (.aload_n 0, 1) := by decide +kernel
theorem dX5_readCore_33 : decode cX5_readCore 33 = .ok (.iload_n 1, 1) := by decide +kernel
theorem dX5_readCore_34 : decode cX5_readCore 34 = .ok (.iload_n 2, 1) := by decide +kernel
theorem dX5_readCore_35 : decode cX5_readCore 35 = .ok (.invokevirtual 108, 3) := by decide +kernel
theorem dX5_readCore_38 : decode cX5_readCore 38 = .ok (.ifCond .eq 11, 3) := by decide +kernel
theorem dX5_readCore_41 : decode cX5_readCore 41 = .ok (.aload_n 0, 1) := by decide +kernel
theorem dX5_readCore_42 : decode cX5_readCore 42 = .ok (.aload_n 0, 1) := by decide +kernel
theorem dX5_readCore_43 : decode cX5_readCore 43 = .ok (.getfield 78, 3) := by decide +kernel
theorem dX5_readCore_46 : decode cX5_readCore 46 = .ok (.putfield 29, 3) := by decide +kernel
theorem dX5_readCore_49 : decode cX5_readCore 49 = .ok (.aload_n 0, 1) := by decide +kernel
theorem dX5_readCore_50 : decode cX5_readCore 50 = .ok (.bipush (-2), 2) := by decide +kernel
theorem dX5_readCore_52 : decode cX5_readCore 52 = .ok (.iconst 2, 1) := by decide +kernel
theorem dX5_readCore_53 : decode cX5_readCore 53 = .ok (.invokevirtual 83, 3) := by decide +kernel
theorem dX5_readCore_56 : decode cX5_readCore 56 = .ok (.istore_n 3, 1) := by decide +kernel
theorem dX5_readCore_57 : decode cX5_readCore 57 = .ok (.aload_n 0, 1) := by decide +kernel
theorem dX5_readCore_58 : decode cX5_readCore 58 = .ok (.bipush (-2), 2) := by decide +kernel
theorem dX5_readCore_60 : decode cX5_readCore 60 = .ok (.iconst 2, 1) := by decide +kernel
theorem dX5_readCore_61 : decode cX5_readCore 61 = .ok (.invokevirtual 83, 3) := by decide +kernel
theorem dX5_readCore_64 : decode cX5_readCore 64 = .ok (.istore 4, 2) := by decide +kernel
theorem dX5_readCore_66 : decode cX5_readCore 66 = .ok (.aload_n 0, 1) := by decide +kernel
theorem dX5_readCore_67 : decode cX5_readCore 67 = .ok (.getfield 29, 3) := by decide +kernel
theorem dX5_readCore_70 : decode cX5_readCore 70 = .ok (.iconst (-1), 1) := by decide +kernel
theorem dX5_readCore_71 : decode cX5_readCore 71 = .ok (.if_icmp .ne 20, 3) := by decide +kernel
theorem dX5_readCore_74 : decode cX5_readCore 74 = .ok (.iload_n 3, 1) := by decide +kernel
theorem dX5_readCore_75 : decode cX5_readCore 75 = .ok (.ifCond .ne 16, 3) := by decide +kernel
theorem dX5_readCore_78 : decode cX5_readCore 78 = .ok (.iload 4, 2) := by decide +kernel
theorem dX5_readCore_80 : decode cX5_readCore 80 = .ok (.ifCond .ne 11, 3) := by decide +kernel
theorem dX5_readCore_83 : decode cX5_readCore 83 = .ok (.aload_n 0, 1) := by decide +kernel
theorem dX5_readCore_84 : decode cX5_readCore 84 = .ok (.aload_n 0, 1) := by decide +kernel
theorem dX5_readCore_85 : decode cX5_readCore 85 = .ok (.getfield 78, 3) := by decide +kernel
theorem dX5_readCore_88 : decode cX5_readCore 88 = .ok (.putfield 29, 3) := by decide +kernel
theorem dX5_readCore_91 : decode cX5_readCore 91 = .ok (.aload_n 0, 1) := by decide +kernel
theorem dX5_readCore_92 : decode cX5_readCore 92 = .ok (.getfield 29, 3) := by decide +kernel
theorem dX5_readCore_95 : decode cX5_readCore 95 = .ok (.iconst (-1), 1) := by decide +kernel
theorem dX5_readCore_96 : decode cX5_readCore 96 = .ok (.if_icmp .ne 82, 3) := by decide +kernel
theorem dX5_readCore_99 : decode cX5_readCore 99 = .ok (.aload_n 0, 1) := by decide +kernel
theorem dX5_readCore_100 : decode cX5_readCore 100 = .ok (.getfield 32, 3) := by decide +kernel
theorem dX5_readCore_103 : decode cX5_readCore 103 = .ok (.ifCond .lt 75, 3) := by decide +kernel
theorem dX5_readCore_106 : decode cX5_readCore 106 = .ok (.aload_n 0, 1) := by decide +kernel
theorem dX5_readCore_107 : decode cX5_readCore 107 = .ok (.getfield 32, 3) := by decide +kernel
theorem dX5_readCore_110 : decode cX5_readCore 110 = .ok (.bipush 10, 2) := by decide +kernel
theorem dX5_readCore_112 : decode cX5_readCore 112 = .ok (.if_icmp .ge 66, 3) := by decide +kernel
theorem dX5_readCore_115 : decode cX5_readCore 115 = .ok (.aload_n 0, 1) := by decide +kernel
theorem dX5_readCore_116 : decode cX5_readCore 116 = .ok (.getfield 15, 3) := by decide +kernel
theorem dX5_readCore_119 : decode cX5_readCore 119 = .ok (.iconst 2, 1) := by decide +kernel
theorem dX5_readCore_120 : decode cX5_readCore 120 = .ok (.aload_n 0, 1) := by decide +kernel
theorem dX5_readCore_121 : decode cX5_readCore 121 = .ok (.getfield 32, 3) := by decide +kernel
theorem dX5_readCore_124 : decode cX5_readCore 124 = .ok (.imul, 1) := by decide +kernel
theorem dX5_readCore_125 : decode cX5_readCore 125 = .ok (.iload_n 1, 1) := by decide +kernel
theorem dX5_readCore_126 : decode cX5_readCore 126 = .ok (.iastore, 1) := by decide +kernel
theorem dX5_readCore_127 : decode cX5_readCore 127 = .ok (.aload_n 0, 1) := by decide +kernel
theorem dX5_readCore_128 : decode cX5_readCore 128 = .ok (.getfield 15, 3) := by decide +kernel
theorem dX5_readCore_131 : decode cX5_readCore 131 = .ok (.iconst 2, 1) := by decide +kernel
theorem dX5_readCore_132 : decode cX5_readCore 132 = .ok (.aload_n 0, 1) := by decide +kernel
theorem dX5_readCore_133 : decode cX5_readCore 133 = .ok (.getfield 32, 3) := by decide +kernel
theorem dX5_readCore_136 : decode cX5_readCore 136 = .ok (.imul, 1) := by decide +kernel
theorem dX5_readCore_137 : decode cX5_readCore 137 = .ok (.iconst 1, 1) := by decide +kernel
theorem dX5_readCore_138 : decode cX5_readCore 138 = .ok (.iadd, 1) := by decide +kernel
theorem dX5_readCore_139 : decode cX5_readCore 139 = .ok (.iload_n 2, 1) := by decide +kernel
theorem dX5_readCore_140 : decode cX5_readCore 140 = .ok (.iastore, 1) := by decide +kernel
theorem dX5_readCore_141 : decode cX5_readCore 141 = .ok (.aload_n 0, 1) := by decide +kernel
theorem dX5_readCore_142 : decode cX5_readCore 142 = .ok (.getfield 18, 3) := by decide +kernel
theorem dX5_readCore_145 : decode cX5_readCore 145 = .ok (.iconst 2, 1) := by decide +kernel
theorem dX5_readCore_146 : decode cX5_readCore 146 = .ok (.aload_n 0, 1) := by decide +kernel
theorem dX5_readCore_147 : decode cX5_readCore 147 = .ok (.getfield 32, 3) := by decide +kernel
theorem dX5_readCore_150 : decode cX5_readCore 150 = .ok (.imul, 1) := by decide +kernel
theorem dX5_readCore_151 : decode cX5_readCore 151 = .ok (.iload_n 3, 1) := by decide +kernel
theorem dX5_readCore_152 : decode cX5_readCore 152 = .ok (.iastore, 1) := by decide +kernel
theorem dX5_readCore_153 : decode cX5_readCore 153 = .ok (.aload_n 0, 1) := by decide +kernel
theorem dX5_readCore_154 : decode cX5_readCore 154 = .ok (.getfield 18, 3) := by decide +kernel
theorem dX5_readCore_157 : decode cX5_readCore 157 = .ok (.iconst 2, 1) := by decide +kernel
theorem dX5_readCore_158 : decode cX5_readCore 158 = .ok (.aload_n 0, 1) := by decide +kernel
theorem dX5_readCore_159 : decode cX5_readCore 159 = .ok (.getfield 32, 3) := by decide +kernel
theorem dX5_readCore_162 : decode cX5_readCore 162 = .ok (.imul, 1) := by decide +kernel
theorem dX5_readCore_163 : decode cX5_readCore 163 = .ok (.iconst 1, 1) := by decide +kernel
theorem dX5_readCore_164 : decode cX5_readCore 164 = .ok (.iadd, 1) := by decide +kernel
theorem dX5_readCore_165 : decode cX5_readCore 165 = .ok (.iload 4, 2) := by decide +kernel
theorem dX5_readCore_167 : decode cX5_readCore 167 = .ok (.iastore, 1) := by decide +kernel
theorem dX5_readCore_168 : decode cX5_readCore 168 = .ok (.aload_n 0, 1) := by decide +kernel
theorem dX5_readCore_169 : decode cX5_readCore 169 = .ok (.dup, 1) := by decide +kernel
theorem dX5_readCore_170 : decode cX5_readCore 170 = .ok (.getfield 32, 3) := by decide +kernel
theorem dX5_readCore_173 : decode cX5_readCore 173 = .ok (.iconst 1, 1) := by decide +kernel
theorem dX5_readCore_174 : decode cX5_readCore 174 = .ok (.iadd, 1) := by decide +kernel
theorem dX5_readCore_175 : decode cX5_readCore 175 = .ok (.putfield 32, 3) := by decide +kernel
theorem dX5_readCore_178 : decode cX5_readCore 178 = .ok (.return_, 1) := by decide +kernel
theorem dX5_readPiece_0 : decode cX5_readPiece 0 = .ok (.aload_n 0, 1) := by decide +kernel
theorem dX5_readPiece_1 : decode cX5_readPiece 1 = .ok (.getfield 29, 3) := by decide +kernel
theorem dX5_readPiece_4 : decode cX5_readPiece 4 = .ok (.iconst (-1), 1) := by decide +kernel
theorem dX5_readPiece_5 : decode cX5_readPiece 5 = .ok (.if_icmp .eq 4, 3) := by decide +kernel
theorem dX5_readPiece_8 : decode cX5_readPiece 8 = .ok (.return_, 1) := by decide +kernel
theorem dX5_readPiece_9 : decode cX5_readPiece 9 = .ok (.aload_n 0, 1) := by decide +kernel
theorem dX5_readPiece_10 : decode cX5_readPiece 10 = .ok (.invokevirtual 69, 3) := by decide +kernel
theorem dX5_readPiece_13 : decode cX5_readPiece 13 = .ok (.aload_n 0, 1) := by decide +kernel
theorem dX5_readPiece_14 : decode cX5_readPiece 14 = .ok (.ldc 93, 2) := by decide +kernel
theorem dX5_readPiece_16 : decode cX5_readPiece 16 = .ok (.invokevirtual 74, 3) := by decide +kernel
theorem dX5_readPiece_19 : decode cX5_readPiece 19 = .ok (.ifCond .eq 19, 3) := by decide +kernel
theorem dX5_readPiece_22 : decode cX5_readPiece 22 = .ok (.aload_n 0, 1) := by decide +kernel
theorem dX5_readPiece_23 : decode cX5_readPiece 23 = .ok (.getfield 32, 3) := by decide +kernel
theorem dX5_readPiece_26 : decode cX5_readPiece 26 = .ok (.bipush 10, 2) := by decide +kernel
theorem dX5_readPiece_28 : decode cX5_readPiece 28 = .ok (.if_icmp .ge 10, 3) := by decide +kernel
theorem dX5_readPiece_31 : decode cX5_readPiece 31 = .ok (.aload_n 0, 1) := by decide +kernel
theorem dX5_readPiece_32 : decode cX5_readPiece 32 = .ok (.invokevirtual 95, 3) := by decide +kernel
theorem dX5_readPiece_35 : decode cX5_readPiece 35 = .ok (.goto 103, 3) := by decide +kernel
theorem dX5_readPiece_38 : decode cX5_readPiece 38 = .ok (.aload_n 0, 1) := by decide +kernel
theorem dX5_readPiece_39 : decode cX5_readPiece 39 = .ok (.ldc 98, 2) := by decide +kernel
theorem dX5_readPiece_41 : decode cX5_readPiece 41 = .ok (.invokevirtual 74, 3) := by decide +kernel
theorem dX5_readPiece_44 : decode cX5_readPiece 44 = .ok (.ifCond .eq 28, 3) := by decide +kernel
theorem dX5_readPiece_47 : decode cX5_readPiece 47 = .ok (.aload_n 0, 1) := by decide +kernel
theorem dX5_readPiece_48 : decode cX5_readPiece 48 = .ok (.getfield 35, 3) := by decide +kernel
theorem dX5_readPiece_51 : decode cX5_readPiece 51 = .ok (.ifCond .ne 21, 3) := by decide +kernel
theorem dX5_readPiece_54 : decode cX5_readPiece 54 = .ok (.aload_n 0, 1) := by decide +kernel
theorem dX5_readPiece_55 : decode cX5_readPiece 55 = .ok (.iconst 1, 1) := by decide +kernel
theorem dX5_readPiece_56 : decode cX5_readPiece 56 = .ok (.putfield 35, 3) := by decide +kernel
theorem dX5_readPiece_59 : decode cX5_readPiece 59 = .ok (.aload_n 0, 1) := by decide +kernel
theorem dX5_readPiece_60 : decode cX5_readPiece 60 = .ok (.iconst 0, 1) := by decide +kernel
theorem dX5_readPiece_61 : decode cX5_readPiece 61 = .ok (.invokevirtual 100, 3) := by decide +kernel
theorem dX5_readPiece_64 : decode cX5_readPiece 64 = .ok (.aload_n 0, 1) := by decide +kernel
theorem dX5_readPiece_65 : decode cX5_readPiece 65 = .ok (.iconst 1, 1) := by decide +kernel
theorem dX5_readPiece_66 : decode cX5_readPiece 66 = .ok (.invokevirtual 100, 3) := by decide +kernel
theorem dX5_readPiece_69 : decode cX5_readPiece 69 = .ok (.goto 69, 3) := by decide +kernel
theorem dX5_readPiece_72 : decode cX5_readPiece 72 = .ok (.aload_n 0, 1) := by decide +kernel
theorem dX5_readPiece_73 : decode cX5_readPiece 73 = .ok (.ldc 104, 2) := by decide +kernel
theorem dX5_readPiece_75 : decode cX5_readPiece 75 = .ok (.invokevirtual 74, 3) := by decide +kernel
theorem dX5_readPiece_78 : decode cX5_readPiece 78 = .ok (.ifCond .eq 23, 3) := by decide +kernel
theorem dX5_readPiece_81 : decode cX5_readPiece 81 = .ok (.aload_n 0, 1) := by decide +kernel
theorem dX5_readPiece_82 : decode cX5_readPiece 82 = .ok (.getfield 39, 3) := by decide +kernel
theorem dX5_readPiece_85 : decode cX5_readPiece 85 = .ok (.ifCond .ne 16, 3) := by decide +kernel
theorem dX5_readPiece_88 : decode cX5_readPiece 88 = .ok (.aload_n 0, 1) := by decide +kernel
theorem dX5_readPiece_89 : decode cX5_readPiece 89 = .ok (.iconst 1, 1) := by decide +kernel
theorem dX5_readPiece_90 : decode cX5_readPiece 90 = .ok (.putfield 39, 3) := by decide +kernel
theorem dX5_readPiece_93 : decode cX5_readPiece 93 = .ok (.aload_n 0, 1) := by decide +kernel
theorem dX5_readPiece_94 : decode cX5_readPiece 94 = .ok (.iconst 2, 1) := by decide +kernel
theorem dX5_readPiece_95 : decode cX5_readPiece 95 = .ok (.invokevirtual 100, 3) := by decide +kernel
theorem dX5_readPiece_98 : decode cX5_readPiece 98 = .ok (.goto 40, 3) := by decide +kernel
theorem dX5_readPiece_101 : decode cX5_readPiece 101 = .ok (.aload_n 0, 1) := by decide +kernel
theorem dX5_readPiece_102 : decode cX5_readPiece 102 = .ok (.ldc 106, 2) := by decide +kernel
theorem dX5_readPiece_104 : decode cX5_readPiece 104 = .ok (.invokevirtual 74, 3) := by decide +kernel
theorem dX5_readPiece_107 : decode cX5_readPiece 107 = .ok (.ifCond .eq 23, 3) := by decide +kernel
theorem dX5_readPiece_110 : decode cX5_readPiece 110 = .ok (.aload_n 0, 1) := by decide +kernel
theorem dX5_readPiece_111 : decode cX5_readPiece 111 = .ok (.getfield 42, 3) := by decide +kernel
theorem dX5_readPiece_114 : decode cX5_readPiece 114 = .ok (.ifCond .ne 16, 3) := by decide +kernel
theorem dX5_readPiece_117 : decode cX5_readPiece 117 = .ok (.aload_n 0, 1) := by decide +kernel
theorem dX5_readPiece_118 : decode cX5_readPiece 118 = .ok (.iconst 1, 1) := by decide +kernel
theorem dX5_readPiece_119 : decode cX5_readPiece 119 = .ok (.putfield 42, 3) := by decide +kernel
theorem dX5_readPiece_122 : decode cX5_readPiece 122 = .ok (.aload_n 0, 1) := by decide +kernel
theorem dX5_readPiece_123 : decode cX5_readPiece 123 = .ok (.iconst 3, 1) := by decide +kernel
theorem dX5_readPiece_124 : decode cX5_readPiece 124 = .ok (.invokevirtual 100, 3) := by decide +kernel
theorem dX5_readPiece_127 : decode cX5_readPiece 127 = .ok (.goto 11, 3) := by decide +kernel
theorem dX5_readPiece_130 : decode cX5_readPiece 130 = .ok (.aload_n 0, 1) := by decide +kernel
theorem dX5_readPiece_131 : decode cX5_readPiece 131 = .ok (.aload_n 0, 1) := by decide +kernel
theorem dX5_readPiece_132 : decode cX5_readPiece 132 = .ok (.getfield 78, 3) := by decide +kernel
theorem dX5_readPiece_135 : decode cX5_readPiece 135 = .ok (.putfield 29, 3) := by decide +kernel
theorem dX5_readPiece_138 : decode cX5_readPiece 138 = .ok (.return_, 1) := by decide +kernel
theorem dX5_read_0 : decode cX5_read 0 = .ok (.aload_n 0, 1) := by decide +kernel
theorem dX5_read_1 : decode cX5_read 1 = .ok (.iconst 0, 1) := by decide +kernel
theorem dX5_read_2 : decode cX5_read 2 = .ok (.putfield 25, 3) := by decide +kernel
theorem dX5_read_5 : decode cX5_read 5 = .ok (.aload_n 0, 1) := by decide +kernel
theorem dX5_read_6 : decode cX5_read 6 = .ok (.iconst (-1), 1) := by decide +kernel
theorem dX5_read_7 : decode cX5_read 7 = .ok (.putfield 29, 3) := by decide +kernel
theorem dX5_read_10 : decode cX5_read 10 = .ok (.aload_n 0, 1) := by decide +kernel
theorem dX5_read_11 : decode cX5_read 11 = .ok (.iconst 0, 1) := by decide +kernel
theorem dX5_read_12 : decode cX5_read 12 = .ok (.putfield 32, 3) := by decide +kernel
theorem dX5_read_15 : decode cX5_read 15 = .ok (.aload_n 0, 1) := by decide +kernel
theorem dX5_read_16 : decode cX5_read 16 = .ok (.iconst 0, 1) := by decide +kernel
theorem dX5_read_17 : decode cX5_read 17 = .ok (.putfield 35, 3) := by decide +kernel
theorem dX5_read_20 : decode cX5_read 20 = .ok (.aload_n 0, 1) := by decide +kernel
theorem dX5_read_21 : decode cX5_read 21 = .ok (.iconst 0, 1) := by decide +kernel
theorem dX5_read_22 : decode cX5_read 22 = .ok (.putfield 39, 3) := by decide +kernel
theorem dX5_read_25 : decode cX5_read 25 = .ok (.aload_n 0, 1) := by decide +kernel
theorem dX5_read_26 : decode cX5_read 26 = .ok (.iconst 0, 1) := by decide +kernel
theorem dX5_read_27 : decode cX5_read 27 = .ok (.putfield 42, 3) := by decide +kernel
theorem dX5_read_30 : decode cX5_read 30 = .ok (.getstatic 45, 3) := by decide +kernel
theorem dX5_read_33 : decode cX5_read 33 = .ok (.iconst 0, 1) := by decide +kernel
theorem dX5_read_34 : decode cX5_read 34 = .ok (.aload_n 0, 1) := by decide +kernel
theorem dX5_read_35 : decode cX5_read 35 = .ok (.getfield 9, 3) := by decide +kernel
theorem dX5_read_38 : decode cX5_read 38 = .ok (.iconst 0, 1) := by decide +kernel
theorem dX5_read_39 : decode cX5_read 39 = .ok (.aload_n 0, 1) := by decide +kernel
theorem dX5_read_40 : decode cX5_read 40 = .ok (.getfield 9, 3) := by decide +kernel
theorem dX5_read_43 : decode cX5_read 43 = .ok (.arraylength, 1) := by decide +kernel
theorem dX5_read_44 : decode cX5_read 44 = .ok (.invokestatic 48, 3) := by decide +kernel
theorem dX5_read_47 : decode cX5_read 47 = .ok (.aload_n 0, 1) := by decide +kernel
theorem dX5_read_48 : decode cX5_read 48 = .ok (.invokevirtual 54, 3) := by decide +kernel
theorem dX5_read_51 : decode cX5_read 51 = .ok (.iconst 0, 1) := by decide +kernel
theorem dX5_read_52 : decode cX5_read 52 = .ok (.istore_n 1, 1) := by decide +kernel
theorem dX5_read_53 : decode cX5_read 53 = .ok (.iload_n 1, 1) := by decide +kernel
theorem dX5_read_54 : decode cX5_read 54 = .ok (.sipush 300, 3) := by decide +kernel
theorem dX5_read_57 : decode cX5_read 57 = .ok (.if_icmp .ge 32, 3) := by decide +kernel
theorem dX5_read_60 : decode cX5_read 60 = .ok (.aload_n 0, 1) := by decide +kernel
theorem dX5_read_61 : decode cX5_read 61 = .ok (.getfield 29, 3) := by decide +kernel
theorem dX5_read_64 : decode cX5_read 64 = .ok (.iconst (-1), 1) := by decide +kernel
theorem dX5_read_65 : decode cX5_read 65 = .ok (.if_icmp .ne 24, 3) := by decide +kernel
theorem dX5_read_68 : decode cX5_read 68 = .ok (.aload_n 0, 1) := by decide +kernel
theorem dX5_read_69 : decode cX5_read 69 = .ok (.invokevirtual 59, 3) := by decide +kernel
theorem dX5_read_72 : decode cX5_read 72 = .ok (.ifCond .eq 17, 3) := by decide +kernel
theorem dX5_read_75 : decode cX5_read 75 = .ok (.aload_n 0, 1) := by decide +kernel
theorem dX5_read_76 : decode cX5_read 76 = .ok (.invokevirtual 63, 3) := by decide +kernel
theorem dX5_read_79 : decode cX5_read 79 = .ok (.aload_n 0, 1) := by decide +kernel
theorem dX5_read_80 : decode cX5_read 80 = .ok (.invokevirtual 66, 3) := by decide +kernel
theorem dX5_read_83 : decode cX5_read 83 = .ok (.iinc 1 1, 3) := by decide +kernel
theorem dX5_read_86 : decode cX5_read 86 = .ok (.goto (-33), 3) := by decide +kernel
theorem dX5_read_89 : decode cX5_read 89 = .ok (.aload_n 0, 1) := by decide +kernel
theorem dX5_read_90 : decode cX5_read 90 = .ok (.getfield 29, 3) := by decide +kernel
theorem dX5_read_93 : decode cX5_read 93 = .ok (.ireturn, 1) := by decide +kernel
theorem dX11_fault_0 : decode cX11_fault 0 = .ok (.aload_n 0, 1) := by decide +kernel
theorem dX11_fault_1 : decode cX11_fault 1 = .ok (.getfield 21, 3) := by decide +kernel
theorem dX11_fault_4 : decode cX11_fault 4 = .ok (.invokevirtual 99, 3) := by decide +kernel
theorem dX11_fault_7 : decode cX11_fault 7 = .ok (.ireturn, 1) := by decide +kernel
theorem dX9_bytesOf_0 : decode cX9_bytesOf 0 = .ok (.iconst 0, 1) := by decide +kernel
theorem dX9_bytesOf_1 : decode cX9_bytesOf 1 = .ok (.istore_n 1, 1) := by decide +kernel
theorem dX9_bytesOf_2 : decode cX9_bytesOf 2 = .ok (.bipush 24, 2) := by decide +kernel
theorem dX9_bytesOf_4 : decode cX9_bytesOf 4 = .ok (.istore_n 2, 1) := by decide +kernel
theorem dX9_bytesOf_5 : decode cX9_bytesOf 5 = .ok (.iload_n 2, 1) := by decide +kernel
theorem dX9_bytesOf_6 : decode cX9_bytesOf 6 = .ok (.ifCond .lt 22, 3) := by decide +kernel
theorem dX9_bytesOf_9 : decode cX9_bytesOf 9 = .ok (.iload_n 0, 1) := by decide +kernel
theorem dX9_bytesOf_10 : decode cX9_bytesOf 10 = .ok (.iload_n 2, 1) := by decide +kernel
theorem dX9_bytesOf_11 : decode cX9_bytesOf 11 = .ok (.iushr, 1) := by decide +kernel
theorem dX9_bytesOf_12 : decode cX9_bytesOf 12 = .ok (.sipush 255, 3) := by decide +kernel
theorem dX9_bytesOf_15 : decode cX9_bytesOf 15 = .ok (.iand, 1) := by decide +kernel
theorem dX9_bytesOf_16 : decode cX9_bytesOf 16 = .ok (.ifCond .eq 6, 3) := by decide +kernel
theorem dX9_bytesOf_19 : decode cX9_bytesOf 19 = .ok (.iinc 1 1, 3) := by decide +kernel
theorem dX9_bytesOf_22 : decode cX9_bytesOf 22 = .ok (.iinc 2 (-8), 3) := by decide +kernel
theorem dX9_bytesOf_25 : decode cX9_bytesOf 25 = .ok (.goto (-20), 3) := by decide +kernel
theorem dX9_bytesOf_28 : decode cX9_bytesOf 28 = .ok (.iload_n 1, 1) := by decide +kernel
theorem dX9_bytesOf_29 : decode cX9_bytesOf 29 = .ok (.ireturn, 1) := by decide +kernel
theorem dX9_put_0 : decode cX9_put 0 = .ok (.bipush 24, 2) := by decide +kernel
theorem dX9_put_2 : decode cX9_put 2 = .ok (.istore_n 2, 1) := by decide +kernel
theorem dX9_put_3 : decode cX9_put 3 = .ok (.iload_n 2, 1) := by decide +kernel
theorem dX9_put_4 : decode cX9_put 4 = .ok (.ifCond .lt 58, 3) := by decide +kernel
theorem dX9_put_7 : decode cX9_put 7 = .ok (.iload_n 1, 1) := by decide +kernel
theorem dX9_put_8 : decode cX9_put 8 = .ok (.iload_n 2, 1) := by decide +kernel
theorem dX9_put_9 : decode cX9_put 9 = .ok (.iushr, 1) := by decide +kernel
theorem dX9_put_10 : decode cX9_put 10 = .ok (.sipush 255, 3) := by decide +kernel
theorem dX9_put_13 : decode cX9_put 13 = .ok (.iand, 1) := by decide +kernel
theorem dX9_put_14 : decode cX9_put 14 = .ok (.istore_n 3, 1) := by decide +kernel
theorem dX9_put_15 : decode cX9_put 15 = .ok (.iload_n 3, 1) := by decide +kernel
theorem dX9_put_16 : decode cX9_put 16 = .ok (.ifCond .eq 40, 3) := by decide +kernel
theorem dX9_put_19 : decode cX9_put 19 = .ok (.aload_n 0, 1) := by decide +kernel
theorem dX9_put_20 : decode cX9_put 20 = .ok (.getfield 13, 3) := by decide +kernel
theorem dX9_put_23 : decode cX9_put 23 = .ok (.ifCond .lt 33, 3) := by decide +kernel
theorem dX9_put_26 : decode cX9_put 26 = .ok (.aload_n 0, 1) := by decide +kernel
theorem dX9_put_27 : decode cX9_put 27 = .ok (.getfield 13, 3) := by decide +kernel
theorem dX9_put_30 : decode cX9_put 30 = .ok (.sipush 300, 3) := by decide +kernel
theorem dX9_put_33 : decode cX9_put 33 = .ok (.if_icmp .ge 23, 3) := by decide +kernel
theorem dX9_put_36 : decode cX9_put 36 = .ok (.aload_n 0, 1) := by decide +kernel
theorem dX9_put_37 : decode cX9_put 37 = .ok (.getfield 9, 3) := by decide +kernel
theorem dX9_put_40 : decode cX9_put 40 = .ok (.aload_n 0, 1) := by decide +kernel
theorem dX9_put_41 : decode cX9_put 41 = .ok (.getfield 13, 3) := by decide +kernel
theorem dX9_put_44 : decode cX9_put 44 = .ok (.iload_n 3, 1) := by decide +kernel
theorem dX9_put_45 : decode cX9_put 45 = .ok (.iastore, 1) := by decide +kernel
theorem dX9_put_46 : decode cX9_put 46 = .ok (.aload_n 0, 1) := by decide +kernel
theorem dX9_put_47 : decode cX9_put 47 = .ok (.dup, 1) := by decide +kernel
theorem dX9_put_48 : decode cX9_put 48 = .ok (.getfield 13, 3) := by decide +kernel
theorem dX9_put_51 : decode cX9_put 51 = .ok (.iconst 1, 1) := by decide +kernel
theorem dX9_put_52 : decode cX9_put 52 = .ok (.iadd, 1) := by decide +kernel
theorem dX9_put_53 : decode cX9_put 53 = .ok (.putfield 13, 3) := by decide +kernel
theorem dX9_put_56 : decode cX9_put 56 = .ok (.iinc 2 (-8), 3) := by decide +kernel
theorem dX9_put_59 : decode cX9_put 59 = .ok (.goto (-56), 3) := by decide +kernel
theorem dX9_put_62 : decode cX9_put 62 = .ok (.return_, 1) := by decide +kernel
theorem dX11_feed_0 : decode cX11_feed 0 = .ok (.iload_n 1, 1) := by decide +kernel
theorem dX11_feed_1 : decode cX11_feed 1 = .ok (.invokestatic 87, 3) := by decide +kernel
theorem dX11_feed_4 : decode cX11_feed 4 = .ok (.iload_n 2, 1) := by decide +kernel
theorem dX11_feed_5 : decode cX11_feed 5 = .ok (.invokestatic 87, 3) := by decide +kernel
theorem dX11_feed_8 : decode cX11_feed 8 = .ok (.iadd, 1) := by decide +kernel
theorem dX11_feed_9 : decode cX11_feed 9 = .ok (.iload_n 3, 1) := by decide +kernel
theorem dX11_feed_10 : decode cX11_feed 10 = .ok (.invokestatic 87, 3) := by decide +kernel
theorem dX11_feed_13 : decode cX11_feed 13 = .ok (.iadd, 1) := by decide +kernel
theorem dX11_feed_14 : decode cX11_feed 14 = .ok (.iload 4, 2) := by decide +kernel
theorem dX11_feed_16 : decode cX11_feed 16 = .ok (.invokestatic 87, 3) := by decide +kernel
theorem dX11_feed_19 : decode cX11_feed 19 = .ok (.iadd, 1) := by decide +kernel
theorem dX11_feed_20 : decode cX11_feed 20 = .ok (.iload 5, 2) := by decide +kernel
theorem dX11_feed_22 : decode cX11_feed 22 = .ok (.invokestatic 87, 3) := by decide +kernel
theorem dX11_feed_25 : decode cX11_feed 25 = .ok (.iadd, 1) := by decide +kernel
theorem dX11_feed_26 : decode cX11_feed 26 = .ok (.istore 6, 2) := by decide +kernel
theorem dX11_feed_28 : decode cX11_feed 28 = .ok (.aload_n 0, 1) := by decide +kernel
theorem dX11_feed_29 : decode cX11_feed 29 = .ok (.getfield 10, 3) := by decide +kernel
theorem dX11_feed_32 : decode cX11_feed 32 = .ok (.getfield 91, 3) := by decide +kernel
theorem dX11_feed_35 : decode cX11_feed 35 = .ok (.iload 6, 2) := by decide +kernel
theorem dX11_feed_37 : decode cX11_feed 37 = .ok (.iadd, 1) := by decide +kernel
theorem dX11_feed_38 : decode cX11_feed 38 = .ok (.sipush 300, 3) := by decide +kernel
theorem dX11_feed_41 : decode cX11_feed 41 = .ok (.if_icmp .le 5, 3) := by decide +kernel
theorem dX11_feed_44 : decode cX11_feed 44 = .ok (.iconst (-1), 1) := by decide +kernel
theorem dX11_feed_45 : decode cX11_feed 45 = .ok (.ireturn, 1) := by decide +kernel
theorem dX11_feed_46 : decode cX11_feed 46 = .ok (.aload_n 0, 1) := by decide +kernel
theorem dX11_feed_47 : decode cX11_feed 47 = .ok (.getfield 10, 3) := by decide +kernel
theorem dX11_feed_50 : decode cX11_feed 50 = .ok (.iload_n 1, 1) := by decide +kernel
theorem dX11_feed_51 : decode cX11_feed 51 = .ok (.invokevirtual 95, 3) := by decide +kernel
theorem dX11_feed_54 : decode cX11_feed 54 = .ok (.aload_n 0, 1) := by decide +kernel
theorem dX11_feed_55 : decode cX11_feed 55 = .ok (.getfield 10, 3) := by decide +kernel
theorem dX11_feed_58 : decode cX11_feed 58 = .ok (.iload_n 2, 1) := by decide +kernel
theorem dX11_feed_59 : decode cX11_feed 59 = .ok (.invokevirtual 95, 3) := by decide +kernel
theorem dX11_feed_62 : decode cX11_feed 62 = .ok (.aload_n 0, 1) := by decide +kernel
theorem dX11_feed_63 : decode cX11_feed 63 = .ok (.getfield 10, 3) := by decide +kernel
theorem dX11_feed_66 : decode cX11_feed 66 = .ok (.iload_n 3, 1) := by decide +kernel
theorem dX11_feed_67 : decode cX11_feed 67 = .ok (.invokevirtual 95, 3) := by decide +kernel
theorem dX11_feed_70 : decode cX11_feed 70 = .ok (.aload_n 0, 1) := by decide +kernel
theorem dX11_feed_71 : decode cX11_feed 71 = .ok (.getfield 10, 3) := by decide +kernel
theorem dX11_feed_74 : decode cX11_feed 74 = .ok (.iload 4, 2) := by decide +kernel
theorem dX11_feed_76 : decode cX11_feed 76 = .ok (.invokevirtual 95, 3) := by decide +kernel
theorem dX11_feed_79 : decode cX11_feed 79 = .ok (.aload_n 0, 1) := by decide +kernel
theorem dX11_feed_80 : decode cX11_feed 80 = .ok (.getfield 10, 3) := by decide +kernel
theorem dX11_feed_83 : decode cX11_feed 83 = .ok (.iload 5, 2) := by decide +kernel
theorem dX11_feed_85 : decode cX11_feed 85 = .ok (.invokevirtual 95, 3) := by decide +kernel
theorem dX11_feed_88 : decode cX11_feed 88 = .ok (.aload_n 0, 1) := by decide +kernel
theorem dX11_feed_89 : decode cX11_feed 89 = .ok (.getfield 10, 3) := by decide +kernel
theorem dX11_feed_92 : decode cX11_feed 92 = .ok (.getfield 91, 3) := by decide +kernel
theorem dX11_feed_95 : decode cX11_feed 95 = .ok (.ireturn, 1) := by decide +kernel
theorem dX11_refuse_0 : decode cX11_refuse 0 = .ok (.iload_n 1, 1) := by decide +kernel
theorem dX11_refuse_1 : decode cX11_refuse 1 = .ok (.ifCond .lt 22, 3) := by decide +kernel
theorem dX11_refuse_4 : decode cX11_refuse 4 = .ok (.iload_n 1, 1) := by decide +kernel
theorem dX11_refuse_5 : decode cX11_refuse 5 = .ok (.aload_n 0, 1) := by decide +kernel
theorem dX11_refuse_6 : decode cX11_refuse 6 = .ok (.getfield 63, 3) := by decide +kernel
theorem dX11_refuse_9 : decode cX11_refuse 9 = .ok (.arraylength, 1) := by decide +kernel
theorem dX11_refuse_10 : decode cX11_refuse 10 = .ok (.if_icmp .ge 13, 3) := by decide +kernel
theorem dX11_refuse_13 : decode cX11_refuse 13 = .ok (.aload_n 0, 1) := by decide +kernel
theorem dX11_refuse_14 : decode cX11_refuse 14 = .ok (.getfield 63, 3) := by decide +kernel
theorem dX11_refuse_17 : decode cX11_refuse 17 = .ok (.iload_n 1, 1) := by decide +kernel
theorem dX11_refuse_18 : decode cX11_refuse 18 = .ok (.dup2, 1) := by decide +kernel
theorem dX11_refuse_19 : decode cX11_refuse 19 = .ok (.iaload, 1) := by decide +kernel
theorem dX11_refuse_20 : decode cX11_refuse 20 = .ok (.iconst 1, 1) := by decide +kernel
theorem dX11_refuse_21 : decode cX11_refuse 21 = .ok (.iadd, 1) := by decide +kernel
theorem dX11_refuse_22 : decode cX11_refuse 22 = .ok (.iastore, 1) := by decide +kernel
theorem dX11_refuse_23 : decode cX11_refuse 23 = .ok (.iconst (-1), 1) := by decide +kernel
theorem dX11_refuse_24 : decode cX11_refuse 24 = .ok (.ireturn, 1) := by decide +kernel
theorem dX11_gone_0 : decode cX11_gone 0 = .ok (.aload_n 0, 1) := by decide +kernel
theorem dX11_gone_1 : decode cX11_gone 1 = .ok (.getfield 124, 3) := by decide +kernel
theorem dX11_gone_4 : decode cX11_gone 4 = .ok (.ifCond .eq 25, 3) := by decide +kernel
theorem dX11_gone_7 : decode cX11_gone 7 = .ok (.iload_n 1, 1) := by decide +kernel
theorem dX11_gone_8 : decode cX11_gone 8 = .ok (.ifCond .lt 21, 3) := by decide +kernel
theorem dX11_gone_11 : decode cX11_gone 11 = .ok (.iload_n 1, 1) := by decide +kernel
theorem dX11_gone_12 : decode cX11_gone 12 = .ok (.aload_n 0, 1) := by decide +kernel
theorem dX11_gone_13 : decode cX11_gone 13 = .ok (.getfield 60, 3) := by decide +kernel
theorem dX11_gone_16 : decode cX11_gone 16 = .ok (.arraylength, 1) := by decide +kernel
theorem dX11_gone_17 : decode cX11_gone 17 = .ok (.if_icmp .ge 12, 3) := by decide +kernel
theorem dX11_gone_20 : decode cX11_gone 20 = .ok (.aload_n 0, 1) := by decide +kernel
theorem dX11_gone_21 : decode cX11_gone 21 = .ok (.getfield 60, 3) := by decide +kernel
theorem dX11_gone_24 : decode cX11_gone 24 = .ok (.iload_n 1, 1) := by decide +kernel
theorem dX11_gone_25 : decode cX11_gone 25 = .ok (.iaload, 1) := by decide +kernel
theorem dX11_gone_26 : decode cX11_gone 26 = .ok (.goto 5, 3) := by decide +kernel
theorem dX11_gone_29 : decode cX11_gone 29 = .ok (.ldc 140, 2) := by decide +kernel
theorem dX11_gone_31 : decode cX11_gone 31 = .ok (.ireturn, 1) := by decide +kernel
theorem dX2_begin_0 : decode cX2_begin 0 = .ok (.aload_n 0, 1) := by decide +kernel
theorem dX2_begin_1 : decode cX2_begin 1 = .ok (.iconst 0, 1) := by decide +kernel
theorem dX2_begin_2 : decode cX2_begin 2 = .ok (.putfield 28, 3) := by decide +kernel
theorem dX2_begin_5 : decode cX2_begin 5 = .ok (.aload_n 0, 1) := by decide +kernel
theorem dX2_begin_6 : decode cX2_begin 6 = .ok (.iconst 0, 1) := by decide +kernel
theorem dX2_begin_7 : decode cX2_begin 7 = .ok (.putfield 31, 3) := by decide +kernel
theorem dX2_begin_10 : decode cX2_begin 10 = .ok (.aload_n 0, 1) := by decide +kernel
theorem dX2_begin_11 : decode cX2_begin 11 = .ok (.aload_n 1, 1) := by decide +kernel
theorem dX2_begin_12 : decode cX2_begin 12 = .ok (.getfield 34, 3) := by decide +kernel
theorem dX2_begin_15 : decode cX2_begin 15 = .ok (.iconst 1, 1) := by decide +kernel
theorem dX2_begin_16 : decode cX2_begin 16 = .ok (.isub, 1) := by decide +kernel
theorem dX2_begin_17 : decode cX2_begin 17 = .ok (.putfield 13, 3) := by decide +kernel
theorem dX2_begin_20 : decode cX2_begin 20 = .ok (.aload_n 0, 1) := by decide +kernel
theorem dX2_begin_21 : decode cX2_begin 21 = .ok (.aload_n 1, 1) := by decide +kernel
theorem dX2_begin_22 : decode cX2_begin 22 = .ok (.getfield 39, 3) := by decide +kernel
theorem dX2_begin_25 : decode cX2_begin 25 = .ok (.iconst 1, 1) := by decide +kernel
theorem dX2_begin_26 : decode cX2_begin 26 = .ok (.isub, 1) := by decide +kernel
theorem dX2_begin_27 : decode cX2_begin 27 = .ok (.putfield 17, 3) := by decide +kernel
theorem dX2_begin_30 : decode cX2_begin 30 = .ok (.return_, 1) := by decide +kernel
theorem dX2_isPlain_0 : decode cX2_isPlain 0 = .ok (.aload_n 1, 1) := by decide +kernel
theorem dX2_isPlain_1 : decode cX2_isPlain 1 = .ok (.aload_n 0, 1) := by decide +kernel
theorem dX2_isPlain_2 : decode cX2_isPlain 2 = .ok (.getfield 28, 3) := by decide +kernel
theorem dX2_isPlain_5 : decode cX2_isPlain 5 = .ok (.aload_n 0, 1) := by decide +kernel
theorem dX2_isPlain_6 : decode cX2_isPlain 6 = .ok (.getfield 31, 3) := by decide +kernel
theorem dX2_isPlain_9 : decode cX2_isPlain 9 = .ok (.iload_n 2, 1) := by decide +kernel
theorem dX2_isPlain_10 : decode cX2_isPlain 10 = .ok (.iload_n 3, 1) := by decide +kernel
theorem dX2_isPlain_11 : decode cX2_isPlain 11 = .ok (.iconst 0, 1) := by decide +kernel
theorem dX2_isPlain_12 : decode cX2_isPlain 12 = .ok (.invokevirtual 42, 3) := by decide +kernel
theorem dX2_isPlain_15 : decode cX2_isPlain 15 = .ok (.ifCond .ne 25, 3) := by decide +kernel
theorem dX2_isPlain_18 : decode cX2_isPlain 18 = .ok (.aload_n 1, 1) := by decide +kernel
theorem dX2_isPlain_19 : decode cX2_isPlain 19 = .ok (.aload_n 0, 1) := by decide +kernel
theorem dX2_isPlain_20 : decode cX2_isPlain 20 = .ok (.getfield 28, 3) := by decide +kernel
theorem dX2_isPlain_23 : decode cX2_isPlain 23 = .ok (.aload_n 0, 1) := by decide +kernel
theorem dX2_isPlain_24 : decode cX2_isPlain 24 = .ok (.getfield 31, 3) := by decide +kernel
theorem dX2_isPlain_27 : decode cX2_isPlain 27 = .ok (.iload_n 2, 1) := by decide +kernel
theorem dX2_isPlain_28 : decode cX2_isPlain 28 = .ok (.iload_n 3, 1) := by decide +kernel
theorem dX2_isPlain_29 : decode cX2_isPlain 29 = .ok (.iconst 1, 1) := by decide +kernel
theorem dX2_isPlain_30 : decode cX2_isPlain 30 = .ok (.invokevirtual 42, 3) := by decide +kernel
theorem dX2_isPlain_33 : decode cX2_isPlain 33 = .ok (.ifCond .ne 7, 3) := by decide +kernel
theorem dX2_isPlain_36 : decode cX2_isPlain 36 = .ok (.iconst 1, 1) := by decide +kernel
theorem dX2_isPlain_37 : decode cX2_isPlain 37 = .ok (.goto 4, 3) := by decide +kernel
theorem dX2_isPlain_40 : decode cX2_isPlain 40 = .ok (.iconst 0, 1) := by decide +kernel
theorem dX2_isPlain_41 : decode cX2_isPlain 41 = .ok (.ireturn, 1) := by decide +kernel
theorem dX2_narrow_0 : decode cX2_narrow 0 = .ok (.aload_n 0, 1) := by decide +kernel
theorem dX2_narrow_1 : decode cX2_narrow 1 = .ok (.getfield 13, 3) := by decide +kernel
theorem dX2_narrow_4 : decode cX2_narrow 4 = .ok (.aload_n 0, 1) := by decide +kernel
theorem dX2_narrow_5 : decode cX2_narrow 5 = .ok (.getfield 28, 3) := by decide +kernel
theorem dX2_narrow_8 : decode cX2_narrow 8 = .ok (.isub, 1) := by decide +kernel
theorem dX2_narrow_9 : decode cX2_narrow 9 = .ok (.istore_n 2, 1) := by decide +kernel
theorem dX2_narrow_10 : decode cX2_narrow 10 = .ok (.aload_n 0, 1) := by decide +kernel
theorem dX2_narrow_11 : decode cX2_narrow 11 = .ok (.getfield 17, 3) := by decide +kernel
theorem dX2_narrow_14 : decode cX2_narrow 14 = .ok (.aload_n 0, 1) := by decide +kernel
theorem dX2_narrow_15 : decode cX2_narrow 15 = .ok (.getfield 31, 3) := by decide +kernel
theorem dX2_narrow_18 : decode cX2_narrow 18 = .ok (.isub, 1) := by decide +kernel
theorem dX2_narrow_19 : decode cX2_narrow 19 = .ok (.istore_n 3, 1) := by decide +kernel
theorem dX2_narrow_20 : decode cX2_narrow 20 = .ok (.iload_n 2, 1) := by decide +kernel
theorem dX2_narrow_21 : decode cX2_narrow 21 = .ok (.iconst 1, 1) := by decide +kernel
theorem dX2_narrow_22 : decode cX2_narrow 22 = .ok (.if_icmp .gt 10, 3) := by decide +kernel
theorem dX2_narrow_25 : decode cX2_narrow 25 = .ok (.iload_n 3, 1) := by decide +kernel
theorem dX2_narrow_26 : decode cX2_narrow 26 = .ok (.iconst 1, 1) := by decide +kernel
theorem dX2_narrow_27 : decode cX2_narrow 27 = .ok (.if_icmp .gt 5, 3) := by decide +kernel
theorem dX2_narrow_30 : decode cX2_narrow 30 = .ok (.iconst 0, 1) := by decide +kernel
theorem dX2_narrow_31 : decode cX2_narrow 31 = .ok (.ireturn, 1) := by decide +kernel
theorem dX2_narrow_32 : decode cX2_narrow 32 = .ok (.iload_n 2, 1) := by decide +kernel
theorem dX2_narrow_33 : decode cX2_narrow 33 = .ok (.iload_n 3, 1) := by decide +kernel
theorem dX2_narrow_34 : decode cX2_narrow 34 = .ok (.if_icmp .lt 45, 3) := by decide +kernel
theorem dX2_narrow_37 : decode cX2_narrow 37 = .ok (.aload_n 0, 1) := by decide +kernel
theorem dX2_narrow_38 : decode cX2_narrow 38 = .ok (.getfield 28, 3) := by decide +kernel
theorem dX2_narrow_41 : decode cX2_narrow 41 = .ok (.iload_n 2, 1) := by decide +kernel
theorem dX2_narrow_42 : decode cX2_narrow 42 = .ok (.iconst 2, 1) := by decide +kernel
theorem dX2_narrow_43 : decode cX2_narrow 43 = .ok (.idiv, 1) := by decide +kernel
theorem dX2_narrow_44 : decode cX2_narrow 44 = .ok (.iadd, 1) := by decide +kernel
theorem dX2_narrow_45 : decode cX2_narrow 45 = .ok (.istore 4, 2) := by decide +kernel
theorem dX2_narrow_47 : decode cX2_narrow 47 = .ok (.aload_n 0, 1) := by decide +kernel
theorem dX2_narrow_48 : decode cX2_narrow 48 = .ok (.aload_n 1, 1) := by decide +kernel
theorem dX2_narrow_49 : decode cX2_narrow 49 = .ok (.iload 4, 2) := by decide +kernel
theorem dX2_narrow_51 : decode cX2_narrow 51 = .ok (.aload_n 0, 1) := by decide +kernel
theorem dX2_narrow_52 : decode cX2_narrow 52 = .ok (.getfield 17, 3) := by decide +kernel
theorem dX2_narrow_55 : decode cX2_narrow 55 = .ok (.invokevirtual 20, 3) := by decide +kernel
theorem dX2_narrow_58 : decode cX2_narrow 58 = .ok (.ifCond .eq 12, 3) := by decide +kernel
theorem dX2_narrow_61 : decode cX2_narrow 61 = .ok (.aload_n 0, 1) := by decide +kernel
theorem dX2_narrow_62 : decode cX2_narrow 62 = .ok (.iload 4, 2) := by decide +kernel
theorem dX2_narrow_64 : decode cX2_narrow 64 = .ok (.putfield 28, 3) := by decide +kernel
theorem dX2_narrow_67 : decode cX2_narrow 67 = .ok (.goto 9, 3) := by decide +kernel
theorem dX2_narrow_70 : decode cX2_narrow 70 = .ok (.aload_n 0, 1) := by decide +kernel
theorem dX2_narrow_71 : decode cX2_narrow 71 = .ok (.iload 4, 2) := by decide +kernel
theorem dX2_narrow_73 : decode cX2_narrow 73 = .ok (.putfield 13, 3) := by decide +kernel
theorem dX2_narrow_76 : decode cX2_narrow 76 = .ok (.goto 42, 3) := by decide +kernel
theorem dX2_narrow_79 : decode cX2_narrow 79 = .ok (.aload_n 0, 1) := by decide +kernel
theorem dX2_narrow_80 : decode cX2_narrow 80 = .ok (.getfield 31, 3) := by decide +kernel
theorem dX2_narrow_83 : decode cX2_narrow 83 = .ok (.iload_n 3, 1) := by decide +kernel
theorem dX2_narrow_84 : decode cX2_narrow 84 = .ok (.iconst 2, 1) := by decide +kernel
theorem dX2_narrow_85 : decode cX2_narrow 85 = .ok (.idiv, 1) := by decide +kernel
theorem dX2_narrow_86 : decode cX2_narrow 86 = .ok (.iadd, 1) := by decide +kernel
theorem dX2_narrow_87 : decode cX2_narrow 87 = .ok (.istore 4, 2) := by decide +kernel
theorem dX2_narrow_89 : decode cX2_narrow 89 = .ok (.aload_n 0, 1) := by decide +kernel
theorem dX2_narrow_90 : decode cX2_narrow 90 = .ok (.aload_n 1, 1) := by decide +kernel
theorem dX2_narrow_91 : decode cX2_narrow 91 = .ok (.aload_n 0, 1) := by decide +kernel
theorem dX2_narrow_92 : decode cX2_narrow 92 = .ok (.getfield 13, 3) := by decide +kernel
theorem dX2_narrow_95 : decode cX2_narrow 95 = .ok (.iload 4, 2) := by decide +kernel
theorem dX2_narrow_97 : decode cX2_narrow 97 = .ok (.invokevirtual 20, 3) := by decide +kernel
theorem dX2_narrow_100 : decode cX2_narrow 100 = .ok (.ifCond .eq 12, 3) := by decide +kernel
theorem dX2_narrow_103 : decode cX2_narrow 103 = .ok (.aload_n 0, 1) := by decide +kernel
theorem dX2_narrow_104 : decode cX2_narrow 104 = .ok (.iload 4, 2) := by decide +kernel
theorem dX2_narrow_106 : decode cX2_narrow 106 = .ok (.putfield 31, 3) := by decide +kernel
theorem dX2_narrow_109 : decode cX2_narrow 109 = .ok (.goto 9, 3) := by decide +kernel
theorem dX2_narrow_112 : decode cX2_narrow 112 = .ok (.aload_n 0, 1) := by decide +kernel
theorem dX2_narrow_113 : decode cX2_narrow 113 = .ok (.iload 4, 2) := by decide +kernel
theorem dX2_narrow_115 : decode cX2_narrow 115 = .ok (.putfield 17, 3) := by decide +kernel
theorem dX2_narrow_118 : decode cX2_narrow 118 = .ok (.iconst 1, 1) := by decide +kernel
theorem dX2_narrow_119 : decode cX2_narrow 119 = .ok (.ireturn, 1) := by decide +kernel
theorem dX2_boxesOf_0 : decode cX2_boxesOf 0 = .ok (.aload_n 0, 1) := by decide +kernel
theorem dX2_boxesOf_1 : decode cX2_boxesOf 1 = .ok (.aload_n 1, 1) := by decide +kernel
theorem dX2_boxesOf_2 : decode cX2_boxesOf 2 = .ok (.invokevirtual 7, 3) := by decide +kernel
theorem dX2_boxesOf_5 : decode cX2_boxesOf 5 = .ok (.aload_n 0, 1) := by decide +kernel
theorem dX2_boxesOf_6 : decode cX2_boxesOf 6 = .ok (.aload_n 1, 1) := by decide +kernel
theorem dX2_boxesOf_7 : decode cX2_boxesOf 7 = .ok (.aload_n 0, 1) := by decide +kernel
theorem dX2_boxesOf_8 : decode cX2_boxesOf 8 = .ok (.getfield 13, 3) := by decide +kernel
theorem dX2_boxesOf_11 : decode cX2_boxesOf 11 = .ok (.aload_n 0, 1) := by decide +kernel
theorem dX2_boxesOf_12 : decode cX2_boxesOf 12 = .ok (.getfield 17, 3) := by decide +kernel
theorem dX2_boxesOf_15 : decode cX2_boxesOf 15 = .ok (.invokevirtual 20, 3) := by decide +kernel
theorem dX2_boxesOf_18 : decode cX2_boxesOf 18 = .ok (.ifCond .eq 5, 3) := by decide +kernel
theorem dX2_boxesOf_21 : decode cX2_boxesOf 21 = .ok (.iconst 0, 1) := by decide +kernel
theorem dX2_boxesOf_22 : decode cX2_boxesOf 22 = .ok (.ireturn, 1) := by decide +kernel
theorem dX2_boxesOf_23 : decode cX2_boxesOf 23 = .ok (.iconst 1, 1) := by decide +kernel
theorem dX2_boxesOf_24 : decode cX2_boxesOf 24 = .ok (.istore_n 2, 1) := by decide +kernel
theorem dX2_boxesOf_25 : decode cX2_boxesOf 25 = .ok (.iconst 0, 1) := by decide +kernel
theorem dX2_boxesOf_26 : decode cX2_boxesOf 26 = .ok (.istore_n 3, 1) := by decide +kernel
theorem dX2_boxesOf_27 : decode cX2_boxesOf 27 = .ok (.iload_n 3, 1) := by decide +kernel
theorem dX2_boxesOf_28 : decode cX2_boxesOf 28 = .ok (.bipush 6, 2) := by decide +kernel
theorem dX2_boxesOf_30 : decode cX2_boxesOf 30 = .ok (.if_icmp .ge 20, 3) := by decide +kernel
theorem dX2_boxesOf_33 : decode cX2_boxesOf 33 = .ok (.aload_n 0, 1) := by decide +kernel
theorem dX2_boxesOf_34 : decode cX2_boxesOf 34 = .ok (.aload_n 1, 1) := by decide +kernel
theorem dX2_boxesOf_35 : decode cX2_boxesOf 35 = .ok (.invokevirtual 24, 3) := by decide +kernel
theorem dX2_boxesOf_38 : decode cX2_boxesOf 38 = .ok (.ifCond .eq 12, 3) := by decide +kernel
theorem dX2_boxesOf_41 : decode cX2_boxesOf 41 = .ok (.iinc 2 1, 3) := by decide +kernel
theorem dX2_boxesOf_44 : decode cX2_boxesOf 44 = .ok (.iinc 3 1, 3) := by decide +kernel
theorem dX2_boxesOf_47 : decode cX2_boxesOf 47 = .ok (.goto (-20), 3) := by decide +kernel
theorem dX2_boxesOf_50 : decode cX2_boxesOf 50 = .ok (.iload_n 2, 1) := by decide +kernel
theorem dX2_boxesOf_51 : decode cX2_boxesOf 51 = .ok (.ireturn, 1) := by decide +kernel
theorem dX2_reach_0 : decode cX2_reach 0 = .ok (.aload_n 0, 1) := by decide +kernel
theorem dX2_reach_1 : decode cX2_reach 1 = .ok (.aload_n 1, 1) := by decide +kernel
theorem dX2_reach_2 : decode cX2_reach 2 = .ok (.invokevirtual 7, 3) := by decide +kernel
theorem dX2_reach_5 : decode cX2_reach 5 = .ok (.iconst 0, 1) := by decide +kernel
theorem dX2_reach_6 : decode cX2_reach 6 = .ok (.istore_n 3, 1) := by decide +kernel
theorem dX2_reach_7 : decode cX2_reach 7 = .ok (.iload_n 3, 1) := by decide +kernel
theorem dX2_reach_8 : decode cX2_reach 8 = .ok (.iload_n 2, 1) := by decide +kernel
theorem dX2_reach_9 : decode cX2_reach 9 = .ok (.if_icmp .ge 21, 3) := by decide +kernel
theorem dX2_reach_12 : decode cX2_reach 12 = .ok (.iload_n 3, 1) := by decide +kernel
theorem dX2_reach_13 : decode cX2_reach 13 = .ok (.bipush 6, 2) := by decide +kernel
theorem dX2_reach_15 : decode cX2_reach 15 = .ok (.if_icmp .ge 15, 3) := by decide +kernel
theorem dX2_reach_18 : decode cX2_reach 18 = .ok (.aload_n 0, 1) := by decide +kernel
theorem dX2_reach_19 : decode cX2_reach 19 = .ok (.aload_n 1, 1) := by decide +kernel
theorem dX2_reach_20 : decode cX2_reach 20 = .ok (.invokevirtual 24, 3) := by decide +kernel
theorem dX2_reach_23 : decode cX2_reach 23 = .ok (.pop, 1) := by decide +kernel
theorem dX2_reach_24 : decode cX2_reach 24 = .ok (.iinc 3 1, 3) := by decide +kernel
theorem dX2_reach_27 : decode cX2_reach 27 = .ok (.goto (-20), 3) := by decide +kernel
theorem dX2_reach_30 : decode cX2_reach 30 = .ok (.return_, 1) := by decide +kernel
theorem dX2_sideOf_0 : decode cX2_sideOf 0 = .ok (.iload_n 1, 1) := by decide +kernel
theorem dX2_sideOf_1 : decode cX2_sideOf 1 = .ok (.tableswitch 42 0 2 #[27, 32, 37], 27) := by decide +kernel
theorem dX2_sideOf_28 : decode cX2_sideOf 28 = .ok (.aload_n 0, 1) := by decide +kernel
theorem dX2_sideOf_29 : decode cX2_sideOf 29 = .ok (.getfield 28, 3) := by decide +kernel
theorem dX2_sideOf_32 : decode cX2_sideOf 32 = .ok (.ireturn, 1) := by decide +kernel
theorem dX2_sideOf_33 : decode cX2_sideOf 33 = .ok (.aload_n 0, 1) := by decide +kernel
theorem dX2_sideOf_34 : decode cX2_sideOf 34 = .ok (.getfield 31, 3) := by decide +kernel
theorem dX2_sideOf_37 : decode cX2_sideOf 37 = .ok (.ireturn, 1) := by decide +kernel
theorem dX2_sideOf_38 : decode cX2_sideOf 38 = .ok (.aload_n 0, 1) := by decide +kernel
theorem dX2_sideOf_39 : decode cX2_sideOf 39 = .ok (.getfield 13, 3) := by decide +kernel
theorem dX2_sideOf_42 : decode cX2_sideOf 42 = .ok (.ireturn, 1) := by decide +kernel
theorem dX2_sideOf_43 : decode cX2_sideOf 43 = .ok (.aload_n 0, 1) := by decide +kernel
theorem dX2_sideOf_44 : decode cX2_sideOf 44 = .ok (.getfield 17, 3) := by decide +kernel
theorem dX2_sideOf_47 : decode cX2_sideOf 47 = .ok (.ireturn, 1) := by decide +kernel
theorem dX11_halved_0 : decode cX11_halved 0 = .ok (.aload_n 0, 1) := by decide +kernel
theorem dX11_halved_1 : decode cX11_halved 1 = .ok (.invokevirtual 136, 3) := by decide +kernel
theorem dX11_halved_4 : decode cX11_halved 4 = .ok (.ifCond .eq 5, 3) := by decide +kernel
theorem dX11_halved_7 : decode cX11_halved 7 = .ok (.iconst (-1), 1) := by decide +kernel
theorem dX11_halved_8 : decode cX11_halved 8 = .ok (.ireturn, 1) := by decide +kernel
theorem dX11_halved_9 : decode cX11_halved 9 = .ok (.aload_n 0, 1) := by decide +kernel
theorem dX11_halved_10 : decode cX11_halved 10 = .ok (.getfield 69, 3) := by decide +kernel
theorem dX11_halved_13 : decode cX11_halved 13 = .ok (.aload_n 0, 1) := by decide +kernel
theorem dX11_halved_14 : decode cX11_halved 14 = .ok (.getfield 28, 3) := by decide +kernel
theorem dX11_halved_17 : decode cX11_halved 17 = .ok (.getfield 141, 3) := by decide +kernel
theorem dX11_halved_20 : decode cX11_halved 20 = .ok (.invokevirtual 217, 3) := by decide +kernel
theorem dX11_halved_23 : decode cX11_halved 23 = .ok (.istore_n 3, 1) := by decide +kernel
theorem dX11_halved_24 : decode cX11_halved 24 = .ok (.iload_n 1, 1) := by decide +kernel
theorem dX11_halved_25 : decode cX11_halved 25 = .ok (.iconst (-1), 1) := by decide +kernel
theorem dX11_halved_26 : decode cX11_halved 26 = .ok (.if_icmp .ne 5, 3) := by decide +kernel
theorem dX11_halved_29 : decode cX11_halved 29 = .ok (.iload_n 3, 1) := by decide +kernel
theorem dX11_halved_30 : decode cX11_halved 30 = .ok (.ireturn, 1) := by decide +kernel
theorem dX11_halved_31 : decode cX11_halved 31 = .ok (.iload_n 1, 1) := by decide +kernel
theorem dX11_halved_32 : decode cX11_halved 32 = .ok (.ifCond .lt 17, 3) := by decide +kernel
theorem dX11_halved_35 : decode cX11_halved 35 = .ok (.iload_n 1, 1) := by decide +kernel
theorem dX11_halved_36 : decode cX11_halved 36 = .ok (.iload_n 3, 1) := by decide +kernel
theorem dX11_halved_37 : decode cX11_halved 37 = .ok (.if_icmp .ge 12, 3) := by decide +kernel
theorem dX11_halved_40 : decode cX11_halved 40 = .ok (.iload_n 2, 1) := by decide +kernel
theorem dX11_halved_41 : decode cX11_halved 41 = .ok (.ifCond .lt 8, 3) := by decide +kernel
theorem dX11_halved_44 : decode cX11_halved 44 = .ok (.iload_n 2, 1) := by decide +kernel
theorem dX11_halved_45 : decode cX11_halved 45 = .ok (.iconst 3, 1) := by decide +kernel
theorem dX11_halved_46 : decode cX11_halved 46 = .ok (.if_icmp .le 5, 3) := by decide +kernel
theorem dX11_halved_49 : decode cX11_halved 49 = .ok (.iconst (-1), 1) := by decide +kernel
theorem dX11_halved_50 : decode cX11_halved 50 = .ok (.ireturn, 1) := by decide +kernel
theorem dX11_halved_51 : decode cX11_halved 51 = .ok (.aload_n 0, 1) := by decide +kernel
theorem dX11_halved_52 : decode cX11_halved 52 = .ok (.getfield 69, 3) := by decide +kernel
theorem dX11_halved_55 : decode cX11_halved 55 = .ok (.aload_n 0, 1) := by decide +kernel
theorem dX11_halved_56 : decode cX11_halved 56 = .ok (.getfield 28, 3) := by decide +kernel
theorem dX11_halved_59 : decode cX11_halved 59 = .ok (.getfield 141, 3) := by decide +kernel
theorem dX11_halved_62 : decode cX11_halved 62 = .ok (.iload_n 1, 1) := by decide +kernel
theorem dX11_halved_63 : decode cX11_halved 63 = .ok (.invokevirtual 221, 3) := by decide +kernel
theorem dX11_halved_66 : decode cX11_halved 66 = .ok (.aload_n 0, 1) := by decide +kernel
theorem dX11_halved_67 : decode cX11_halved 67 = .ok (.getfield 69, 3) := by decide +kernel
theorem dX11_halved_70 : decode cX11_halved 70 = .ok (.iload_n 2, 1) := by decide +kernel
theorem dX11_halved_71 : decode cX11_halved 71 = .ok (.invokevirtual 225, 3) := by decide +kernel
theorem dX11_halved_74 : decode cX11_halved 74 = .ok (.ireturn, 1) := by decide +kernel
theorem dX8_take_0 : decode cX8_take 0 = .ok (.aload_n 1, 1) := by decide +kernel
theorem dX8_take_1 : decode cX8_take 1 = .ok (.getfield 20, 3) := by decide +kernel
theorem dX8_take_4 : decode cX8_take 4 = .ok (.iconst 0, 1) := by decide +kernel
theorem dX8_take_5 : decode cX8_take 5 = .ok (.aload_n 0, 1) := by decide +kernel
theorem dX8_take_6 : decode cX8_take 6 = .ok (.getfield 9, 3) := by decide +kernel
theorem dX8_take_9 : decode cX8_take 9 = .ok (.iconst 0, 1) := by decide +kernel
theorem dX8_take_10 : decode cX8_take 10 = .ok (.aload_n 0, 1) := by decide +kernel
theorem dX8_take_11 : decode cX8_take 11 = .ok (.getfield 9, 3) := by decide +kernel
theorem dX8_take_14 : decode cX8_take 14 = .ok (.arraylength, 1) := by decide +kernel
theorem dX8_take_15 : decode cX8_take 15 = .ok (.invokestatic 21, 3) := by decide +kernel
theorem dX8_take_18 : decode cX8_take 18 = .ok (.aload_n 2, 1) := by decide +kernel
theorem dX8_take_19 : decode cX8_take 19 = .ok (.getfield 27, 3) := by decide +kernel
theorem dX8_take_22 : decode cX8_take 22 = .ok (.iconst 0, 1) := by decide +kernel
theorem dX8_take_23 : decode cX8_take 23 = .ok (.aload_n 0, 1) := by decide +kernel
theorem dX8_take_24 : decode cX8_take 24 = .ok (.getfield 17, 3) := by decide +kernel
theorem dX8_take_27 : decode cX8_take 27 = .ok (.iconst 0, 1) := by decide +kernel
theorem dX8_take_28 : decode cX8_take 28 = .ok (.aload_n 0, 1) := by decide +kernel
theorem dX8_take_29 : decode cX8_take 29 = .ok (.getfield 17, 3) := by decide +kernel
theorem dX8_take_32 : decode cX8_take 32 = .ok (.arraylength, 1) := by decide +kernel
theorem dX8_take_33 : decode cX8_take 33 = .ok (.invokestatic 21, 3) := by decide +kernel
theorem dX8_take_36 : decode cX8_take 36 = .ok (.aload_n 0, 1) := by decide +kernel
theorem dX8_take_37 : decode cX8_take 37 = .ok (.aload_n 2, 1) := by decide +kernel
theorem dX8_take_38 : decode cX8_take 38 = .ok (.getfield 28, 3) := by decide +kernel
theorem dX8_take_41 : decode cX8_take 41 = .ok (.putfield 32, 3) := by decide +kernel
theorem dX8_take_44 : decode cX8_take 44 = .ok (.return_, 1) := by decide +kernel
theorem dX11_image_0 : decode cX11_image 0 = .ok (.aload_n 0, 1) := by decide +kernel
theorem dX11_image_1 : decode cX11_image 1 = .ok (.invokevirtual 136, 3) := by decide +kernel
theorem dX11_image_4 : decode cX11_image 4 = .ok (.ifCond .eq 5, 3) := by decide +kernel
theorem dX11_image_7 : decode cX11_image 7 = .ok (.iconst (-1), 1) := by decide +kernel
theorem dX11_image_8 : decode cX11_image 8 = .ok (.ireturn, 1) := by decide +kernel
theorem dX11_image_9 : decode cX11_image 9 = .ok (.aload_n 0, 1) := by decide +kernel
theorem dX11_image_10 : decode cX11_image 10 = .ok (.getfield 56, 3) := by decide +kernel
theorem dX11_image_13 : decode cX11_image 13 = .ok (.aload_n 0, 1) := by decide +kernel
theorem dX11_image_14 : decode cX11_image 14 = .ok (.getfield 28, 3) := by decide +kernel
theorem dX11_image_17 : decode cX11_image 17 = .ok (.getfield 141, 3) := by decide +kernel
theorem dX11_image_20 : decode cX11_image 20 = .ok (.aload_n 0, 1) := by decide +kernel
theorem dX11_image_21 : decode cX11_image 21 = .ok (.getfield 42, 3) := by decide +kernel
theorem dX11_image_24 : decode cX11_image 24 = .ok (.invokevirtual 355, 3) := by decide +kernel
theorem dX11_image_27 : decode cX11_image 27 = .ok (.aload_n 0, 1) := by decide +kernel
theorem dX11_image_28 : decode cX11_image 28 = .ok (.iconst 1, 1) := by decide +kernel
theorem dX11_image_29 : decode cX11_image 29 = .ok (.putfield 120, 3) := by decide +kernel
theorem dX11_image_32 : decode cX11_image 32 = .ok (.aload_n 0, 1) := by decide +kernel
theorem dX11_image_33 : decode cX11_image 33 = .ok (.getfield 42, 3) := by decide +kernel
theorem dX11_image_36 : decode cX11_image 36 = .ok (.getfield 114, 3) := by decide +kernel
theorem dX11_image_39 : decode cX11_image 39 = .ok (.ireturn, 1) := by decide +kernel
theorem dX11_isShift_0 : decode cX11_isShift 0 = .ok (.iload_n 0, 1) := by decide +kernel
theorem dX11_isShift_1 : decode cX11_isShift 1 = .ok (.bipush (-9), 2) := by decide +kernel
theorem dX11_isShift_3 : decode cX11_isShift 3 = .ok (.if_icmp .lt 13, 3) := by decide +kernel
theorem dX11_isShift_6 : decode cX11_isShift 6 = .ok (.iload_n 0, 1) := by decide +kernel
theorem dX11_isShift_7 : decode cX11_isShift 7 = .ok (.bipush 9, 2) := by decide +kernel
theorem dX11_isShift_9 : decode cX11_isShift 9 = .ok (.if_icmp .gt 7, 3) := by decide +kernel
theorem dX11_isShift_12 : decode cX11_isShift 12 = .ok (.iconst 1, 1) := by decide +kernel
theorem dX11_isShift_13 : decode cX11_isShift 13 = .ok (.goto 4, 3) := by decide +kernel
theorem dX11_isShift_16 : decode cX11_isShift 16 = .ok (.iconst 0, 1) := by decide +kernel
theorem dX11_isShift_17 : decode cX11_isShift 17 = .ok (.ireturn, 1) := by decide +kernel
theorem dX7_sumAlong_0 : decode cX7_sumAlong 0 = .ok (.iconst 0, 1) := by decide +kernel
theorem dX7_sumAlong_1 : decode cX7_sumAlong 1 = .ok (.istore_n 3, 1) := by decide +kernel
theorem dX7_sumAlong_2 : decode cX7_sumAlong 2 = .ok (.iconst 0, 1) := by decide +kernel
theorem dX7_sumAlong_3 : decode cX7_sumAlong 3 = .ok (.istore 4, 2) := by decide +kernel
theorem dX7_sumAlong_5 : decode cX7_sumAlong 5 = .ok (.iload 4, 2) := by decide +kernel
theorem dX7_sumAlong_7 : decode cX7_sumAlong 7 = .ok (.aload_n 0, 1) := by decide +kernel
theorem dX7_sumAlong_8 : decode cX7_sumAlong 8 = .ok (.getfield 15, 3) := by decide +kernel
theorem dX7_sumAlong_11 : decode cX7_sumAlong 11 = .ok (.iconst 1, 1) := by decide +kernel
theorem dX7_sumAlong_12 : decode cX7_sumAlong 12 = .ok (.isub, 1) := by decide +kernel
theorem dX7_sumAlong_13 : decode cX7_sumAlong 13 = .ok (.if_icmp .ge 21, 3) := by decide +kernel
theorem dX7_sumAlong_16 : decode cX7_sumAlong 16 = .ok (.iload_n 3, 1) := by decide +kernel
theorem dX7_sumAlong_17 : decode cX7_sumAlong 17 = .ok (.aload_n 0, 1) := by decide +kernel
theorem dX7_sumAlong_18 : decode cX7_sumAlong 18 = .ok (.iload 4, 2) := by decide +kernel
theorem dX7_sumAlong_20 : decode cX7_sumAlong 20 = .ok (.iload_n 1, 1) := by decide +kernel
theorem dX7_sumAlong_21 : decode cX7_sumAlong 21 = .ok (.iconst 0, 1) := by decide +kernel
theorem dX7_sumAlong_22 : decode cX7_sumAlong 22 = .ok (.iload_n 2, 1) := by decide +kernel
theorem dX7_sumAlong_23 : decode cX7_sumAlong 23 = .ok (.invokevirtual 36, 3) := by decide +kernel
theorem dX7_sumAlong_26 : decode cX7_sumAlong 26 = .ok (.iadd, 1) := by decide +kernel
theorem dX7_sumAlong_27 : decode cX7_sumAlong 27 = .ok (.istore_n 3, 1) := by decide +kernel
theorem dX7_sumAlong_28 : decode cX7_sumAlong 28 = .ok (.iinc 4 1, 3) := by decide +kernel
theorem dX7_sumAlong_31 : decode cX7_sumAlong 31 = .ok (.goto (-26), 3) := by decide +kernel
theorem dX7_sumAlong_34 : decode cX7_sumAlong 34 = .ok (.iload_n 3, 1) := by decide +kernel
theorem dX7_sumAlong_35 : decode cX7_sumAlong 35 = .ok (.ireturn, 1) := by decide +kernel
theorem dX11_layer_0 : decode cX11_layer 0 = .ok (.aload_n 0, 1) := by decide +kernel
theorem dX11_layer_1 : decode cX11_layer 1 = .ok (.getfield 28, 3) := by decide +kernel
theorem dX11_layer_4 : decode cX11_layer 4 = .ok (.getfield 141, 3) := by decide +kernel
theorem dX11_layer_7 : decode cX11_layer 7 = .ok (.iconst 0, 1) := by decide +kernel
theorem dX11_layer_8 : decode cX11_layer 8 = .ok (.iload_n 1, 1) := by decide +kernel
theorem dX11_layer_9 : decode cX11_layer 9 = .ok (.invokevirtual 207, 3) := by decide +kernel
theorem dX11_layer_12 : decode cX11_layer 12 = .ok (.ifCond .eq 12, 3) := by decide +kernel
theorem dX11_layer_15 : decode cX11_layer 15 = .ok (.iload_n 2, 1) := by decide +kernel
theorem dX11_layer_16 : decode cX11_layer 16 = .ok (.ifCond .lt 8, 3) := by decide +kernel
theorem dX11_layer_19 : decode cX11_layer 19 = .ok (.iload_n 2, 1) := by decide +kernel
theorem dX11_layer_20 : decode cX11_layer 20 = .ok (.iconst 3, 1) := by decide +kernel
theorem dX11_layer_21 : decode cX11_layer 21 = .ok (.if_icmp .le 6, 3) := by decide +kernel
theorem dX11_layer_24 : decode cX11_layer 24 = .ok (.ldc 140, 2) := by decide +kernel
theorem dX11_layer_26 : decode cX11_layer 26 = .ok (.ireturn, 1) := by decide +kernel
theorem dX11_layer_27 : decode cX11_layer 27 = .ok (.iload_n 2, 1) := by decide +kernel
theorem dX11_layer_28 : decode cX11_layer 28 = .ok (.iconst 2, 1) := by decide +kernel
theorem dX11_layer_29 : decode cX11_layer 29 = .ok (.if_icmp .ge 18, 3) := by decide +kernel
theorem dX11_layer_32 : decode cX11_layer 32 = .ok (.aload_n 0, 1) := by decide +kernel
theorem dX11_layer_33 : decode cX11_layer 33 = .ok (.getfield 28, 3) := by decide +kernel
theorem dX11_layer_36 : decode cX11_layer 36 = .ok (.getfield 141, 3) := by decide +kernel
theorem dX11_layer_39 : decode cX11_layer 39 = .ok (.iload_n 1, 1) := by decide +kernel
theorem dX11_layer_40 : decode cX11_layer 40 = .ok (.iload_n 2, 1) := by decide +kernel
theorem dX11_layer_41 : decode cX11_layer 41 = .ok (.invokevirtual 333, 3) := by decide +kernel
theorem dX11_layer_44 : decode cX11_layer 44 = .ok (.goto 17, 3) := by decide +kernel
theorem dX11_layer_47 : decode cX11_layer 47 = .ok (.aload_n 0, 1) := by decide +kernel
theorem dX11_layer_48 : decode cX11_layer 48 = .ok (.getfield 28, 3) := by decide +kernel
theorem dX11_layer_51 : decode cX11_layer 51 = .ok (.getfield 141, 3) := by decide +kernel
theorem dX11_layer_54 : decode cX11_layer 54 = .ok (.iload_n 1, 1) := by decide +kernel
theorem dX11_layer_55 : decode cX11_layer 55 = .ok (.iload_n 2, 1) := by decide +kernel
theorem dX11_layer_56 : decode cX11_layer 56 = .ok (.iconst 2, 1) := by decide +kernel
theorem dX11_layer_57 : decode cX11_layer 57 = .ok (.isub, 1) := by decide +kernel
theorem dX11_layer_58 : decode cX11_layer 58 = .ok (.invokevirtual 336, 3) := by decide +kernel
theorem dX11_layer_61 : decode cX11_layer 61 = .ok (.ireturn, 1) := by decide +kernel
theorem dX0_nextAlong_0 : decode cX0_nextAlong 0 = .ok (.iconst (-1), 1) := by decide +kernel
theorem dX0_nextAlong_1 : decode cX0_nextAlong 1 = .ok (.istore 4, 2) := by decide +kernel
theorem dX0_nextAlong_3 : decode cX0_nextAlong 3 = .ok (.bipush 9, 2) := by decide +kernel
theorem dX0_nextAlong_5 : decode cX0_nextAlong 5 = .ok (.istore 5, 2) := by decide +kernel
theorem dX0_nextAlong_7 : decode cX0_nextAlong 7 = .ok (.iconst 0, 1) := by decide +kernel
theorem dX0_nextAlong_8 : decode cX0_nextAlong 8 = .ok (.istore 6, 2) := by decide +kernel
theorem dX0_nextAlong_10 : decode cX0_nextAlong 10 = .ok (.iload 6, 2) := by decide +kernel
theorem dX0_nextAlong_12 : decode cX0_nextAlong 12 = .ok (.aload_n 0, 1) := by decide +kernel
theorem dX0_nextAlong_13 : decode cX0_nextAlong 13 = .ok (.getfield 18, 3) := by decide +kernel
theorem dX0_nextAlong_16 : decode cX0_nextAlong 16 = .ok (.if_icmp .ge 67, 3) := by decide +kernel
theorem dX0_nextAlong_19 : decode cX0_nextAlong 19 = .ok (.iload_n 3, 1) := by decide +kernel
theorem dX0_nextAlong_20 : decode cX0_nextAlong 20 = .ok (.aload_n 0, 1) := by decide +kernel
theorem dX0_nextAlong_21 : decode cX0_nextAlong 21 = .ok (.iload 6, 2) := by decide +kernel
theorem dX0_nextAlong_23 : decode cX0_nextAlong 23 = .ok (.iload_n 2, 1) := by decide +kernel
theorem dX0_nextAlong_24 : decode cX0_nextAlong 24 = .ok (.invokevirtual 45, 3) := by decide +kernel
theorem dX0_nextAlong_27 : decode cX0_nextAlong 27 = .ok (.aload_n 0, 1) := by decide +kernel
theorem dX0_nextAlong_28 : decode cX0_nextAlong 28 = .ok (.iload_n 1, 1) := by decide +kernel
theorem dX0_nextAlong_29 : decode cX0_nextAlong 29 = .ok (.iload_n 2, 1) := by decide +kernel
theorem dX0_nextAlong_30 : decode cX0_nextAlong 30 = .ok (.invokevirtual 45, 3) := by decide +kernel
theorem dX0_nextAlong_33 : decode cX0_nextAlong 33 = .ok (.isub, 1) := by decide +kernel
theorem dX0_nextAlong_34 : decode cX0_nextAlong 34 = .ok (.imul, 1) := by decide +kernel
theorem dX0_nextAlong_35 : decode cX0_nextAlong 35 = .ok (.istore 7, 2) := by decide +kernel
theorem dX0_nextAlong_37 : decode cX0_nextAlong 37 = .ok (.aload_n 0, 1) := by decide +kernel
theorem dX0_nextAlong_38 : decode cX0_nextAlong 38 = .ok (.iload 6, 2) := by decide +kernel
theorem dX0_nextAlong_40 : decode cX0_nextAlong 40 = .ok (.iconst 1, 1) := by decide +kernel
theorem dX0_nextAlong_41 : decode cX0_nextAlong 41 = .ok (.iload_n 2, 1) := by decide +kernel
theorem dX0_nextAlong_42 : decode cX0_nextAlong 42 = .ok (.isub, 1) := by decide +kernel
theorem dX0_nextAlong_43 : decode cX0_nextAlong 43 = .ok (.invokevirtual 45, 3) := by decide +kernel
theorem dX0_nextAlong_46 : decode cX0_nextAlong 46 = .ok (.aload_n 0, 1) := by decide +kernel
theorem dX0_nextAlong_47 : decode cX0_nextAlong 47 = .ok (.iload_n 1, 1) := by decide +kernel
theorem dX0_nextAlong_48 : decode cX0_nextAlong 48 = .ok (.iconst 1, 1) := by decide +kernel
theorem dX0_nextAlong_49 : decode cX0_nextAlong 49 = .ok (.iload_n 2, 1) := by decide +kernel
theorem dX0_nextAlong_50 : decode cX0_nextAlong 50 = .ok (.isub, 1) := by decide +kernel
theorem dX0_nextAlong_51 : decode cX0_nextAlong 51 = .ok (.invokevirtual 45, 3) := by decide +kernel
theorem dX0_nextAlong_54 : decode cX0_nextAlong 54 = .ok (.if_icmp .ne 23, 3) := by decide +kernel
theorem dX0_nextAlong_57 : decode cX0_nextAlong 57 = .ok (.iload 7, 2) := by decide +kernel
theorem dX0_nextAlong_59 : decode cX0_nextAlong 59 = .ok (.ifCond .le 18, 3) := by decide +kernel
theorem dX0_nextAlong_62 : decode cX0_nextAlong 62 = .ok (.iload 7, 2) := by decide +kernel
theorem dX0_nextAlong_64 : decode cX0_nextAlong 64 = .ok (.iload 5, 2) := by decide +kernel
theorem dX0_nextAlong_66 : decode cX0_nextAlong 66 = .ok (.if_icmp .ge 11, 3) := by decide +kernel
theorem dX0_nextAlong_69 : decode cX0_nextAlong 69 = .ok (.iload 6, 2) := by decide +kernel
theorem dX0_nextAlong_71 : decode cX0_nextAlong 71 = .ok (.istore 4, 2) := by decide +kernel
theorem dX0_nextAlong_73 : decode cX0_nextAlong 73 = .ok (.iload 7, 2) := by decide +kernel
theorem dX0_nextAlong_75 : decode cX0_nextAlong 75 = .ok (.istore 5, 2) := by decide +kernel
theorem dX0_nextAlong_77 : decode cX0_nextAlong 77 = .ok (.iinc 6 1, 3) := by decide +kernel
theorem dX0_nextAlong_80 : decode cX0_nextAlong 80 = .ok (.goto (-70), 3) := by decide +kernel
theorem dX0_nextAlong_83 : decode cX0_nextAlong 83 = .ok (.iload 4, 2) := by decide +kernel
theorem dX0_nextAlong_85 : decode cX0_nextAlong 85 = .ok (.ireturn, 1) := by decide +kernel
theorem dX11_line_0 : decode cX11_line 0 = .ok (.aload_n 0, 1) := by decide +kernel
theorem dX11_line_1 : decode cX11_line 1 = .ok (.getfield 28, 3) := by decide +kernel
theorem dX11_line_4 : decode cX11_line 4 = .ok (.getfield 127, 3) := by decide +kernel
theorem dX11_line_7 : decode cX11_line 7 = .ok (.iload_n 1, 1) := by decide +kernel
theorem dX11_line_8 : decode cX11_line 8 = .ok (.invokevirtual 181, 3) := by decide +kernel
theorem dX11_line_11 : decode cX11_line 11 = .ok (.istore_n 3, 1) := by decide +kernel
theorem dX11_line_12 : decode cX11_line 12 = .ok (.iload_n 3, 1) := by decide +kernel
theorem dX11_line_13 : decode cX11_line 13 = .ok (.iconst (-1), 1) := by decide +kernel
theorem dX11_line_14 : decode cX11_line 14 = .ok (.if_icmp .eq 12, 3) := by decide +kernel
theorem dX11_line_17 : decode cX11_line 17 = .ok (.iload_n 2, 1) := by decide +kernel
theorem dX11_line_18 : decode cX11_line 18 = .ok (.ifCond .lt 8, 3) := by decide +kernel
theorem dX11_line_21 : decode cX11_line 21 = .ok (.iload_n 2, 1) := by decide +kernel
theorem dX11_line_22 : decode cX11_line 22 = .ok (.iconst 3, 1) := by decide +kernel
theorem dX11_line_23 : decode cX11_line 23 = .ok (.if_icmp .le 6, 3) := by decide +kernel
theorem dX11_line_26 : decode cX11_line 26 = .ok (.ldc 140, 2) := by decide +kernel
theorem dX11_line_28 : decode cX11_line 28 = .ok (.ireturn, 1) := by decide +kernel
theorem dX11_line_29 : decode cX11_line 29 = .ok (.aload_n 0, 1) := by decide +kernel
theorem dX11_line_30 : decode cX11_line 30 = .ok (.getfield 28, 3) := by decide +kernel
theorem dX11_line_33 : decode cX11_line 33 = .ok (.getfield 127, 3) := by decide +kernel
theorem dX11_line_36 : decode cX11_line 36 = .ok (.iload_n 1, 1) := by decide +kernel
theorem dX11_line_37 : decode cX11_line 37 = .ok (.iload_n 3, 1) := by decide +kernel
theorem dX11_line_38 : decode cX11_line 38 = .ok (.iload_n 2, 1) := by decide +kernel
theorem dX11_line_39 : decode cX11_line 39 = .ok (.iconst 2, 1) := by decide +kernel
theorem dX11_line_40 : decode cX11_line 40 = .ok (.if_icmp .ge 7, 3) := by decide +kernel
theorem dX11_line_43 : decode cX11_line 43 = .ok (.iconst 1, 1) := by decide +kernel
theorem dX11_line_44 : decode cX11_line 44 = .ok (.goto 4, 3) := by decide +kernel
theorem dX11_line_47 : decode cX11_line 47 = .ok (.iconst (-1), 1) := by decide +kernel
theorem dX11_line_48 : decode cX11_line 48 = .ok (.invokevirtual 339, 3) := by decide +kernel
theorem dX11_line_51 : decode cX11_line 51 = .ok (.istore 4, 2) := by decide +kernel
theorem dX11_line_53 : decode cX11_line 53 = .ok (.iload 4, 2) := by decide +kernel
theorem dX11_line_55 : decode cX11_line 55 = .ok (.iconst (-1), 1) := by decide +kernel
theorem dX11_line_56 : decode cX11_line 56 = .ok (.if_icmp .eq 9, 3) := by decide +kernel
theorem dX11_line_59 : decode cX11_line 59 = .ok (.iload_n 2, 1) := by decide +kernel
theorem dX11_line_60 : decode cX11_line 60 = .ok (.iconst 2, 1) := by decide +kernel
theorem dX11_line_61 : decode cX11_line 61 = .ok (.irem, 1) := by decide +kernel
theorem dX11_line_62 : decode cX11_line 62 = .ok (.ifCond .ne 6, 3) := by decide +kernel
theorem dX11_line_65 : decode cX11_line 65 = .ok (.iload 4, 2) := by decide +kernel
theorem dX11_line_67 : decode cX11_line 67 = .ok (.ireturn, 1) := by decide +kernel
theorem dX11_line_68 : decode cX11_line 68 = .ok (.aload_n 0, 1) := by decide +kernel
theorem dX11_line_69 : decode cX11_line 69 = .ok (.getfield 28, 3) := by decide +kernel
theorem dX11_line_72 : decode cX11_line 72 = .ok (.getfield 127, 3) := by decide +kernel
theorem dX11_line_75 : decode cX11_line 75 = .ok (.iload 4, 2) := by decide +kernel
theorem dX11_line_77 : decode cX11_line 77 = .ok (.iload_n 3, 1) := by decide +kernel
theorem dX11_line_78 : decode cX11_line 78 = .ok (.invokevirtual 174, 3) := by decide +kernel
theorem dX11_line_81 : decode cX11_line 81 = .ok (.aload_n 0, 1) := by decide +kernel
theorem dX11_line_82 : decode cX11_line 82 = .ok (.getfield 28, 3) := by decide +kernel
theorem dX11_line_85 : decode cX11_line 85 = .ok (.getfield 127, 3) := by decide +kernel
theorem dX11_line_88 : decode cX11_line 88 = .ok (.iload_n 1, 1) := by decide +kernel
theorem dX11_line_89 : decode cX11_line 89 = .ok (.iload_n 3, 1) := by decide +kernel
theorem dX11_line_90 : decode cX11_line 90 = .ok (.invokevirtual 174, 3) := by decide +kernel
theorem dX11_line_93 : decode cX11_line 93 = .ok (.isub, 1) := by decide +kernel
theorem dX11_line_94 : decode cX11_line 94 = .ok (.invokestatic 342, 3) := by decide +kernel
theorem dX11_line_97 : decode cX11_line 97 = .ok (.ireturn, 1) := by decide +kernel
theorem dX11_link_0 : decode cX11_link 0 = .ok (.iload_n 3, 1) := by decide +kernel
theorem dX11_link_1 : decode cX11_link 1 = .ok (.ifCond .eq 7, 3) := by decide +kernel
theorem dX11_link_4 : decode cX11_link 4 = .ok (.iconst 1, 1) := by decide +kernel
theorem dX11_link_5 : decode cX11_link 5 = .ok (.goto 4, 3) := by decide +kernel
theorem dX11_link_8 : decode cX11_link 8 = .ok (.iconst 0, 1) := by decide +kernel
theorem dX11_link_9 : decode cX11_link 9 = .ok (.istore 5, 2) := by decide +kernel
theorem dX11_link_11 : decode cX11_link 11 = .ok (.aload_n 0, 1) := by decide +kernel
theorem dX11_link_12 : decode cX11_link 12 = .ok (.getfield 28, 3) := by decide +kernel
theorem dX11_link_15 : decode cX11_link 15 = .ok (.getfield 141, 3) := by decide +kernel
theorem dX11_link_18 : decode cX11_link 18 = .ok (.iload_n 1, 1) := by decide +kernel
theorem dX11_link_19 : decode cX11_link 19 = .ok (.iload_n 2, 1) := by decide +kernel
theorem dX11_link_20 : decode cX11_link 20 = .ok (.iload 5, 2) := by decide +kernel
theorem dX11_link_22 : decode cX11_link 22 = .ok (.invokevirtual 199, 3) := by decide +kernel
theorem dX11_link_25 : decode cX11_link 25 = .ok (.ifCond .eq 14, 3) := by decide +kernel
theorem dX11_link_28 : decode cX11_link 28 = .ok (.iload 4, 2) := by decide +kernel
theorem dX11_link_30 : decode cX11_link 30 = .ok (.ifCond .lt 9, 3) := by decide +kernel
theorem dX11_link_33 : decode cX11_link 33 = .ok (.iload 4, 2) := by decide +kernel
theorem dX11_link_35 : decode cX11_link 35 = .ok (.iconst 1, 1) := by decide +kernel
theorem dX11_link_36 : decode cX11_link 36 = .ok (.if_icmp .le 6, 3) := by decide +kernel
theorem dX11_link_39 : decode cX11_link 39 = .ok (.ldc 140, 2) := by decide +kernel
theorem dX11_link_41 : decode cX11_link 41 = .ok (.ireturn, 1) := by decide +kernel
theorem dX11_link_42 : decode cX11_link 42 = .ok (.aload_n 0, 1) := by decide +kernel
theorem dX11_link_43 : decode cX11_link 43 = .ok (.getfield 28, 3) := by decide +kernel
theorem dX11_link_46 : decode cX11_link 46 = .ok (.getfield 141, 3) := by decide +kernel
theorem dX11_link_49 : decode cX11_link 49 = .ok (.iload_n 1, 1) := by decide +kernel
theorem dX11_link_50 : decode cX11_link 50 = .ok (.iload_n 2, 1) := by decide +kernel
theorem dX11_link_51 : decode cX11_link 51 = .ok (.iload 5, 2) := by decide +kernel
theorem dX11_link_53 : decode cX11_link 53 = .ok (.iload 4, 2) := by decide +kernel
theorem dX11_link_55 : decode cX11_link 55 = .ok (.invokevirtual 203, 3) := by decide +kernel
theorem dX11_link_58 : decode cX11_link 58 = .ok (.ireturn, 1) := by decide +kernel
theorem dJ9_floorMod_7cf53_0 : decode cJ9_floorMod_7cf53 0 = .ok (.iload_n 0, 1) := by decide +kernel
theorem dJ9_floorMod_7cf53_1 : decode cJ9_floorMod_7cf53 1 = .ok (.iload_n 1, 1) := by decide +kernel
theorem dJ9_floorMod_7cf53_2 : decode cJ9_floorMod_7cf53 2 = .ok (.irem, 1) := by decide +kernel
theorem dJ9_floorMod_7cf53_3 : decode cJ9_floorMod_7cf53 3 = .ok (.istore_n 2, 1) := by decide +kernel
theorem dJ9_floorMod_7cf53_4 : decode cJ9_floorMod_7cf53 4 = .ok (.iload_n 0, 1) := by decide +kernel
theorem dJ9_floorMod_7cf53_5 : decode cJ9_floorMod_7cf53 5 = .ok (.iload_n 1, 1) := by decide +kernel
theorem dJ9_floorMod_7cf53_6 : decode cJ9_floorMod_7cf53 6 = .ok (.ixor, 1) := by decide +kernel
theorem dJ9_floorMod_7cf53_7 : decode cJ9_floorMod_7cf53 7 = .ok (.ifCond .ge 11, 3) := by decide +kernel
theorem dJ9_floorMod_7cf53_10 : decode cJ9_floorMod_7cf53 10 = .ok (.iload_n 2, 1) := by decide +kernel
theorem dJ9_floorMod_7cf53_11 : decode cJ9_floorMod_7cf53 11 = .ok (.ifCond .eq 7, 3) := by decide +kernel
theorem dJ9_floorMod_7cf53_14 : decode cJ9_floorMod_7cf53 14 = .ok (.iload_n 2, 1) := by decide +kernel
theorem dJ9_floorMod_7cf53_15 : decode cJ9_floorMod_7cf53 15 = .ok (.iload_n 1, 1) := by decide +kernel
theorem dJ9_floorMod_7cf53_16 : decode cJ9_floorMod_7cf53 16 = .ok (.iadd, 1) := by decide +kernel
theorem dJ9_floorMod_7cf53_17 : decode cJ9_floorMod_7cf53 17 = .ok (.ireturn, 1) := by decide +kernel
theorem dJ9_floorMod_7cf53_18 : decode cJ9_floorMod_7cf53 18 = .ok (.iload_n 2, 1) := by decide +kernel
theorem dJ9_floorMod_7cf53_19 : decode cJ9_floorMod_7cf53 19 = .ok (.ireturn, 1) := by decide +kernel
theorem dX3_entry_0 : decode cX3_entry 0 = .ok (.iload_n 2, 1) := by decide +kernel
theorem dX3_entry_1 : decode cX3_entry 1 = .ok (.ifCond .lt 33, 3) := by decide +kernel
theorem dX3_entry_4 : decode cX3_entry 4 = .ok (.iload_n 2, 1) := by decide +kernel
theorem dX3_entry_5 : decode cX3_entry 5 = .ok (.iconst 4, 1) := by decide +kernel
theorem dX3_entry_6 : decode cX3_entry 6 = .ok (.if_icmp .ge 28, 3) := by decide +kernel
theorem dX3_entry_9 : decode cX3_entry 9 = .ok (.aload_n 0, 1) := by decide +kernel
theorem dX3_entry_10 : decode cX3_entry 10 = .ok (.getfield 11, 3) := by decide +kernel
theorem dX3_entry_13 : decode cX3_entry 13 = .ok (.iconst 4, 1) := by decide +kernel
theorem dX3_entry_14 : decode cX3_entry 14 = .ok (.aload_n 0, 1) := by decide +kernel
theorem dX3_entry_15 : decode cX3_entry 15 = .ok (.getfield 15, 3) := by decide +kernel
theorem dX3_entry_18 : decode cX3_entry 18 = .ok (.iconst 1, 1) := by decide +kernel
theorem dX3_entry_19 : decode cX3_entry 19 = .ok (.isub, 1) := by decide +kernel
theorem dX3_entry_20 : decode cX3_entry 20 = .ok (.iload_n 1, 1) := by decide +kernel
theorem dX3_entry_21 : decode cX3_entry 21 = .ok (.isub, 1) := by decide +kernel
theorem dX3_entry_22 : decode cX3_entry 22 = .ok (.bipush 40, 2) := by decide +kernel
theorem dX3_entry_24 : decode cX3_entry 24 = .ok (.invokestatic 25, 3) := by decide +kernel
theorem dX3_entry_27 : decode cX3_entry 27 = .ok (.imul, 1) := by decide +kernel
theorem dX3_entry_28 : decode cX3_entry 28 = .ok (.iload_n 2, 1) := by decide +kernel
theorem dX3_entry_29 : decode cX3_entry 29 = .ok (.iadd, 1) := by decide +kernel
theorem dX3_entry_30 : decode cX3_entry 30 = .ok (.iaload, 1) := by decide +kernel
theorem dX3_entry_31 : decode cX3_entry 31 = .ok (.goto 4, 3) := by decide +kernel
theorem dX3_entry_34 : decode cX3_entry 34 = .ok (.iconst (-1), 1) := by decide +kernel
theorem dX3_entry_35 : decode cX3_entry 35 = .ok (.ireturn, 1) := by decide +kernel
theorem dX11_log_0 : decode cX11_log 0 = .ok (.iload_n 1, 1) := by decide +kernel
theorem dX11_log_1 : decode cX11_log 1 = .ok (.ifCond .lt 23, 3) := by decide +kernel
theorem dX11_log_4 : decode cX11_log 4 = .ok (.iload_n 1, 1) := by decide +kernel
theorem dX11_log_5 : decode cX11_log 5 = .ok (.aload_n 0, 1) := by decide +kernel
theorem dX11_log_6 : decode cX11_log 6 = .ok (.getfield 42, 3) := by decide +kernel
theorem dX11_log_9 : decode cX11_log 9 = .ok (.invokevirtual 275, 3) := by decide +kernel
theorem dX11_log_12 : decode cX11_log 12 = .ok (.if_icmp .ge 12, 3) := by decide +kernel
theorem dX11_log_15 : decode cX11_log 15 = .ok (.iload_n 2, 1) := by decide +kernel
theorem dX11_log_16 : decode cX11_log 16 = .ok (.ifCond .lt 8, 3) := by decide +kernel
theorem dX11_log_19 : decode cX11_log 19 = .ok (.iload_n 2, 1) := by decide +kernel
theorem dX11_log_20 : decode cX11_log 20 = .ok (.iconst 3, 1) := by decide +kernel
theorem dX11_log_21 : decode cX11_log 21 = .ok (.if_icmp .le 5, 3) := by decide +kernel
theorem dX11_log_24 : decode cX11_log 24 = .ok (.iconst (-1), 1) := by decide +kernel
theorem dX11_log_25 : decode cX11_log 25 = .ok (.ireturn, 1) := by decide +kernel
theorem dX11_log_26 : decode cX11_log 26 = .ok (.aload_n 0, 1) := by decide +kernel
theorem dX11_log_27 : decode cX11_log 27 = .ok (.getfield 42, 3) := by decide +kernel
theorem dX11_log_30 : decode cX11_log 30 = .ok (.iload_n 1, 1) := by decide +kernel
theorem dX11_log_31 : decode cX11_log 31 = .ok (.iload_n 2, 1) := by decide +kernel
theorem dX11_log_32 : decode cX11_log 32 = .ok (.invokevirtual 276, 3) := by decide +kernel
theorem dX11_log_35 : decode cX11_log 35 = .ok (.ireturn, 1) := by decide +kernel
theorem dX6_costOfMove_0 : decode cX6_costOfMove 0 = .ok (.iload_n 0, 1) := by decide +kernel
theorem dX6_costOfMove_1 : decode cX6_costOfMove 1 = .ok (.iload_n 1, 1) := by decide +kernel
theorem dX6_costOfMove_2 : decode cX6_costOfMove 2 = .ok (.if_icmp .ne 7, 3) := by decide +kernel
theorem dX6_costOfMove_5 : decode cX6_costOfMove 5 = .ok (.iconst 1, 1) := by decide +kernel
theorem dX6_costOfMove_6 : decode cX6_costOfMove 6 = .ok (.goto 4, 3) := by decide +kernel
theorem dX6_costOfMove_9 : decode cX6_costOfMove 9 = .ok (.iload_n 2, 1) := by decide +kernel
theorem dX6_costOfMove_10 : decode cX6_costOfMove 10 = .ok (.ireturn, 1) := by decide +kernel
theorem dX6_costToLeave_0 : decode cX6_costToLeave 0 = .ok (.aload_n 0, 1) := by decide +kernel
theorem dX6_costToLeave_1 : decode cX6_costToLeave 1 = .ok (.getfield 49, 3) := by decide +kernel
theorem dX6_costToLeave_4 : decode cX6_costToLeave 4 = .ok (.iload_n 1, 1) := by decide +kernel
theorem dX6_costToLeave_5 : decode cX6_costToLeave 5 = .ok (.invokevirtual 72, 3) := by decide +kernel
theorem dX6_costToLeave_8 : decode cX6_costToLeave 8 = .ok (.istore_n 3, 1) := by decide +kernel
theorem dX6_costToLeave_9 : decode cX6_costToLeave 9 = .ok (.aload_n 0, 1) := by decide +kernel
theorem dX6_costToLeave_10 : decode cX6_costToLeave 10 = .ok (.getfield 49, 3) := by decide +kernel
theorem dX6_costToLeave_13 : decode cX6_costToLeave 13 = .ok (.iload_n 1, 1) := by decide +kernel
theorem dX6_costToLeave_14 : decode cX6_costToLeave 14 = .ok (.iconst 0, 1) := by decide +kernel
theorem dX6_costToLeave_15 : decode cX6_costToLeave 15 = .ok (.invokevirtual 75, 3) := by decide +kernel
theorem dX6_costToLeave_18 : decode cX6_costToLeave 18 = .ok (.istore 4, 2) := by decide +kernel
theorem dX6_costToLeave_20 : decode cX6_costToLeave 20 = .ok (.aload_n 0, 1) := by decide +kernel
theorem dX6_costToLeave_21 : decode cX6_costToLeave 21 = .ok (.getfield 49, 3) := by decide +kernel
theorem dX6_costToLeave_24 : decode cX6_costToLeave 24 = .ok (.iload_n 1, 1) := by decide +kernel
theorem dX6_costToLeave_25 : decode cX6_costToLeave 25 = .ok (.iconst 1, 1) := by decide +kernel
theorem dX6_costToLeave_26 : decode cX6_costToLeave 26 = .ok (.invokevirtual 75, 3) := by decide +kernel
theorem dX6_costToLeave_29 : decode cX6_costToLeave 29 = .ok (.istore 5, 2) := by decide +kernel
theorem dX6_costToLeave_31 : decode cX6_costToLeave 31 = .ok (.iload 4, 2) := by decide +kernel
theorem dX6_costToLeave_33 : decode cX6_costToLeave 33 = .ok (.iconst 1, 1) := by decide +kernel
theorem dX6_costToLeave_34 : decode cX6_costToLeave 34 = .ok (.iadd, 1) := by decide +kernel
theorem dX6_costToLeave_35 : decode cX6_costToLeave 35 = .ok (.aload_n 0, 1) := by decide +kernel
theorem dX6_costToLeave_36 : decode cX6_costToLeave 36 = .ok (.getfield 79, 3) := by decide +kernel
theorem dX6_costToLeave_39 : decode cX6_costToLeave 39 = .ok (.getfield 83, 3) := by decide +kernel
theorem dX6_costToLeave_42 : decode cX6_costToLeave 42 = .ok (.iconst 1, 1) := by decide +kernel
theorem dX6_costToLeave_43 : decode cX6_costToLeave 43 = .ok (.isub, 1) := by decide +kernel
theorem dX6_costToLeave_44 : decode cX6_costToLeave 44 = .ok (.iload 4, 2) := by decide +kernel
theorem dX6_costToLeave_46 : decode cX6_costToLeave 46 = .ok (.isub, 1) := by decide +kernel
theorem dX6_costToLeave_47 : decode cX6_costToLeave 47 = .ok (.invokestatic 88, 3) := by decide +kernel
theorem dX6_costToLeave_50 : decode cX6_costToLeave 50 = .ok (.istore 6, 2) := by decide +kernel
theorem dX6_costToLeave_52 : decode cX6_costToLeave 52 = .ok (.iload 5, 2) := by decide +kernel
theorem dX6_costToLeave_54 : decode cX6_costToLeave 54 = .ok (.iconst 1, 1) := by decide +kernel
theorem dX6_costToLeave_55 : decode cX6_costToLeave 55 = .ok (.iadd, 1) := by decide +kernel
theorem dX6_costToLeave_56 : decode cX6_costToLeave 56 = .ok (.aload_n 0, 1) := by decide +kernel
theorem dX6_costToLeave_57 : decode cX6_costToLeave 57 = .ok (.getfield 79, 3) := by decide +kernel
theorem dX6_costToLeave_60 : decode cX6_costToLeave 60 = .ok (.getfield 93, 3) := by decide +kernel
theorem dX6_costToLeave_63 : decode cX6_costToLeave 63 = .ok (.iconst 1, 1) := by decide +kernel
theorem dX6_costToLeave_64 : decode cX6_costToLeave 64 = .ok (.isub, 1) := by decide +kernel
theorem dX6_costToLeave_65 : decode cX6_costToLeave 65 = .ok (.iload 5, 2) := by decide +kernel
theorem dX6_costToLeave_67 : decode cX6_costToLeave 67 = .ok (.isub, 1) := by decide +kernel
theorem dX6_costToLeave_68 : decode cX6_costToLeave 68 = .ok (.invokestatic 88, 3) := by decide +kernel
theorem dX6_costToLeave_71 : decode cX6_costToLeave 71 = .ok (.istore 7, 2) := by decide +kernel
theorem dX6_costToLeave_73 : decode cX6_costToLeave 73 = .ok (.iload 6, 2) := by decide +kernel
theorem dX6_costToLeave_75 : decode cX6_costToLeave 75 = .ok (.iload_n 3, 1) := by decide +kernel
theorem dX6_costToLeave_76 : decode cX6_costToLeave 76 = .ok (.iconst 0, 1) := by decide +kernel
theorem dX6_costToLeave_77 : decode cX6_costToLeave 77 = .ok (.iload_n 2, 1) := by decide +kernel
theorem dX6_costToLeave_78 : decode cX6_costToLeave 78 = .ok (.invokestatic 96, 3) := by decide +kernel
theorem dX6_costToLeave_81 : decode cX6_costToLeave 81 = .ok (.imul, 1) := by decide +kernel
theorem dX6_costToLeave_82 : decode cX6_costToLeave 82 = .ok (.iload 7, 2) := by decide +kernel
theorem dX6_costToLeave_84 : decode cX6_costToLeave 84 = .ok (.iload_n 3, 1) := by decide +kernel
theorem dX6_costToLeave_85 : decode cX6_costToLeave 85 = .ok (.iconst 1, 1) := by decide +kernel
theorem dX6_costToLeave_86 : decode cX6_costToLeave 86 = .ok (.iload_n 2, 1) := by decide +kernel
theorem dX6_costToLeave_87 : decode cX6_costToLeave 87 = .ok (.invokestatic 96, 3) := by decide +kernel
theorem dX6_costToLeave_90 : decode cX6_costToLeave 90 = .ok (.imul, 1) := by decide +kernel
theorem dX6_costToLeave_91 : decode cX6_costToLeave 91 = .ok (.invokestatic 88, 3) := by decide +kernel
theorem dX6_costToLeave_94 : decode cX6_costToLeave 94 = .ok (.ireturn, 1) := by decide +kernel
theorem dX0_areOpposite_0 : decode cX0_areOpposite 0 = .ok (.aload_n 0, 1) := by decide +kernel
theorem dX0_areOpposite_1 : decode cX0_areOpposite 1 = .ok (.iload_n 1, 1) := by decide +kernel
theorem dX0_areOpposite_2 : decode cX0_areOpposite 2 = .ok (.iconst 0, 1) := by decide +kernel
theorem dX0_areOpposite_3 : decode cX0_areOpposite 3 = .ok (.invokevirtual 38, 3) := by decide +kernel
theorem dX0_areOpposite_6 : decode cX0_areOpposite 6 = .ok (.aload_n 0, 1) := by decide +kernel
theorem dX0_areOpposite_7 : decode cX0_areOpposite 7 = .ok (.iload_n 2, 1) := by decide +kernel
theorem dX0_areOpposite_8 : decode cX0_areOpposite 8 = .ok (.iconst 0, 1) := by decide +kernel
theorem dX0_areOpposite_9 : decode cX0_areOpposite 9 = .ok (.invokevirtual 38, 3) := by decide +kernel
theorem dX0_areOpposite_12 : decode cX0_areOpposite 12 = .ok (.ineg, 1) := by decide +kernel
theorem dX0_areOpposite_13 : decode cX0_areOpposite 13 = .ok (.if_icmp .ne 23, 3) := by decide +kernel
theorem dX0_areOpposite_16 : decode cX0_areOpposite 16 = .ok (.aload_n 0, 1) := by decide +kernel
theorem dX0_areOpposite_17 : decode cX0_areOpposite 17 = .ok (.iload_n 1, 1) := by decide +kernel
theorem dX0_areOpposite_18 : decode cX0_areOpposite 18 = .ok (.iconst 1, 1) := by decide +kernel
theorem dX0_areOpposite_19 : decode cX0_areOpposite 19 = .ok (.invokevirtual 38, 3) := by decide +kernel
theorem dX0_areOpposite_22 : decode cX0_areOpposite 22 = .ok (.aload_n 0, 1) := by decide +kernel
theorem dX0_areOpposite_23 : decode cX0_areOpposite 23 = .ok (.iload_n 2, 1) := by decide +kernel
theorem dX0_areOpposite_24 : decode cX0_areOpposite 24 = .ok (.iconst 1, 1) := by decide +kernel
theorem dX0_areOpposite_25 : decode cX0_areOpposite 25 = .ok (.invokevirtual 38, 3) := by decide +kernel
theorem dX0_areOpposite_28 : decode cX0_areOpposite 28 = .ok (.ineg, 1) := by decide +kernel
theorem dX0_areOpposite_29 : decode cX0_areOpposite 29 = .ok (.if_icmp .ne 7, 3) := by decide +kernel
theorem dX0_areOpposite_32 : decode cX0_areOpposite 32 = .ok (.iconst 1, 1) := by decide +kernel
theorem dX0_areOpposite_33 : decode cX0_areOpposite 33 = .ok (.goto 4, 3) := by decide +kernel
theorem dX0_areOpposite_36 : decode cX0_areOpposite 36 = .ok (.iconst 0, 1) := by decide +kernel
theorem dX0_areOpposite_37 : decode cX0_areOpposite 37 = .ok (.ireturn, 1) := by decide +kernel
theorem dX0_hasOpposite_0 : decode cX0_hasOpposite 0 = .ok (.iconst 0, 1) := by decide +kernel
theorem dX0_hasOpposite_1 : decode cX0_hasOpposite 1 = .ok (.istore_n 2, 1) := by decide +kernel
theorem dX0_hasOpposite_2 : decode cX0_hasOpposite 2 = .ok (.iload_n 2, 1) := by decide +kernel
theorem dX0_hasOpposite_3 : decode cX0_hasOpposite 3 = .ok (.aload_n 0, 1) := by decide +kernel
theorem dX0_hasOpposite_4 : decode cX0_hasOpposite 4 = .ok (.getfield 18, 3) := by decide +kernel
theorem dX0_hasOpposite_7 : decode cX0_hasOpposite 7 = .ok (.if_icmp .ge 25, 3) := by decide +kernel
theorem dX0_hasOpposite_10 : decode cX0_hasOpposite 10 = .ok (.iload_n 2, 1) := by decide +kernel
theorem dX0_hasOpposite_11 : decode cX0_hasOpposite 11 = .ok (.iload_n 1, 1) := by decide +kernel
theorem dX0_hasOpposite_12 : decode cX0_hasOpposite 12 = .ok (.if_icmp .eq 14, 3) := by decide +kernel
theorem dX0_hasOpposite_15 : decode cX0_hasOpposite 15 = .ok (.aload_n 0, 1) := by decide +kernel
theorem dX0_hasOpposite_16 : decode cX0_hasOpposite 16 = .ok (.iload_n 1, 1) := by decide +kernel
theorem dX0_hasOpposite_17 : decode cX0_hasOpposite 17 = .ok (.iload_n 2, 1) := by decide +kernel
theorem dX0_hasOpposite_18 : decode cX0_hasOpposite 18 = .ok (.invokevirtual 83, 3) := by decide +kernel
theorem dX0_hasOpposite_21 : decode cX0_hasOpposite 21 = .ok (.ifCond .eq 5, 3) := by decide +kernel
theorem dX0_hasOpposite_24 : decode cX0_hasOpposite 24 = .ok (.iconst 1, 1) := by decide +kernel
theorem dX0_hasOpposite_25 : decode cX0_hasOpposite 25 = .ok (.ireturn, 1) := by decide +kernel
theorem dX0_hasOpposite_26 : decode cX0_hasOpposite 26 = .ok (.iinc 2 1, 3) := by decide +kernel
theorem dX0_hasOpposite_29 : decode cX0_hasOpposite 29 = .ok (.goto (-27), 3) := by decide +kernel
theorem dX0_hasOpposite_32 : decode cX0_hasOpposite 32 = .ok (.iconst 0, 1) := by decide +kernel
theorem dX0_hasOpposite_33 : decode cX0_hasOpposite 33 = .ok (.ireturn, 1) := by decide +kernel
theorem dX6_costToMeet_0 : decode cX6_costToMeet 0 = .ok (.aload_n 0, 1) := by decide +kernel
theorem dX6_costToMeet_1 : decode cX6_costToMeet 1 = .ok (.iload_n 1, 1) := by decide +kernel
theorem dX6_costToMeet_2 : decode cX6_costToMeet 2 = .ok (.iload_n 2, 1) := by decide +kernel
theorem dX6_costToMeet_3 : decode cX6_costToMeet 3 = .ok (.invokevirtual 100, 3) := by decide +kernel
theorem dX6_costToMeet_6 : decode cX6_costToMeet 6 = .ok (.ifCond .ne 5, 3) := by decide +kernel
theorem dX6_costToMeet_9 : decode cX6_costToMeet 9 = .ok (.iconst (-1), 1) := by decide +kernel
theorem dX6_costToMeet_10 : decode cX6_costToMeet 10 = .ok (.ireturn, 1) := by decide +kernel
theorem dX6_costToMeet_11 : decode cX6_costToMeet 11 = .ok (.aload_n 0, 1) := by decide +kernel
theorem dX6_costToMeet_12 : decode cX6_costToMeet 12 = .ok (.iload_n 1, 1) := by decide +kernel
theorem dX6_costToMeet_13 : decode cX6_costToMeet 13 = .ok (.invokevirtual 72, 3) := by decide +kernel
theorem dX6_costToMeet_16 : decode cX6_costToMeet 16 = .ok (.istore 4, 2) := by decide +kernel
theorem dX6_costToMeet_18 : decode cX6_costToMeet 18 = .ok (.aload_n 0, 1) := by decide +kernel
theorem dX6_costToMeet_19 : decode cX6_costToMeet 19 = .ok (.iload_n 1, 1) := by decide +kernel
theorem dX6_costToMeet_20 : decode cX6_costToMeet 20 = .ok (.iconst 0, 1) := by decide +kernel
theorem dX6_costToMeet_21 : decode cX6_costToMeet 21 = .ok (.invokevirtual 75, 3) := by decide +kernel
theorem dX6_costToMeet_24 : decode cX6_costToMeet 24 = .ok (.aload_n 0, 1) := by decide +kernel
theorem dX6_costToMeet_25 : decode cX6_costToMeet 25 = .ok (.iload_n 2, 1) := by decide +kernel
theorem dX6_costToMeet_26 : decode cX6_costToMeet 26 = .ok (.iconst 0, 1) := by decide +kernel
theorem dX6_costToMeet_27 : decode cX6_costToMeet 27 = .ok (.invokevirtual 75, 3) := by decide +kernel
theorem dX6_costToMeet_30 : decode cX6_costToMeet 30 = .ok (.isub, 1) := by decide +kernel
theorem dX6_costToMeet_31 : decode cX6_costToMeet 31 = .ok (.invokestatic 104, 3) := by decide +kernel
theorem dX6_costToMeet_34 : decode cX6_costToMeet 34 = .ok (.iload 4, 2) := by decide +kernel
theorem dX6_costToMeet_36 : decode cX6_costToMeet 36 = .ok (.iconst 0, 1) := by decide +kernel
theorem dX6_costToMeet_37 : decode cX6_costToMeet 37 = .ok (.iload_n 3, 1) := by decide +kernel
theorem dX6_costToMeet_38 : decode cX6_costToMeet 38 = .ok (.invokestatic 96, 3) := by decide +kernel
theorem dX6_costToMeet_41 : decode cX6_costToMeet 41 = .ok (.imul, 1) := by decide +kernel
theorem dX6_costToMeet_42 : decode cX6_costToMeet 42 = .ok (.aload_n 0, 1) := by decide +kernel
theorem dX6_costToMeet_43 : decode cX6_costToMeet 43 = .ok (.iload_n 1, 1) := by decide +kernel
theorem dX6_costToMeet_44 : decode cX6_costToMeet 44 = .ok (.iconst 1, 1) := by decide +kernel
theorem dX6_costToMeet_45 : decode cX6_costToMeet 45 = .ok (.invokevirtual 75, 3) := by decide +kernel
theorem dX6_costToMeet_48 : decode cX6_costToMeet 48 = .ok (.aload_n 0, 1) := by decide +kernel
theorem dX6_costToMeet_49 : decode cX6_costToMeet 49 = .ok (.iload_n 2, 1) := by decide +kernel
theorem dX6_costToMeet_50 : decode cX6_costToMeet 50 = .ok (.iconst 1, 1) := by decide +kernel
theorem dX6_costToMeet_51 : decode cX6_costToMeet 51 = .ok (.invokevirtual 75, 3) := by decide +kernel
theorem dX6_costToMeet_54 : decode cX6_costToMeet 54 = .ok (.isub, 1) := by decide +kernel
theorem dX6_costToMeet_55 : decode cX6_costToMeet 55 = .ok (.invokestatic 104, 3) := by decide +kernel
theorem dX6_costToMeet_58 : decode cX6_costToMeet 58 = .ok (.iload 4, 2) := by decide +kernel
theorem dX6_costToMeet_60 : decode cX6_costToMeet 60 = .ok (.iconst 1, 1) := by decide +kernel
theorem dX6_costToMeet_61 : decode cX6_costToMeet 61 = .ok (.iload_n 3, 1) := by decide +kernel
theorem dX6_costToMeet_62 : decode cX6_costToMeet 62 = .ok (.invokestatic 96, 3) := by decide +kernel
theorem dX6_costToMeet_65 : decode cX6_costToMeet 65 = .ok (.imul, 1) := by decide +kernel
theorem dX6_costToMeet_66 : decode cX6_costToMeet 66 = .ok (.iadd, 1) := by decide +kernel
theorem dX6_costToMeet_67 : decode cX6_costToMeet 67 = .ok (.ireturn, 1) := by decide +kernel
theorem dX6_weigh_0 : decode cX6_weigh 0 = .ok (.aload_n 1, 1) := by decide +kernel
theorem dX6_weigh_1 : decode cX6_weigh 1 = .ok (.getfield 49, 3) := by decide +kernel
theorem dX6_weigh_4 : decode cX6_weigh 4 = .ok (.astore_n 3, 1) := by decide +kernel
theorem dX6_weigh_5 : decode cX6_weigh 5 = .ok (.aload_n 0, 1) := by decide +kernel
theorem dX6_weigh_6 : decode cX6_weigh 6 = .ok (.iconst 0, 1) := by decide +kernel
theorem dX6_weigh_7 : decode cX6_weigh 7 = .ok (.putfield 38, 3) := by decide +kernel
theorem dX6_weigh_10 : decode cX6_weigh 10 = .ok (.aload_n 0, 1) := by decide +kernel
theorem dX6_weigh_11 : decode cX6_weigh 11 = .ok (.iconst 0, 1) := by decide +kernel
theorem dX6_weigh_12 : decode cX6_weigh 12 = .ok (.putfield 34, 3) := by decide +kernel
theorem dX6_weigh_15 : decode cX6_weigh 15 = .ok (.iconst 0, 1) := by decide +kernel
theorem dX6_weigh_16 : decode cX6_weigh 16 = .ok (.istore 4, 2) := by decide +kernel
theorem dX6_weigh_18 : decode cX6_weigh 18 = .ok (.iload 4, 2) := by decide +kernel
theorem dX6_weigh_20 : decode cX6_weigh 20 = .ok (.aload_n 3, 1) := by decide +kernel
theorem dX6_weigh_21 : decode cX6_weigh 21 = .ok (.getfield 55, 3) := by decide +kernel
theorem dX6_weigh_24 : decode cX6_weigh 24 = .ok (.if_icmp .ge 97, 3) := by decide +kernel
theorem dX6_weigh_27 : decode cX6_weigh 27 = .ok (.iload 4, 2) := by decide +kernel
theorem dX6_weigh_29 : decode cX6_weigh 29 = .ok (.bipush 12, 2) := by decide +kernel
theorem dX6_weigh_31 : decode cX6_weigh 31 = .ok (.if_icmp .ge 90, 3) := by decide +kernel
theorem dX6_weigh_34 : decode cX6_weigh 34 = .ok (.aload_n 0, 1) := by decide +kernel
theorem dX6_weigh_35 : decode cX6_weigh 35 = .ok (.getfield 9, 3) := by decide +kernel
theorem dX6_weigh_38 : decode cX6_weigh 38 = .ok (.iload 4, 2) := by decide +kernel
theorem dX6_weigh_40 : decode cX6_weigh 40 = .ok (.iload 4, 2) := by decide +kernel
theorem dX6_weigh_42 : decode cX6_weigh 42 = .ok (.iastore, 1) := by decide +kernel
theorem dX6_weigh_43 : decode cX6_weigh 43 = .ok (.aload_n 0, 1) := by decide +kernel
theorem dX6_weigh_44 : decode cX6_weigh 44 = .ok (.getfield 15, 3) := by decide +kernel
theorem dX6_weigh_47 : decode cX6_weigh 47 = .ok (.iload 4, 2) := by decide +kernel
theorem dX6_weigh_49 : decode cX6_weigh 49 = .ok (.aload_n 1, 1) := by decide +kernel
theorem dX6_weigh_50 : decode cX6_weigh 50 = .ok (.iload 4, 2) := by decide +kernel
theorem dX6_weigh_52 : decode cX6_weigh 52 = .ok (.iload_n 2, 1) := by decide +kernel
theorem dX6_weigh_53 : decode cX6_weigh 53 = .ok (.invokestatic 60, 3) := by decide +kernel
theorem dX6_weigh_56 : decode cX6_weigh 56 = .ok (.iastore, 1) := by decide +kernel
theorem dX6_weigh_57 : decode cX6_weigh 57 = .ok (.aload_n 3, 1) := by decide +kernel
theorem dX6_weigh_58 : decode cX6_weigh 58 = .ok (.iload 4, 2) := by decide +kernel
theorem dX6_weigh_60 : decode cX6_weigh 60 = .ok (.invokevirtual 64, 3) := by decide +kernel
theorem dX6_weigh_63 : decode cX6_weigh 63 = .ok (.ifCond .eq 36, 3) := by decide +kernel
theorem dX6_weigh_66 : decode cX6_weigh 66 = .ok (.aload_n 0, 1) := by decide +kernel
theorem dX6_weigh_67 : decode cX6_weigh 67 = .ok (.getfield 34, 3) := by decide +kernel
theorem dX6_weigh_70 : decode cX6_weigh 70 = .ok (.bipush 12, 2) := by decide +kernel
theorem dX6_weigh_72 : decode cX6_weigh 72 = .ok (.if_icmp .ge 27, 3) := by decide +kernel
theorem dX6_weigh_75 : decode cX6_weigh 75 = .ok (.aload_n 0, 1) := by decide +kernel
theorem dX6_weigh_76 : decode cX6_weigh 76 = .ok (.getfield 18, 3) := by decide +kernel
theorem dX6_weigh_79 : decode cX6_weigh 79 = .ok (.aload_n 0, 1) := by decide +kernel
theorem dX6_weigh_80 : decode cX6_weigh 80 = .ok (.getfield 34, 3) := by decide +kernel
theorem dX6_weigh_83 : decode cX6_weigh 83 = .ok (.iload 4, 2) := by decide +kernel
theorem dX6_weigh_85 : decode cX6_weigh 85 = .ok (.iastore, 1) := by decide +kernel
theorem dX6_weigh_86 : decode cX6_weigh 86 = .ok (.aload_n 0, 1) := by decide +kernel
theorem dX6_weigh_87 : decode cX6_weigh 87 = .ok (.dup, 1) := by decide +kernel
theorem dX6_weigh_88 : decode cX6_weigh 88 = .ok (.getfield 34, 3) := by decide +kernel
theorem dX6_weigh_91 : decode cX6_weigh 91 = .ok (.iconst 1, 1) := by decide +kernel
theorem dX6_weigh_92 : decode cX6_weigh 92 = .ok (.iadd, 1) := by decide +kernel
theorem dX6_weigh_93 : decode cX6_weigh 93 = .ok (.putfield 34, 3) := by decide +kernel
theorem dX6_weigh_96 : decode cX6_weigh 96 = .ok (.goto 19, 3) := by decide +kernel
theorem dX6_weigh_99 : decode cX6_weigh 99 = .ok (.aload_n 0, 1) := by decide +kernel
theorem dX6_weigh_100 : decode cX6_weigh 100 = .ok (.dup, 1) := by decide +kernel
theorem dX6_weigh_101 : decode cX6_weigh 101 = .ok (.getfield 38, 3) := by decide +kernel
theorem dX6_weigh_104 : decode cX6_weigh 104 = .ok (.aload_n 0, 1) := by decide +kernel
theorem dX6_weigh_105 : decode cX6_weigh 105 = .ok (.getfield 15, 3) := by decide +kernel
theorem dX6_weigh_108 : decode cX6_weigh 108 = .ok (.iload 4, 2) := by decide +kernel
theorem dX6_weigh_110 : decode cX6_weigh 110 = .ok (.iaload, 1) := by decide +kernel
theorem dX6_weigh_111 : decode cX6_weigh 111 = .ok (.iadd, 1) := by decide +kernel
theorem dX6_weigh_112 : decode cX6_weigh 112 = .ok (.putfield 38, 3) := by decide +kernel
theorem dX6_weigh_115 : decode cX6_weigh 115 = .ok (.iinc 4 1, 3) := by decide +kernel
theorem dX6_weigh_118 : decode cX6_weigh 118 = .ok (.goto (-100), 3) := by decide +kernel
theorem dX6_weigh_121 : decode cX6_weigh 121 = .ok (.iconst 0, 1) := by decide +kernel
theorem dX6_weigh_122 : decode cX6_weigh 122 = .ok (.istore 4, 2) := by decide +kernel
theorem dX6_weigh_124 : decode cX6_weigh 124 = .ok (.iload 4, 2) := by decide +kernel
theorem dX6_weigh_126 : decode cX6_weigh 126 = .ok (.aload_n 0, 1) := by decide +kernel
theorem dX6_weigh_127 : decode cX6_weigh 127 = .ok (.getfield 34, 3) := by decide +kernel
theorem dX6_weigh_130 : decode cX6_weigh 130 = .ok (.if_icmp .ge 62, 3) := by decide +kernel
theorem dX6_weigh_133 : decode cX6_weigh 133 = .ok (.iload 4, 2) := by decide +kernel
theorem dX6_weigh_135 : decode cX6_weigh 135 = .ok (.iconst 1, 1) := by decide +kernel
theorem dX6_weigh_136 : decode cX6_weigh 136 = .ok (.iadd, 1) := by decide +kernel
theorem dX6_weigh_137 : decode cX6_weigh 137 = .ok (.istore 5, 2) := by decide +kernel
theorem dX6_weigh_139 : decode cX6_weigh 139 = .ok (.iload 5, 2) := by decide +kernel
theorem dX6_weigh_141 : decode cX6_weigh 141 = .ok (.aload_n 0, 1) := by decide +kernel
theorem dX6_weigh_142 : decode cX6_weigh 142 = .ok (.getfield 34, 3) := by decide +kernel
theorem dX6_weigh_145 : decode cX6_weigh 145 = .ok (.if_icmp .ge 41, 3) := by decide +kernel
theorem dX6_weigh_148 : decode cX6_weigh 148 = .ok (.aload_n 0, 1) := by decide +kernel
theorem dX6_weigh_149 : decode cX6_weigh 149 = .ok (.getfield 21, 3) := by decide +kernel
theorem dX6_weigh_152 : decode cX6_weigh 152 = .ok (.bipush 12, 2) := by decide +kernel
theorem dX6_weigh_154 : decode cX6_weigh 154 = .ok (.iload 4, 2) := by decide +kernel
theorem dX6_weigh_156 : decode cX6_weigh 156 = .ok (.imul, 1) := by decide +kernel
theorem dX6_weigh_157 : decode cX6_weigh 157 = .ok (.iload 5, 2) := by decide +kernel
theorem dX6_weigh_159 : decode cX6_weigh 159 = .ok (.iadd, 1) := by decide +kernel
theorem dX6_weigh_160 : decode cX6_weigh 160 = .ok (.aload_n 3, 1) := by decide +kernel
theorem dX6_weigh_161 : decode cX6_weigh 161 = .ok (.aload_n 0, 1) := by decide +kernel
theorem dX6_weigh_162 : decode cX6_weigh 162 = .ok (.getfield 18, 3) := by decide +kernel
theorem dX6_weigh_165 : decode cX6_weigh 165 = .ok (.iload 4, 2) := by decide +kernel
theorem dX6_weigh_167 : decode cX6_weigh 167 = .ok (.iaload, 1) := by decide +kernel
theorem dX6_weigh_168 : decode cX6_weigh 168 = .ok (.aload_n 0, 1) := by decide +kernel
theorem dX6_weigh_169 : decode cX6_weigh 169 = .ok (.getfield 18, 3) := by decide +kernel
theorem dX6_weigh_172 : decode cX6_weigh 172 = .ok (.iload 5, 2) := by decide +kernel
theorem dX6_weigh_174 : decode cX6_weigh 174 = .ok (.iaload, 1) := by decide +kernel
theorem dX6_weigh_175 : decode cX6_weigh 175 = .ok (.iload_n 2, 1) := by decide +kernel
theorem dX6_weigh_176 : decode cX6_weigh 176 = .ok (.invokestatic 68, 3) := by decide +kernel
theorem dX6_weigh_179 : decode cX6_weigh 179 = .ok (.iastore, 1) := by decide +kernel
theorem dX6_weigh_180 : decode cX6_weigh 180 = .ok (.iinc 5 1, 3) := by decide +kernel
theorem dX6_weigh_183 : decode cX6_weigh 183 = .ok (.goto (-44), 3) := by decide +kernel
theorem dX6_weigh_186 : decode cX6_weigh 186 = .ok (.iinc 4 1, 3) := by decide +kernel
theorem dX6_weigh_189 : decode cX6_weigh 189 = .ok (.goto (-65), 3) := by decide +kernel
theorem dX6_weigh_192 : decode cX6_weigh 192 = .ok (.return_, 1) := by decide +kernel
theorem dX0_alikeInColumn_0 : decode cX0_alikeInColumn 0 = .ok (.iconst 0, 1) := by decide +kernel
theorem dX0_alikeInColumn_1 : decode cX0_alikeInColumn 1 = .ok (.istore_n 2, 1) := by decide +kernel
theorem dX0_alikeInColumn_2 : decode cX0_alikeInColumn 2 = .ok (.iconst 0, 1) := by decide +kernel
theorem dX0_alikeInColumn_3 : decode cX0_alikeInColumn 3 = .ok (.istore_n 3, 1) := by decide +kernel
theorem dX0_alikeInColumn_4 : decode cX0_alikeInColumn 4 = .ok (.iload_n 3, 1) := by decide +kernel
theorem dX0_alikeInColumn_5 : decode cX0_alikeInColumn 5 = .ok (.aload_n 0, 1) := by decide +kernel
theorem dX0_alikeInColumn_6 : decode cX0_alikeInColumn 6 = .ok (.getfield 18, 3) := by decide +kernel
theorem dX0_alikeInColumn_9 : decode cX0_alikeInColumn 9 = .ok (.if_icmp .ge 57, 3) := by decide +kernel
theorem dX0_alikeInColumn_12 : decode cX0_alikeInColumn 12 = .ok (.aload_n 0, 1) := by decide +kernel
theorem dX0_alikeInColumn_13 : decode cX0_alikeInColumn 13 = .ok (.iload_n 3, 1) := by decide +kernel
theorem dX0_alikeInColumn_14 : decode cX0_alikeInColumn 14 = .ok (.iconst 0, 1) := by decide +kernel
theorem dX0_alikeInColumn_15 : decode cX0_alikeInColumn 15 = .ok (.invokevirtual 45, 3) := by decide +kernel
theorem dX0_alikeInColumn_18 : decode cX0_alikeInColumn 18 = .ok (.aload_n 0, 1) := by decide +kernel
theorem dX0_alikeInColumn_19 : decode cX0_alikeInColumn 19 = .ok (.iload_n 1, 1) := by decide +kernel
theorem dX0_alikeInColumn_20 : decode cX0_alikeInColumn 20 = .ok (.iconst 0, 1) := by decide +kernel
theorem dX0_alikeInColumn_21 : decode cX0_alikeInColumn 21 = .ok (.invokevirtual 45, 3) := by decide +kernel
theorem dX0_alikeInColumn_24 : decode cX0_alikeInColumn 24 = .ok (.if_icmp .ne 36, 3) := by decide +kernel
theorem dX0_alikeInColumn_27 : decode cX0_alikeInColumn 27 = .ok (.aload_n 0, 1) := by decide +kernel
theorem dX0_alikeInColumn_28 : decode cX0_alikeInColumn 28 = .ok (.iload_n 3, 1) := by decide +kernel
theorem dX0_alikeInColumn_29 : decode cX0_alikeInColumn 29 = .ok (.iconst 0, 1) := by decide +kernel
theorem dX0_alikeInColumn_30 : decode cX0_alikeInColumn 30 = .ok (.invokevirtual 38, 3) := by decide +kernel
theorem dX0_alikeInColumn_33 : decode cX0_alikeInColumn 33 = .ok (.aload_n 0, 1) := by decide +kernel
theorem dX0_alikeInColumn_34 : decode cX0_alikeInColumn 34 = .ok (.iload_n 1, 1) := by decide +kernel
theorem dX0_alikeInColumn_35 : decode cX0_alikeInColumn 35 = .ok (.iconst 0, 1) := by decide +kernel
theorem dX0_alikeInColumn_36 : decode cX0_alikeInColumn 36 = .ok (.invokevirtual 38, 3) := by decide +kernel
theorem dX0_alikeInColumn_39 : decode cX0_alikeInColumn 39 = .ok (.if_icmp .ne 21, 3) := by decide +kernel
theorem dX0_alikeInColumn_42 : decode cX0_alikeInColumn 42 = .ok (.aload_n 0, 1) := by decide +kernel
theorem dX0_alikeInColumn_43 : decode cX0_alikeInColumn 43 = .ok (.iload_n 3, 1) := by decide +kernel
theorem dX0_alikeInColumn_44 : decode cX0_alikeInColumn 44 = .ok (.iconst 1, 1) := by decide +kernel
theorem dX0_alikeInColumn_45 : decode cX0_alikeInColumn 45 = .ok (.invokevirtual 38, 3) := by decide +kernel
theorem dX0_alikeInColumn_48 : decode cX0_alikeInColumn 48 = .ok (.aload_n 0, 1) := by decide +kernel
theorem dX0_alikeInColumn_49 : decode cX0_alikeInColumn 49 = .ok (.iload_n 1, 1) := by decide +kernel
theorem dX0_alikeInColumn_50 : decode cX0_alikeInColumn 50 = .ok (.iconst 1, 1) := by decide +kernel
theorem dX0_alikeInColumn_51 : decode cX0_alikeInColumn 51 = .ok (.invokevirtual 38, 3) := by decide +kernel
theorem dX0_alikeInColumn_54 : decode cX0_alikeInColumn 54 = .ok (.if_icmp .ne 6, 3) := by decide +kernel
theorem dX0_alikeInColumn_57 : decode cX0_alikeInColumn 57 = .ok (.iinc 2 1, 3) := by decide +kernel
theorem dX0_alikeInColumn_60 : decode cX0_alikeInColumn 60 = .ok (.iinc 3 1, 3) := by decide +kernel
theorem dX0_alikeInColumn_63 : decode cX0_alikeInColumn 63 = .ok (.goto (-59), 3) := by decide +kernel
theorem dX0_alikeInColumn_66 : decode cX0_alikeInColumn 66 = .ok (.iload_n 2, 1) := by decide +kernel
theorem dX0_alikeInColumn_67 : decode cX0_alikeInColumn 67 = .ok (.ireturn, 1) := by decide +kernel
theorem dJ9_max_7cf53_0 : decode cJ9_max_7cf53 0 = .ok (.iload_n 0, 1) := by decide +kernel
theorem dJ9_max_7cf53_1 : decode cJ9_max_7cf53 1 = .ok (.iload_n 1, 1) := by decide +kernel
theorem dJ9_max_7cf53_2 : decode cJ9_max_7cf53 2 = .ok (.if_icmp .lt 7, 3) := by decide +kernel
theorem dJ9_max_7cf53_5 : decode cJ9_max_7cf53 5 = .ok (.iload_n 0, 1) := by decide +kernel
theorem dJ9_max_7cf53_6 : decode cJ9_max_7cf53 6 = .ok (.goto 4, 3) := by decide +kernel
theorem dJ9_max_7cf53_9 : decode cJ9_max_7cf53 9 = .ok (.iload_n 1, 1) := by decide +kernel
theorem dJ9_max_7cf53_10 : decode cJ9_max_7cf53 10 = .ok (.ireturn, 1) := by decide +kernel
theorem dX0_mostAlike_0 : decode cX0_mostAlike 0 = .ok (.iconst 0, 1) := by decide +kernel
theorem dX0_mostAlike_1 : decode cX0_mostAlike 1 = .ok (.istore_n 1, 1) := by decide +kernel
theorem dX0_mostAlike_2 : decode cX0_mostAlike 2 = .ok (.iconst 0, 1) := by decide +kernel
theorem dX0_mostAlike_3 : decode cX0_mostAlike 3 = .ok (.istore_n 2, 1) := by decide +kernel
theorem dX0_mostAlike_4 : decode cX0_mostAlike 4 = .ok (.iload_n 2, 1) := by decide +kernel
theorem dX0_mostAlike_5 : decode cX0_mostAlike 5 = .ok (.aload_n 0, 1) := by decide +kernel
theorem dX0_mostAlike_6 : decode cX0_mostAlike 6 = .ok (.getfield 18, 3) := by decide +kernel
theorem dX0_mostAlike_9 : decode cX0_mostAlike 9 = .ok (.if_icmp .ge 19, 3) := by decide +kernel
theorem dX0_mostAlike_12 : decode cX0_mostAlike 12 = .ok (.iload_n 1, 1) := by decide +kernel
theorem dX0_mostAlike_13 : decode cX0_mostAlike 13 = .ok (.aload_n 0, 1) := by decide +kernel
theorem dX0_mostAlike_14 : decode cX0_mostAlike 14 = .ok (.iload_n 2, 1) := by decide +kernel
theorem dX0_mostAlike_15 : decode cX0_mostAlike 15 = .ok (.invokevirtual 90, 3) := by decide +kernel
theorem dX0_mostAlike_18 : decode cX0_mostAlike 18 = .ok (.invokestatic 70, 3) := by decide +kernel
theorem dX0_mostAlike_21 : decode cX0_mostAlike 21 = .ok (.istore_n 1, 1) := by decide +kernel
theorem dX0_mostAlike_22 : decode cX0_mostAlike 22 = .ok (.iinc 2 1, 3) := by decide +kernel
theorem dX0_mostAlike_25 : decode cX0_mostAlike 25 = .ok (.goto (-21), 3) := by decide +kernel
theorem dX0_mostAlike_28 : decode cX0_mostAlike 28 = .ok (.iload_n 1, 1) := by decide +kernel
theorem dX0_mostAlike_29 : decode cX0_mostAlike 29 = .ok (.ireturn, 1) := by decide +kernel
theorem dX0_columnOfMostAlike_0 : decode cX0_columnOfMostAlike 0 = .ok (.aload_n 0, 1) := by decide +kernel
theorem dX0_columnOfMostAlike_1 : decode cX0_columnOfMostAlike 1 = .ok (.invokevirtual 93, 3) := by decide +kernel
theorem dX0_columnOfMostAlike_4 : decode cX0_columnOfMostAlike 4 = .ok (.istore_n 1, 1) := by decide +kernel
theorem dX0_columnOfMostAlike_5 : decode cX0_columnOfMostAlike 5 = .ok (.iconst (-1), 1) := by decide +kernel
theorem dX0_columnOfMostAlike_6 : decode cX0_columnOfMostAlike 6 = .ok (.istore_n 2, 1) := by decide +kernel
theorem dX0_columnOfMostAlike_7 : decode cX0_columnOfMostAlike 7 = .ok (.iconst 0, 1) := by decide +kernel
theorem dX0_columnOfMostAlike_8 : decode cX0_columnOfMostAlike 8 = .ok (.istore_n 3, 1) := by decide +kernel
theorem dX0_columnOfMostAlike_9 : decode cX0_columnOfMostAlike 9 = .ok (.iload_n 3, 1) := by decide +kernel
theorem dX0_columnOfMostAlike_10 : decode cX0_columnOfMostAlike 10 = .ok (.aload_n 0, 1) := by decide +kernel
theorem dX0_columnOfMostAlike_11 : decode cX0_columnOfMostAlike 11 = .ok (.getfield 18, 3) := by decide +kernel
theorem dX0_columnOfMostAlike_14 : decode cX0_columnOfMostAlike 14 = .ok (.if_icmp .ge 40, 3) := by decide +kernel
theorem dX0_columnOfMostAlike_17 : decode cX0_columnOfMostAlike 17 = .ok (.aload_n 0, 1) := by decide +kernel
theorem dX0_columnOfMostAlike_18 : decode cX0_columnOfMostAlike 18 = .ok (.iload_n 3, 1) := by decide +kernel
theorem dX0_columnOfMostAlike_19 : decode cX0_columnOfMostAlike 19 = .ok (.invokevirtual 90, 3) := by decide +kernel
theorem dX0_columnOfMostAlike_22 : decode cX0_columnOfMostAlike 22 = .ok (.iload_n 1, 1) := by decide +kernel
theorem dX0_columnOfMostAlike_23 : decode cX0_columnOfMostAlike 23 = .ok (.if_icmp .ne 25, 3) := by decide +kernel
theorem dX0_columnOfMostAlike_26 : decode cX0_columnOfMostAlike 26 = .ok (.iload_n 2, 1) := by decide +kernel
theorem dX0_columnOfMostAlike_27 : decode cX0_columnOfMostAlike 27 = .ok (.iconst (-1), 1) := by decide +kernel
theorem dX0_columnOfMostAlike_28 : decode cX0_columnOfMostAlike 28 = .ok (.if_icmp .eq 13, 3) := by decide +kernel
theorem dX0_columnOfMostAlike_31 : decode cX0_columnOfMostAlike 31 = .ok (.aload_n 0, 1) := by decide +kernel
theorem dX0_columnOfMostAlike_32 : decode cX0_columnOfMostAlike 32 = .ok (.iload_n 3, 1) := by decide +kernel
theorem dX0_columnOfMostAlike_33 : decode cX0_columnOfMostAlike 33 = .ok (.iconst 0, 1) := by decide +kernel
theorem dX0_columnOfMostAlike_34 : decode cX0_columnOfMostAlike 34 = .ok (.invokevirtual 45, 3) := by decide +kernel
theorem dX0_columnOfMostAlike_37 : decode cX0_columnOfMostAlike 37 = .ok (.iload_n 2, 1) := by decide +kernel
theorem dX0_columnOfMostAlike_38 : decode cX0_columnOfMostAlike 38 = .ok (.if_icmp .ge 10, 3) := by decide +kernel
theorem dX0_columnOfMostAlike_41 : decode cX0_columnOfMostAlike 41 = .ok (.aload_n 0, 1) := by decide +kernel
theorem dX0_columnOfMostAlike_42 : decode cX0_columnOfMostAlike 42 = .ok (.iload_n 3, 1) := by decide +kernel
theorem dX0_columnOfMostAlike_43 : decode cX0_columnOfMostAlike 43 = .ok (.iconst 0, 1) := by decide +kernel
theorem dX0_columnOfMostAlike_44 : decode cX0_columnOfMostAlike 44 = .ok (.invokevirtual 45, 3) := by decide +kernel
theorem dX0_columnOfMostAlike_47 : decode cX0_columnOfMostAlike 47 = .ok (.istore_n 2, 1) := by decide +kernel
theorem dX0_columnOfMostAlike_48 : decode cX0_columnOfMostAlike 48 = .ok (.iinc 3 1, 3) := by decide +kernel
theorem dX0_columnOfMostAlike_51 : decode cX0_columnOfMostAlike 51 = .ok (.goto (-42), 3) := by decide +kernel
theorem dX0_columnOfMostAlike_54 : decode cX0_columnOfMostAlike 54 = .ok (.iload_n 2, 1) := by decide +kernel
theorem dX0_columnOfMostAlike_55 : decode cX0_columnOfMostAlike 55 = .ok (.ireturn, 1) := by decide +kernel
theorem dX0_greatestForce_0 : decode cX0_greatestForce 0 = .ok (.iconst 0, 1) := by decide +kernel
theorem dX0_greatestForce_1 : decode cX0_greatestForce 1 = .ok (.istore_n 2, 1) := by decide +kernel
theorem dX0_greatestForce_2 : decode cX0_greatestForce 2 = .ok (.iconst 0, 1) := by decide +kernel
theorem dX0_greatestForce_3 : decode cX0_greatestForce 3 = .ok (.istore_n 3, 1) := by decide +kernel
theorem dX0_greatestForce_4 : decode cX0_greatestForce 4 = .ok (.iload_n 3, 1) := by decide +kernel
theorem dX0_greatestForce_5 : decode cX0_greatestForce 5 = .ok (.aload_n 0, 1) := by decide +kernel
theorem dX0_greatestForce_6 : decode cX0_greatestForce 6 = .ok (.getfield 18, 3) := by decide +kernel
theorem dX0_greatestForce_9 : decode cX0_greatestForce 9 = .ok (.if_icmp .ge 23, 3) := by decide +kernel
theorem dX0_greatestForce_12 : decode cX0_greatestForce 12 = .ok (.iload_n 2, 1) := by decide +kernel
theorem dX0_greatestForce_13 : decode cX0_greatestForce 13 = .ok (.aload_n 0, 1) := by decide +kernel
theorem dX0_greatestForce_14 : decode cX0_greatestForce 14 = .ok (.iload_n 3, 1) := by decide +kernel
theorem dX0_greatestForce_15 : decode cX0_greatestForce 15 = .ok (.aload_n 1, 1) := by decide +kernel
theorem dX0_greatestForce_16 : decode cX0_greatestForce 16 = .ok (.invokevirtual 66, 3) := by decide +kernel
theorem dX0_greatestForce_19 : decode cX0_greatestForce 19 = .ok (.invokestatic 61, 3) := by decide +kernel
theorem dX0_greatestForce_22 : decode cX0_greatestForce 22 = .ok (.invokestatic 70, 3) := by decide +kernel
theorem dX0_greatestForce_25 : decode cX0_greatestForce 25 = .ok (.istore_n 2, 1) := by decide +kernel
theorem dX0_greatestForce_26 : decode cX0_greatestForce 26 = .ok (.iinc 3 1, 3) := by decide +kernel
theorem dX0_greatestForce_29 : decode cX0_greatestForce 29 = .ok (.goto (-25), 3) := by decide +kernel
theorem dX0_greatestForce_32 : decode cX0_greatestForce 32 = .ok (.iload_n 2, 1) := by decide +kernel
theorem dX0_greatestForce_33 : decode cX0_greatestForce 33 = .ok (.ireturn, 1) := by decide +kernel
theorem dX0_mostForced_0 : decode cX0_mostForced 0 = .ok (.aload_n 0, 1) := by decide +kernel
theorem dX0_mostForced_1 : decode cX0_mostForced 1 = .ok (.aload_n 1, 1) := by decide +kernel
theorem dX0_mostForced_2 : decode cX0_mostForced 2 = .ok (.invokevirtual 73, 3) := by decide +kernel
theorem dX0_mostForced_5 : decode cX0_mostForced 5 = .ok (.istore_n 2, 1) := by decide +kernel
theorem dX0_mostForced_6 : decode cX0_mostForced 6 = .ok (.iconst 0, 1) := by decide +kernel
theorem dX0_mostForced_7 : decode cX0_mostForced 7 = .ok (.istore_n 3, 1) := by decide +kernel
theorem dX0_mostForced_8 : decode cX0_mostForced 8 = .ok (.iload_n 3, 1) := by decide +kernel
theorem dX0_mostForced_9 : decode cX0_mostForced 9 = .ok (.aload_n 0, 1) := by decide +kernel
theorem dX0_mostForced_10 : decode cX0_mostForced 10 = .ok (.getfield 18, 3) := by decide +kernel
theorem dX0_mostForced_13 : decode cX0_mostForced 13 = .ok (.if_icmp .ge 24, 3) := by decide +kernel
theorem dX0_mostForced_16 : decode cX0_mostForced 16 = .ok (.aload_n 0, 1) := by decide +kernel
theorem dX0_mostForced_17 : decode cX0_mostForced 17 = .ok (.iload_n 3, 1) := by decide +kernel
theorem dX0_mostForced_18 : decode cX0_mostForced 18 = .ok (.aload_n 1, 1) := by decide +kernel
theorem dX0_mostForced_19 : decode cX0_mostForced 19 = .ok (.invokevirtual 66, 3) := by decide +kernel
theorem dX0_mostForced_22 : decode cX0_mostForced 22 = .ok (.invokestatic 61, 3) := by decide +kernel
theorem dX0_mostForced_25 : decode cX0_mostForced 25 = .ok (.iload_n 2, 1) := by decide +kernel
theorem dX0_mostForced_26 : decode cX0_mostForced 26 = .ok (.if_icmp .ne 5, 3) := by decide +kernel
theorem dX0_mostForced_29 : decode cX0_mostForced 29 = .ok (.iload_n 3, 1) := by decide +kernel
theorem dX0_mostForced_30 : decode cX0_mostForced 30 = .ok (.ireturn, 1) := by decide +kernel
theorem dX0_mostForced_31 : decode cX0_mostForced 31 = .ok (.iinc 3 1, 3) := by decide +kernel
theorem dX0_mostForced_34 : decode cX0_mostForced 34 = .ok (.goto (-26), 3) := by decide +kernel
theorem dX0_mostForced_37 : decode cX0_mostForced 37 = .ok (.iconst (-1), 1) := by decide +kernel
theorem dX0_mostForced_38 : decode cX0_mostForced 38 = .ok (.ireturn, 1) := by decide +kernel
theorem dX0_squareOfPair_0 : decode cX0_squareOfPair 0 = .ok (.iload_n 1, 1) := by decide +kernel
theorem dX0_squareOfPair_1 : decode cX0_squareOfPair 1 = .ok (.iconst (-1), 1) := by decide +kernel
theorem dX0_squareOfPair_2 : decode cX0_squareOfPair 2 = .ok (.if_icmp .ne 7, 3) := by decide +kernel
theorem dX0_squareOfPair_5 : decode cX0_squareOfPair 5 = .ok (.iconst 0, 1) := by decide +kernel
theorem dX0_squareOfPair_6 : decode cX0_squareOfPair 6 = .ok (.goto 15, 3) := by decide +kernel
theorem dX0_squareOfPair_9 : decode cX0_squareOfPair 9 = .ok (.aload_n 0, 1) := by decide +kernel
