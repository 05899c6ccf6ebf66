theorem dX12_face_58 : decode cX12_face 58 = .ok (.iload_n 2, 1) := by decide +kernel
theorem dX12_face_59 : decode cX12_face 59 = .ok (.iload_n 3, 1) := by decide +kernel
theorem dX12_face_60 : decode cX12_face 60 = .ok (.invokevirtual 221, 3) := by decide +kernel
theorem dX12_face_63 : decode cX12_face 63 = .ok (.ireturn, 1) := by decide +kernel
theorem dX12_see_0 : decode cX12_see 0 = .ok (.iload_n 1, 1) := by decide +kernel
theorem dX12_see_1 : decode cX12_see 1 = .ok (.aload_n 0, 1) := by decide +kernel
theorem dX12_see_2 : decode cX12_see 2 = .ok (.getfield 94, 3) := by decide +kernel
theorem dX12_see_5 : decode cX12_see 5 = .ok (.if_icmp .ge 12, 3) := by decide +kernel
theorem dX12_see_8 : decode cX12_see 8 = .ok (.aload_n 0, 1) := by decide +kernel
theorem dX12_see_9 : decode cX12_see 9 = .ok (.getfield 9, 3) := by decide +kernel
theorem dX12_see_12 : decode cX12_see 12 = .ok (.iload_n 1, 1) := by decide +kernel
theorem dX12_see_13 : decode cX12_see 13 = .ok (.iaload, 1) := by decide +kernel
theorem dX12_see_14 : decode cX12_see 14 = .ok (.goto 4, 3) := by decide +kernel
theorem dX12_see_17 : decode cX12_see 17 = .ok (.iconst (-1), 1) := by decide +kernel
theorem dX12_see_18 : decode cX12_see 18 = .ok (.ireturn, 1) := by decide +kernel
theorem dX12_isSmall_0 : decode cX12_isSmall 0 = .ok (.iload_n 0, 1) := by decide +kernel
theorem dX12_isSmall_1 : decode cX12_isSmall 1 = .ok (.bipush 97, 2) := by decide +kernel
theorem dX12_isSmall_3 : decode cX12_isSmall 3 = .ok (.if_icmp .lt 13, 3) := by decide +kernel
theorem dX12_isSmall_6 : decode cX12_isSmall 6 = .ok (.iload_n 0, 1) := by decide +kernel
theorem dX12_isSmall_7 : decode cX12_isSmall 7 = .ok (.bipush 122, 2) := by decide +kernel
theorem dX12_isSmall_9 : decode cX12_isSmall 9 = .ok (.if_icmp .gt 7, 3) := by decide +kernel
theorem dX12_isSmall_12 : decode cX12_isSmall 12 = .ok (.iconst 1, 1) := by decide +kernel
theorem dX12_isSmall_13 : decode cX12_isSmall 13 = .ok (.goto 4, 3) := by decide +kernel
theorem dX12_isSmall_16 : decode cX12_isSmall 16 = .ok (.iconst 0, 1) := by decide +kernel
theorem dX12_isSmall_17 : decode cX12_isSmall 17 = .ok (.ireturn, 1) := by decide +kernel
theorem dX12_isDigit_0 : decode cX12_isDigit 0 = .ok (.iload_n 0, 1) := by decide +kernel
theorem dX12_isDigit_1 : decode cX12_isDigit 1 = .ok (.bipush 48, 2) := by decide +kernel
theorem dX12_isDigit_3 : decode cX12_isDigit 3 = .ok (.if_icmp .lt 13, 3) := by decide +kernel
theorem dX12_isDigit_6 : decode cX12_isDigit 6 = .ok (.iload_n 0, 1) := by decide +kernel
theorem dX12_isDigit_7 : decode cX12_isDigit 7 = .ok (.bipush 57, 2) := by decide +kernel
theorem dX12_isDigit_9 : decode cX12_isDigit 9 = .ok (.if_icmp .gt 7, 3) := by decide +kernel
theorem dX12_isDigit_12 : decode cX12_isDigit 12 = .ok (.iconst 1, 1) := by decide +kernel
theorem dX12_isDigit_13 : decode cX12_isDigit 13 = .ok (.goto 4, 3) := by decide +kernel
theorem dX12_isDigit_16 : decode cX12_isDigit 16 = .ok (.iconst 0, 1) := by decide +kernel
theorem dX12_isDigit_17 : decode cX12_isDigit 17 = .ok (.ireturn, 1) := by decide +kernel
theorem dX12_readsNumber_0 : decode cX12_readsNumber 0 = .ok (.aload_n 0, 1) := by decide +kernel
theorem dX12_readsNumber_1 : decode cX12_readsNumber 1 = .ok (.iconst 2, 1) := by decide +kernel
theorem dX12_readsNumber_2 : decode cX12_readsNumber 2 = .ok (.putfield 111, 3) := by decide +kernel
theorem dX12_readsNumber_5 : decode cX12_readsNumber 5 = .ok (.aload_n 0, 1) := by decide +kernel
theorem dX12_readsNumber_6 : decode cX12_readsNumber 6 = .ok (.dup, 1) := by decide +kernel
theorem dX12_readsNumber_7 : decode cX12_readsNumber 7 = .ok (.getfield 101, 3) := by decide +kernel
theorem dX12_readsNumber_10 : decode cX12_readsNumber 10 = .ok (.iload_n 1, 1) := by decide +kernel
theorem dX12_readsNumber_11 : decode cX12_readsNumber 11 = .ok (.ifCond .eq 7, 3) := by decide +kernel
theorem dX12_readsNumber_14 : decode cX12_readsNumber 14 = .ok (.iconst 1, 1) := by decide +kernel
theorem dX12_readsNumber_15 : decode cX12_readsNumber 15 = .ok (.goto 4, 3) := by decide +kernel
theorem dX12_readsNumber_18 : decode cX12_readsNumber 18 = .ok (.iconst 0, 1) := by decide +kernel
theorem dX12_readsNumber_19 : decode cX12_readsNumber 19 = .ok (.iadd, 1) := by decide +kernel
theorem dX12_readsNumber_20 : decode cX12_readsNumber 20 = .ok (.putfield 101, 3) := by decide +kernel
theorem dX12_readsNumber_23 : decode cX12_readsNumber 23 = .ok (.aload_n 0, 1) := by decide +kernel
theorem dX12_readsNumber_24 : decode cX12_readsNumber 24 = .ok (.getfield 101, 3) := by decide +kernel
theorem dX12_readsNumber_27 : decode cX12_readsNumber 27 = .ok (.istore_n 2, 1) := by decide +kernel
theorem dX12_readsNumber_28 : decode cX12_readsNumber 28 = .ok (.aload_n 0, 1) := by decide +kernel
theorem dX12_readsNumber_29 : decode cX12_readsNumber 29 = .ok (.iconst 0, 1) := by decide +kernel
theorem dX12_readsNumber_30 : decode cX12_readsNumber 30 = .ok (.putfield 125, 3) := by decide +kernel
theorem dX12_readsNumber_33 : decode cX12_readsNumber 33 = .ok (.aload_n 0, 1) := by decide +kernel
theorem dX12_readsNumber_34 : decode cX12_readsNumber 34 = .ok (.aload_n 0, 1) := by decide +kernel
theorem dX12_readsNumber_35 : decode cX12_readsNumber 35 = .ok (.getfield 101, 3) := by decide +kernel
theorem dX12_readsNumber_38 : decode cX12_readsNumber 38 = .ok (.invokevirtual 104, 3) := by decide +kernel
theorem dX12_readsNumber_41 : decode cX12_readsNumber 41 = .ok (.invokestatic 118, 3) := by decide +kernel
theorem dX12_readsNumber_44 : decode cX12_readsNumber 44 = .ok (.ifCond .eq 45, 3) := by decide +kernel
theorem dX12_readsNumber_47 : decode cX12_readsNumber 47 = .ok (.aload_n 0, 1) := by decide +kernel
theorem dX12_readsNumber_48 : decode cX12_readsNumber 48 = .ok (.sipush 1000, 3) := by decide +kernel
theorem dX12_readsNumber_51 : decode cX12_readsNumber 51 = .ok (.bipush 10, 2) := by decide +kernel
theorem dX12_readsNumber_53 : decode cX12_readsNumber 53 = .ok (.aload_n 0, 1) := by decide +kernel
theorem dX12_readsNumber_54 : decode cX12_readsNumber 54 = .ok (.getfield 125, 3) := by decide +kernel
theorem dX12_readsNumber_57 : decode cX12_readsNumber 57 = .ok (.imul, 1) := by decide +kernel
theorem dX12_readsNumber_58 : decode cX12_readsNumber 58 = .ok (.aload_n 0, 1) := by decide +kernel
theorem dX12_readsNumber_59 : decode cX12_readsNumber 59 = .ok (.aload_n 0, 1) := by decide +kernel
theorem dX12_readsNumber_60 : decode cX12_readsNumber 60 = .ok (.getfield 101, 3) := by decide +kernel
theorem dX12_readsNumber_63 : decode cX12_readsNumber 63 = .ok (.invokevirtual 104, 3) := by decide +kernel
theorem dX12_readsNumber_66 : decode cX12_readsNumber 66 = .ok (.iadd, 1) := by decide +kernel
theorem dX12_readsNumber_67 : decode cX12_readsNumber 67 = .ok (.bipush 48, 2) := by decide +kernel
theorem dX12_readsNumber_69 : decode cX12_readsNumber 69 = .ok (.isub, 1) := by decide +kernel
theorem dX12_readsNumber_70 : decode cX12_readsNumber 70 = .ok (.invokestatic 128, 3) := by decide +kernel
theorem dX12_readsNumber_73 : decode cX12_readsNumber 73 = .ok (.putfield 125, 3) := by decide +kernel
theorem dX12_readsNumber_76 : decode cX12_readsNumber 76 = .ok (.aload_n 0, 1) := by decide +kernel
theorem dX12_readsNumber_77 : decode cX12_readsNumber 77 = .ok (.dup, 1) := by decide +kernel
theorem dX12_readsNumber_78 : decode cX12_readsNumber 78 = .ok (.getfield 101, 3) := by decide +kernel
theorem dX12_readsNumber_81 : decode cX12_readsNumber 81 = .ok (.iconst 1, 1) := by decide +kernel
theorem dX12_readsNumber_82 : decode cX12_readsNumber 82 = .ok (.iadd, 1) := by decide +kernel
theorem dX12_readsNumber_83 : decode cX12_readsNumber 83 = .ok (.putfield 101, 3) := by decide +kernel
theorem dX12_readsNumber_86 : decode cX12_readsNumber 86 = .ok (.goto (-53), 3) := by decide +kernel
theorem dX12_readsNumber_89 : decode cX12_readsNumber 89 = .ok (.aload_n 0, 1) := by decide +kernel
theorem dX12_readsNumber_90 : decode cX12_readsNumber 90 = .ok (.aload_n 0, 1) := by decide +kernel
theorem dX12_readsNumber_91 : decode cX12_readsNumber 91 = .ok (.getfield 101, 3) := by decide +kernel
theorem dX12_readsNumber_94 : decode cX12_readsNumber 94 = .ok (.iload_n 2, 1) := by decide +kernel
theorem dX12_readsNumber_95 : decode cX12_readsNumber 95 = .ok (.isub, 1) := by decide +kernel
theorem dX12_readsNumber_96 : decode cX12_readsNumber 96 = .ok (.iconst 2, 1) := by decide +kernel
theorem dX12_readsNumber_97 : decode cX12_readsNumber 97 = .ok (.if_icmp .le 9, 3) := by decide +kernel
theorem dX12_readsNumber_100 : decode cX12_readsNumber 100 = .ok (.sipush 10000, 3) := by decide +kernel
theorem dX12_readsNumber_103 : decode cX12_readsNumber 103 = .ok (.goto 19, 3) := by decide +kernel
theorem dX12_readsNumber_106 : decode cX12_readsNumber 106 = .ok (.iload_n 1, 1) := by decide +kernel
theorem dX12_readsNumber_107 : decode cX12_readsNumber 107 = .ok (.ifCond .eq 11, 3) := by decide +kernel
theorem dX12_readsNumber_110 : decode cX12_readsNumber 110 = .ok (.aload_n 0, 1) := by decide +kernel
theorem dX12_readsNumber_111 : decode cX12_readsNumber 111 = .ok (.getfield 125, 3) := by decide +kernel
theorem dX12_readsNumber_114 : decode cX12_readsNumber 114 = .ok (.ineg, 1) := by decide +kernel
theorem dX12_readsNumber_115 : decode cX12_readsNumber 115 = .ok (.goto 7, 3) := by decide +kernel
theorem dX12_readsNumber_118 : decode cX12_readsNumber 118 = .ok (.aload_n 0, 1) := by decide +kernel
theorem dX12_readsNumber_119 : decode cX12_readsNumber 119 = .ok (.getfield 125, 3) := by decide +kernel
theorem dX12_readsNumber_122 : decode cX12_readsNumber 122 = .ok (.putfield 125, 3) := by decide +kernel
theorem dX12_readsNumber_125 : decode cX12_readsNumber 125 = .ok (.return_, 1) := by decide +kernel
theorem dX12_next_0 : decode cX12_next 0 = .ok (.aload_n 0, 1) := by decide +kernel
theorem dX12_next_1 : decode cX12_next 1 = .ok (.aload_n 0, 1) := by decide +kernel
theorem dX12_next_2 : decode cX12_next 2 = .ok (.getfield 101, 3) := by decide +kernel
theorem dX12_next_5 : decode cX12_next 5 = .ok (.invokevirtual 104, 3) := by decide +kernel
theorem dX12_next_8 : decode cX12_next 8 = .ok (.bipush 32, 2) := by decide +kernel
theorem dX12_next_10 : decode cX12_next 10 = .ok (.if_icmp .ne 16, 3) := by decide +kernel
theorem dX12_next_13 : decode cX12_next 13 = .ok (.aload_n 0, 1) := by decide +kernel
theorem dX12_next_14 : decode cX12_next 14 = .ok (.dup, 1) := by decide +kernel
theorem dX12_next_15 : decode cX12_next 15 = .ok (.getfield 101, 3) := by decide +kernel
theorem dX12_next_18 : decode cX12_next 18 = .ok (.iconst 1, 1) := by decide +kernel
theorem dX12_next_19 : decode cX12_next 19 = .ok (.iadd, 1) := by decide +kernel
theorem dX12_next_20 : decode cX12_next 20 = .ok (.putfield 101, 3) := by decide +kernel
theorem dX12_next_23 : decode cX12_next 23 = .ok (.goto (-23), 3) := by decide +kernel
theorem dX12_next_26 : decode cX12_next 26 = .ok (.aload_n 0, 1) := by decide +kernel
theorem dX12_next_27 : decode cX12_next 27 = .ok (.aload_n 0, 1) := by decide +kernel
theorem dX12_next_28 : decode cX12_next 28 = .ok (.getfield 101, 3) := by decide +kernel
theorem dX12_next_31 : decode cX12_next 31 = .ok (.putfield 108, 3) := by decide +kernel
theorem dX12_next_34 : decode cX12_next 34 = .ok (.aload_n 0, 1) := by decide +kernel
theorem dX12_next_35 : decode cX12_next 35 = .ok (.aload_n 0, 1) := by decide +kernel
theorem dX12_next_36 : decode cX12_next 36 = .ok (.getfield 101, 3) := by decide +kernel
theorem dX12_next_39 : decode cX12_next 39 = .ok (.invokevirtual 104, 3) := by decide +kernel
theorem dX12_next_42 : decode cX12_next 42 = .ok (.istore_n 1, 1) := by decide +kernel
theorem dX12_next_43 : decode cX12_next 43 = .ok (.iload_n 1, 1) := by decide +kernel
theorem dX12_next_44 : decode cX12_next 44 = .ok (.iconst (-1), 1) := by decide +kernel
theorem dX12_next_45 : decode cX12_next 45 = .ok (.if_icmp .ne 11, 3) := by decide +kernel
theorem dX12_next_48 : decode cX12_next 48 = .ok (.aload_n 0, 1) := by decide +kernel
theorem dX12_next_49 : decode cX12_next 49 = .ok (.iconst 0, 1) := by decide +kernel
theorem dX12_next_50 : decode cX12_next 50 = .ok (.putfield 111, 3) := by decide +kernel
theorem dX12_next_53 : decode cX12_next 53 = .ok (.goto 104, 3) := by decide +kernel
theorem dX12_next_56 : decode cX12_next 56 = .ok (.iload_n 1, 1) := by decide +kernel
theorem dX12_next_57 : decode cX12_next 57 = .ok (.invokestatic 114, 3) := by decide +kernel
theorem dX12_next_60 : decode cX12_next 60 = .ok (.ifCond .eq 35, 3) := by decide +kernel
theorem dX12_next_63 : decode cX12_next 63 = .ok (.aload_n 0, 1) := by decide +kernel
theorem dX12_next_64 : decode cX12_next 64 = .ok (.iconst 1, 1) := by decide +kernel
theorem dX12_next_65 : decode cX12_next 65 = .ok (.putfield 111, 3) := by decide +kernel
theorem dX12_next_68 : decode cX12_next 68 = .ok (.aload_n 0, 1) := by decide +kernel
theorem dX12_next_69 : decode cX12_next 69 = .ok (.aload_n 0, 1) := by decide +kernel
theorem dX12_next_70 : decode cX12_next 70 = .ok (.getfield 101, 3) := by decide +kernel
theorem dX12_next_73 : decode cX12_next 73 = .ok (.invokevirtual 104, 3) := by decide +kernel
theorem dX12_next_76 : decode cX12_next 76 = .ok (.invokestatic 114, 3) := by decide +kernel
theorem dX12_next_79 : decode cX12_next 79 = .ok (.ifCond .eq 78, 3) := by decide +kernel
theorem dX12_next_82 : decode cX12_next 82 = .ok (.aload_n 0, 1) := by decide +kernel
theorem dX12_next_83 : decode cX12_next 83 = .ok (.dup, 1) := by decide +kernel
theorem dX12_next_84 : decode cX12_next 84 = .ok (.getfield 101, 3) := by decide +kernel
theorem dX12_next_87 : decode cX12_next 87 = .ok (.iconst 1, 1) := by decide +kernel
theorem dX12_next_88 : decode cX12_next 88 = .ok (.iadd, 1) := by decide +kernel
theorem dX12_next_89 : decode cX12_next 89 = .ok (.putfield 101, 3) := by decide +kernel
theorem dX12_next_92 : decode cX12_next 92 = .ok (.goto (-24), 3) := by decide +kernel
theorem dX12_next_95 : decode cX12_next 95 = .ok (.iload_n 1, 1) := by decide +kernel
theorem dX12_next_96 : decode cX12_next 96 = .ok (.invokestatic 118, 3) := by decide +kernel
theorem dX12_next_99 : decode cX12_next 99 = .ok (.ifCond .ne 25, 3) := by decide +kernel
theorem dX12_next_102 : decode cX12_next 102 = .ok (.iload_n 1, 1) := by decide +kernel
theorem dX12_next_103 : decode cX12_next 103 = .ok (.bipush 45, 2) := by decide +kernel
theorem dX12_next_105 : decode cX12_next 105 = .ok (.if_icmp .ne 37, 3) := by decide +kernel
theorem dX12_next_108 : decode cX12_next 108 = .ok (.aload_n 0, 1) := by decide +kernel
theorem dX12_next_109 : decode cX12_next 109 = .ok (.aload_n 0, 1) := by decide +kernel
theorem dX12_next_110 : decode cX12_next 110 = .ok (.getfield 101, 3) := by decide +kernel
theorem dX12_next_113 : decode cX12_next 113 = .ok (.iconst 1, 1) := by decide +kernel
theorem dX12_next_114 : decode cX12_next 114 = .ok (.iadd, 1) := by decide +kernel
theorem dX12_next_115 : decode cX12_next 115 = .ok (.invokevirtual 104, 3) := by decide +kernel
theorem dX12_next_118 : decode cX12_next 118 = .ok (.invokestatic 118, 3) := by decide +kernel
theorem dX12_next_121 : decode cX12_next 121 = .ok (.ifCond .eq 21, 3) := by decide +kernel
theorem dX12_next_124 : decode cX12_next 124 = .ok (.aload_n 0, 1) := by decide +kernel
theorem dX12_next_125 : decode cX12_next 125 = .ok (.iload_n 1, 1) := by decide +kernel
theorem dX12_next_126 : decode cX12_next 126 = .ok (.bipush 45, 2) := by decide +kernel
theorem dX12_next_128 : decode cX12_next 128 = .ok (.if_icmp .ne 7, 3) := by decide +kernel
theorem dX12_next_131 : decode cX12_next 131 = .ok (.iconst 1, 1) := by decide +kernel
theorem dX12_next_132 : decode cX12_next 132 = .ok (.goto 4, 3) := by decide +kernel
theorem dX12_next_135 : decode cX12_next 135 = .ok (.iconst 0, 1) := by decide +kernel
theorem dX12_next_136 : decode cX12_next 136 = .ok (.invokevirtual 121, 3) := by decide +kernel
theorem dX12_next_139 : decode cX12_next 139 = .ok (.goto 18, 3) := by decide +kernel
theorem dX12_next_142 : decode cX12_next 142 = .ok (.aload_n 0, 1) := by decide +kernel
theorem dX12_next_143 : decode cX12_next 143 = .ok (.iconst 3, 1) := by decide +kernel
theorem dX12_next_144 : decode cX12_next 144 = .ok (.putfield 111, 3) := by decide +kernel
theorem dX12_next_147 : decode cX12_next 147 = .ok (.aload_n 0, 1) := by decide +kernel
theorem dX12_next_148 : decode cX12_next 148 = .ok (.dup, 1) := by decide +kernel
theorem dX12_next_149 : decode cX12_next 149 = .ok (.getfield 101, 3) := by decide +kernel
theorem dX12_next_152 : decode cX12_next 152 = .ok (.iconst 1, 1) := by decide +kernel
theorem dX12_next_153 : decode cX12_next 153 = .ok (.iadd, 1) := by decide +kernel
theorem dX12_next_154 : decode cX12_next 154 = .ok (.putfield 101, 3) := by decide +kernel
theorem dX12_next_157 : decode cX12_next 157 = .ok (.return_, 1) := by decide +kernel
theorem dX12_isWord_0 : decode cX12_isWord 0 = .ok (.aload_n 0, 1) := by decide +kernel
theorem dX12_isWord_1 : decode cX12_isWord 1 = .ok (.getfield 134, 3) := by decide +kernel
theorem dX12_isWord_4 : decode cX12_isWord 4 = .ok (.iconst (-1), 1) := by decide +kernel
theorem dX12_isWord_5 : decode cX12_isWord 5 = .ok (.if_icmp .ne 31, 3) := by decide +kernel
theorem dX12_isWord_8 : decode cX12_isWord 8 = .ok (.aload_n 0, 1) := by decide +kernel
theorem dX12_isWord_9 : decode cX12_isWord 9 = .ok (.getfield 111, 3) := by decide +kernel
theorem dX12_isWord_12 : decode cX12_isWord 12 = .ok (.iconst 1, 1) := by decide +kernel
theorem dX12_isWord_13 : decode cX12_isWord 13 = .ok (.if_icmp .ne 23, 3) := by decide +kernel
theorem dX12_isWord_16 : decode cX12_isWord 16 = .ok (.aload_n 0, 1) := by decide +kernel
theorem dX12_isWord_17 : decode cX12_isWord 17 = .ok (.getfield 101, 3) := by decide +kernel
theorem dX12_isWord_20 : decode cX12_isWord 20 = .ok (.aload_n 0, 1) := by decide +kernel
theorem dX12_isWord_21 : decode cX12_isWord 21 = .ok (.getfield 108, 3) := by decide +kernel
theorem dX12_isWord_24 : decode cX12_isWord 24 = .ok (.isub, 1) := by decide +kernel
theorem dX12_isWord_25 : decode cX12_isWord 25 = .ok (.aload_n 1, 1) := by decide +kernel
theorem dX12_isWord_26 : decode cX12_isWord 26 = .ok (.invokevirtual 137, 3) := by decide +kernel
theorem dX12_isWord_29 : decode cX12_isWord 29 = .ok (.if_icmp .ne 7, 3) := by decide +kernel
theorem dX12_isWord_32 : decode cX12_isWord 32 = .ok (.iconst 1, 1) := by decide +kernel
theorem dX12_isWord_33 : decode cX12_isWord 33 = .ok (.goto 4, 3) := by decide +kernel
theorem dX12_isWord_36 : decode cX12_isWord 36 = .ok (.iconst 0, 1) := by decide +kernel
theorem dX12_isWord_37 : decode cX12_isWord 37 = .ok (.istore_n 2, 1) := by decide +kernel
theorem dX12_isWord_38 : decode cX12_isWord 38 = .ok (.iconst 0, 1) := by decide +kernel
theorem dX12_isWord_39 : decode cX12_isWord 39 = .ok (.istore_n 3, 1) := by decide +kernel
theorem dX12_isWord_40 : decode cX12_isWord 40 = .ok (.iload_n 2, 1) := by decide +kernel
theorem dX12_isWord_41 : decode cX12_isWord 41 = .ok (.ifCond .eq 42, 3) := by decide +kernel
theorem dX12_isWord_44 : decode cX12_isWord 44 = .ok (.iload_n 3, 1) := by decide +kernel
theorem dX12_isWord_45 : decode cX12_isWord 45 = .ok (.aload_n 1, 1) := by decide +kernel
theorem dX12_isWord_46 : decode cX12_isWord 46 = .ok (.invokevirtual 137, 3) := by decide +kernel
theorem dX12_isWord_49 : decode cX12_isWord 49 = .ok (.if_icmp .ge 34, 3) := by decide +kernel
theorem dX12_isWord_52 : decode cX12_isWord 52 = .ok (.aload_n 0, 1) := by decide +kernel
theorem dX12_isWord_53 : decode cX12_isWord 53 = .ok (.getfield 9, 3) := by decide +kernel
theorem dX12_isWord_56 : decode cX12_isWord 56 = .ok (.aload_n 0, 1) := by decide +kernel
theorem dX12_isWord_57 : decode cX12_isWord 57 = .ok (.getfield 108, 3) := by decide +kernel
theorem dX12_isWord_60 : decode cX12_isWord 60 = .ok (.iload_n 3, 1) := by decide +kernel
theorem dX12_isWord_61 : decode cX12_isWord 61 = .ok (.iadd, 1) := by decide +kernel
theorem dX12_isWord_62 : decode cX12_isWord 62 = .ok (.iaload, 1) := by decide +kernel
theorem dX12_isWord_63 : decode cX12_isWord 63 = .ok (.aload_n 1, 1) := by decide +kernel
theorem dX12_isWord_64 : decode cX12_isWord 64 = .ok (.iload_n 3, 1) := by decide +kernel
theorem dX12_isWord_65 : decode cX12_isWord 65 = .ok (.invokevirtual 143, 3) := by decide +kernel
theorem dX12_isWord_68 : decode cX12_isWord 68 = .ok (.if_icmp .ne 7, 3) := by decide +kernel
theorem dX12_isWord_71 : decode cX12_isWord 71 = .ok (.iconst 1, 1) := by decide +kernel
theorem dX12_isWord_72 : decode cX12_isWord 72 = .ok (.goto 4, 3) := by decide +kernel
theorem dX12_isWord_75 : decode cX12_isWord 75 = .ok (.iconst 0, 1) := by decide +kernel
theorem dX12_isWord_76 : decode cX12_isWord 76 = .ok (.istore_n 2, 1) := by decide +kernel
theorem dX12_isWord_77 : decode cX12_isWord 77 = .ok (.iinc 3 1, 3) := by decide +kernel
theorem dX12_isWord_80 : decode cX12_isWord 80 = .ok (.goto (-40), 3) := by decide +kernel
theorem dX12_isWord_83 : decode cX12_isWord 83 = .ok (.iload_n 2, 1) := by decide +kernel
theorem dX12_isWord_84 : decode cX12_isWord 84 = .ok (.ireturn, 1) := by decide +kernel
theorem dX12_takesNumber_0 : decode cX12_takesNumber 0 = .ok (.aload_n 0, 1) := by decide +kernel
theorem dX12_takesNumber_1 : decode cX12_takesNumber 1 = .ok (.getfield 134, 3) := by decide +kernel
theorem dX12_takesNumber_4 : decode cX12_takesNumber 4 = .ok (.iconst (-1), 1) := by decide +kernel
theorem dX12_takesNumber_5 : decode cX12_takesNumber 5 = .ok (.if_icmp .ne 26, 3) := by decide +kernel
theorem dX12_takesNumber_8 : decode cX12_takesNumber 8 = .ok (.aload_n 0, 1) := by decide +kernel
theorem dX12_takesNumber_9 : decode cX12_takesNumber 9 = .ok (.getfield 111, 3) := by decide +kernel
theorem dX12_takesNumber_12 : decode cX12_takesNumber 12 = .ok (.iconst 2, 1) := by decide +kernel
theorem dX12_takesNumber_13 : decode cX12_takesNumber 13 = .ok (.if_icmp .ne 18, 3) := by decide +kernel
theorem dX12_takesNumber_16 : decode cX12_takesNumber 16 = .ok (.aload_n 0, 1) := by decide +kernel
theorem dX12_takesNumber_17 : decode cX12_takesNumber 17 = .ok (.getfield 125, 3) := by decide +kernel
theorem dX12_takesNumber_20 : decode cX12_takesNumber 20 = .ok (.i2l, 1) := by decide +kernel
theorem dX12_takesNumber_21 : decode cX12_takesNumber 21 = .ok (.iload_n 1, 1) := by decide +kernel
theorem dX12_takesNumber_22 : decode cX12_takesNumber 22 = .ok (.i2l, 1) := by decide +kernel
theorem dX12_takesNumber_23 : decode cX12_takesNumber 23 = .ok (.iload_n 2, 1) := by decide +kernel
theorem dX12_takesNumber_24 : decode cX12_takesNumber 24 = .ok (.i2l, 1) := by decide +kernel
theorem dX12_takesNumber_25 : decode cX12_takesNumber 25 = .ok (.invokestatic 97, 3) := by decide +kernel
theorem dX12_takesNumber_28 : decode cX12_takesNumber 28 = .ok (.ifCond .ne 9, 3) := by decide +kernel
theorem dX12_takesNumber_31 : decode cX12_takesNumber 31 = .ok (.aload_n 0, 1) := by decide +kernel
theorem dX12_takesNumber_32 : decode cX12_takesNumber 32 = .ok (.invokevirtual 150, 3) := by decide +kernel
theorem dX12_takesNumber_35 : decode cX12_takesNumber 35 = .ok (.iload_n 1, 1) := by decide +kernel
theorem dX12_takesNumber_36 : decode cX12_takesNumber 36 = .ok (.ireturn, 1) := by decide +kernel
theorem dX12_takesNumber_37 : decode cX12_takesNumber 37 = .ok (.aload_n 0, 1) := by decide +kernel
theorem dX12_takesNumber_38 : decode cX12_takesNumber 38 = .ok (.getfield 125, 3) := by decide +kernel
theorem dX12_takesNumber_41 : decode cX12_takesNumber 41 = .ok (.istore_n 3, 1) := by decide +kernel
theorem dX12_takesNumber_42 : decode cX12_takesNumber 42 = .ok (.aload_n 0, 1) := by decide +kernel
theorem dX12_takesNumber_43 : decode cX12_takesNumber 43 = .ok (.invokevirtual 147, 3) := by decide +kernel
theorem dX12_takesNumber_46 : decode cX12_takesNumber 46 = .ok (.iload_n 3, 1) := by decide +kernel
theorem dX12_takesNumber_47 : decode cX12_takesNumber 47 = .ok (.ireturn, 1) := by decide +kernel
theorem dX12_takesSign_0 : decode cX12_takesSign 0 = .ok (.aload_n 0, 1) := by decide +kernel
theorem dX12_takesSign_1 : decode cX12_takesSign 1 = .ok (.getfield 134, 3) := by decide +kernel
theorem dX12_takesSign_4 : decode cX12_takesSign 4 = .ok (.iconst (-1), 1) := by decide +kernel
theorem dX12_takesSign_5 : decode cX12_takesSign 5 = .ok (.if_icmp .ne 28, 3) := by decide +kernel
theorem dX12_takesSign_8 : decode cX12_takesSign 8 = .ok (.aload_n 0, 1) := by decide +kernel
theorem dX12_takesSign_9 : decode cX12_takesSign 9 = .ok (.getfield 111, 3) := by decide +kernel
theorem dX12_takesSign_12 : decode cX12_takesSign 12 = .ok (.iconst 3, 1) := by decide +kernel
theorem dX12_takesSign_13 : decode cX12_takesSign 13 = .ok (.if_icmp .ne 20, 3) := by decide +kernel
theorem dX12_takesSign_16 : decode cX12_takesSign 16 = .ok (.aload_n 0, 1) := by decide +kernel
theorem dX12_takesSign_17 : decode cX12_takesSign 17 = .ok (.getfield 9, 3) := by decide +kernel
theorem dX12_takesSign_20 : decode cX12_takesSign 20 = .ok (.aload_n 0, 1) := by decide +kernel
theorem dX12_takesSign_21 : decode cX12_takesSign 21 = .ok (.getfield 108, 3) := by decide +kernel
theorem dX12_takesSign_24 : decode cX12_takesSign 24 = .ok (.iaload, 1) := by decide +kernel
theorem dX12_takesSign_25 : decode cX12_takesSign 25 = .ok (.iload_n 1, 1) := by decide +kernel
theorem dX12_takesSign_26 : decode cX12_takesSign 26 = .ok (.if_icmp .ne 7, 3) := by decide +kernel
theorem dX12_takesSign_29 : decode cX12_takesSign 29 = .ok (.iconst 1, 1) := by decide +kernel
theorem dX12_takesSign_30 : decode cX12_takesSign 30 = .ok (.goto 4, 3) := by decide +kernel
theorem dX12_takesSign_33 : decode cX12_takesSign 33 = .ok (.iconst 0, 1) := by decide +kernel
theorem dX12_takesSign_34 : decode cX12_takesSign 34 = .ok (.istore_n 2, 1) := by decide +kernel
theorem dX12_takesSign_35 : decode cX12_takesSign 35 = .ok (.iload_n 2, 1) := by decide +kernel
theorem dX12_takesSign_36 : decode cX12_takesSign 36 = .ok (.ifCond .eq 7, 3) := by decide +kernel
theorem dX12_takesSign_39 : decode cX12_takesSign 39 = .ok (.aload_n 0, 1) := by decide +kernel
theorem dX12_takesSign_40 : decode cX12_takesSign 40 = .ok (.invokevirtual 147, 3) := by decide +kernel
theorem dX12_takesSign_43 : decode cX12_takesSign 43 = .ok (.iload_n 2, 1) := by decide +kernel
theorem dX12_takesSign_44 : decode cX12_takesSign 44 = .ok (.ireturn, 1) := by decide +kernel
theorem dX12_isFaceRead_0 : decode cX12_isFaceRead 0 = .ok (.iconst 0, 1) := by decide +kernel
theorem dX12_isFaceRead_1 : decode cX12_isFaceRead 1 = .ok (.istore_n 3, 1) := by decide +kernel
theorem dX12_isFaceRead_2 : decode cX12_isFaceRead 2 = .ok (.iconst 0, 1) := by decide +kernel
theorem dX12_isFaceRead_3 : decode cX12_isFaceRead 3 = .ok (.istore 4, 2) := by decide +kernel
theorem dX12_isFaceRead_5 : decode cX12_isFaceRead 5 = .ok (.iload 4, 2) := by decide +kernel
theorem dX12_isFaceRead_7 : decode cX12_isFaceRead 7 = .ok (.aload_n 0, 1) := by decide +kernel
theorem dX12_isFaceRead_8 : decode cX12_isFaceRead 8 = .ok (.getfield 153, 3) := by decide +kernel
theorem dX12_isFaceRead_11 : decode cX12_isFaceRead 11 = .ok (.if_icmp .ge 41, 3) := by decide +kernel
theorem dX12_isFaceRead_14 : decode cX12_isFaceRead 14 = .ok (.iload_n 3, 1) := by decide +kernel
theorem dX12_isFaceRead_15 : decode cX12_isFaceRead 15 = .ok (.ifCond .ne 25, 3) := by decide +kernel
theorem dX12_isFaceRead_18 : decode cX12_isFaceRead 18 = .ok (.aload_n 0, 1) := by decide +kernel
theorem dX12_isFaceRead_19 : decode cX12_isFaceRead 19 = .ok (.getfield 13, 3) := by decide +kernel
theorem dX12_isFaceRead_22 : decode cX12_isFaceRead 22 = .ok (.iload 4, 2) := by decide +kernel
theorem dX12_isFaceRead_24 : decode cX12_isFaceRead 24 = .ok (.iaload, 1) := by decide +kernel
theorem dX12_isFaceRead_25 : decode cX12_isFaceRead 25 = .ok (.iload_n 1, 1) := by decide +kernel
theorem dX12_isFaceRead_26 : decode cX12_isFaceRead 26 = .ok (.if_icmp .ne 18, 3) := by decide +kernel
theorem dX12_isFaceRead_29 : decode cX12_isFaceRead 29 = .ok (.aload_n 0, 1) := by decide +kernel
theorem dX12_isFaceRead_30 : decode cX12_isFaceRead 30 = .ok (.getfield 16, 3) := by decide +kernel
theorem dX12_isFaceRead_33 : decode cX12_isFaceRead 33 = .ok (.iload 4, 2) := by decide +kernel
theorem dX12_isFaceRead_35 : decode cX12_isFaceRead 35 = .ok (.iaload, 1) := by decide +kernel
theorem dX12_isFaceRead_36 : decode cX12_isFaceRead 36 = .ok (.iload_n 2, 1) := by decide +kernel
theorem dX12_isFaceRead_37 : decode cX12_isFaceRead 37 = .ok (.if_icmp .ne 7, 3) := by decide +kernel
theorem dX12_isFaceRead_40 : decode cX12_isFaceRead 40 = .ok (.iconst 1, 1) := by decide +kernel
theorem dX12_isFaceRead_41 : decode cX12_isFaceRead 41 = .ok (.goto 4, 3) := by decide +kernel
theorem dX12_isFaceRead_44 : decode cX12_isFaceRead 44 = .ok (.iconst 0, 1) := by decide +kernel
theorem dX12_isFaceRead_45 : decode cX12_isFaceRead 45 = .ok (.istore_n 3, 1) := by decide +kernel
theorem dX12_isFaceRead_46 : decode cX12_isFaceRead 46 = .ok (.iinc 4 1, 3) := by decide +kernel
theorem dX12_isFaceRead_49 : decode cX12_isFaceRead 49 = .ok (.goto (-44), 3) := by decide +kernel
theorem dX12_isFaceRead_52 : decode cX12_isFaceRead 52 = .ok (.iload_n 3, 1) := by decide +kernel
theorem dX12_isFaceRead_53 : decode cX12_isFaceRead 53 = .ok (.ireturn, 1) := by decide +kernel
theorem dX12_readsCore_0 : decode cX12_readsCore 0 = .ok (.aload_n 0, 1) := by decide +kernel
theorem dX12_readsCore_1 : decode cX12_readsCore 1 = .ok (.invokevirtual 147, 3) := by decide +kernel
theorem dX12_readsCore_4 : decode cX12_readsCore 4 = .ok (.aload_n 0, 1) := by decide +kernel
theorem dX12_readsCore_5 : decode cX12_readsCore 5 = .ok (.iconst 0, 1) := by decide +kernel
theorem dX12_readsCore_6 : decode cX12_readsCore 6 = .ok (.aload_n 0, 1) := by decide +kernel
theorem dX12_readsCore_7 : decode cX12_readsCore 7 = .ok (.getfield 156, 3) := by decide +kernel
theorem dX12_readsCore_10 : decode cX12_readsCore 10 = .ok (.iconst 2, 1) := by decide +kernel
theorem dX12_readsCore_11 : decode cX12_readsCore 11 = .ok (.isub, 1) := by decide +kernel
theorem dX12_readsCore_12 : decode cX12_readsCore 12 = .ok (.invokevirtual 159, 3) := by decide +kernel
theorem dX12_readsCore_15 : decode cX12_readsCore 15 = .ok (.istore_n 1, 1) := by decide +kernel
theorem dX12_readsCore_16 : decode cX12_readsCore 16 = .ok (.aload_n 0, 1) := by decide +kernel
theorem dX12_readsCore_17 : decode cX12_readsCore 17 = .ok (.getfield 134, 3) := by decide +kernel
theorem dX12_readsCore_20 : decode cX12_readsCore 20 = .ok (.iconst (-1), 1) := by decide +kernel
theorem dX12_readsCore_21 : decode cX12_readsCore 21 = .ok (.if_icmp .ne 27, 3) := by decide +kernel
theorem dX12_readsCore_24 : decode cX12_readsCore 24 = .ok (.aload_n 0, 1) := by decide +kernel
theorem dX12_readsCore_25 : decode cX12_readsCore 25 = .ok (.getfield 111, 3) := by decide +kernel
theorem dX12_readsCore_28 : decode cX12_readsCore 28 = .ok (.iconst 2, 1) := by decide +kernel
theorem dX12_readsCore_29 : decode cX12_readsCore 29 = .ok (.if_icmp .ne 19, 3) := by decide +kernel
theorem dX12_readsCore_32 : decode cX12_readsCore 32 = .ok (.aload_n 0, 1) := by decide +kernel
theorem dX12_readsCore_33 : decode cX12_readsCore 33 = .ok (.iload_n 1, 1) := by decide +kernel
theorem dX12_readsCore_34 : decode cX12_readsCore 34 = .ok (.aload_n 0, 1) := by decide +kernel
theorem dX12_readsCore_35 : decode cX12_readsCore 35 = .ok (.getfield 125, 3) := by decide +kernel
theorem dX12_readsCore_38 : decode cX12_readsCore 38 = .ok (.invokevirtual 162, 3) := by decide +kernel
theorem dX12_readsCore_41 : decode cX12_readsCore 41 = .ok (.ifCond .eq 7, 3) := by decide +kernel
theorem dX12_readsCore_44 : decode cX12_readsCore 44 = .ok (.aload_n 0, 1) := by decide +kernel
theorem dX12_readsCore_45 : decode cX12_readsCore 45 = .ok (.invokevirtual 150, 3) := by decide +kernel
theorem dX12_readsCore_48 : decode cX12_readsCore 48 = .ok (.aload_n 0, 1) := by decide +kernel
theorem dX12_readsCore_49 : decode cX12_readsCore 49 = .ok (.iconst 0, 1) := by decide +kernel
theorem dX12_readsCore_50 : decode cX12_readsCore 50 = .ok (.aload_n 0, 1) := by decide +kernel
theorem dX12_readsCore_51 : decode cX12_readsCore 51 = .ok (.getfield 166, 3) := by decide +kernel
theorem dX12_readsCore_54 : decode cX12_readsCore 54 = .ok (.iconst 2, 1) := by decide +kernel
theorem dX12_readsCore_55 : decode cX12_readsCore 55 = .ok (.isub, 1) := by decide +kernel
theorem dX12_readsCore_56 : decode cX12_readsCore 56 = .ok (.invokevirtual 159, 3) := by decide +kernel
theorem dX12_readsCore_59 : decode cX12_readsCore 59 = .ok (.istore_n 2, 1) := by decide +kernel
theorem dX12_readsCore_60 : decode cX12_readsCore 60 = .ok (.aload_n 0, 1) := by decide +kernel
theorem dX12_readsCore_61 : decode cX12_readsCore 61 = .ok (.bipush (-2), 2) := by decide +kernel
theorem dX12_readsCore_63 : decode cX12_readsCore 63 = .ok (.iconst 2, 1) := by decide +kernel
theorem dX12_readsCore_64 : decode cX12_readsCore 64 = .ok (.invokevirtual 159, 3) := by decide +kernel
theorem dX12_readsCore_67 : decode cX12_readsCore 67 = .ok (.istore_n 3, 1) := by decide +kernel
theorem dX12_readsCore_68 : decode cX12_readsCore 68 = .ok (.aload_n 0, 1) := by decide +kernel
theorem dX12_readsCore_69 : decode cX12_readsCore 69 = .ok (.getfield 134, 3) := by decide +kernel
theorem dX12_readsCore_72 : decode cX12_readsCore 72 = .ok (.iconst (-1), 1) := by decide +kernel
theorem dX12_readsCore_73 : decode cX12_readsCore 73 = .ok (.if_icmp .ne 26, 3) := by decide +kernel
theorem dX12_readsCore_76 : decode cX12_readsCore 76 = .ok (.aload_n 0, 1) := by decide +kernel
theorem dX12_readsCore_77 : decode cX12_readsCore 77 = .ok (.getfield 111, 3) := by decide +kernel
theorem dX12_readsCore_80 : decode cX12_readsCore 80 = .ok (.iconst 2, 1) := by decide +kernel
theorem dX12_readsCore_81 : decode cX12_readsCore 81 = .ok (.if_icmp .ne 18, 3) := by decide +kernel
theorem dX12_readsCore_84 : decode cX12_readsCore 84 = .ok (.iload_n 3, 1) := by decide +kernel
theorem dX12_readsCore_85 : decode cX12_readsCore 85 = .ok (.ifCond .ne 14, 3) := by decide +kernel
theorem dX12_readsCore_88 : decode cX12_readsCore 88 = .ok (.aload_n 0, 1) := by decide +kernel
theorem dX12_readsCore_89 : decode cX12_readsCore 89 = .ok (.getfield 125, 3) := by decide +kernel
theorem dX12_readsCore_92 : decode cX12_readsCore 92 = .ok (.ifCond .ne 7, 3) := by decide +kernel
theorem dX12_readsCore_95 : decode cX12_readsCore 95 = .ok (.aload_n 0, 1) := by decide +kernel
theorem dX12_readsCore_96 : decode cX12_readsCore 96 = .ok (.invokevirtual 150, 3) := by decide +kernel
theorem dX12_readsCore_99 : decode cX12_readsCore 99 = .ok (.aload_n 0, 1) := by decide +kernel
theorem dX12_readsCore_100 : decode cX12_readsCore 100 = .ok (.bipush (-2), 2) := by decide +kernel
theorem dX12_readsCore_102 : decode cX12_readsCore 102 = .ok (.iconst 2, 1) := by decide +kernel
theorem dX12_readsCore_103 : decode cX12_readsCore 103 = .ok (.invokevirtual 159, 3) := by decide +kernel
theorem dX12_readsCore_106 : decode cX12_readsCore 106 = .ok (.istore 4, 2) := by decide +kernel
theorem dX12_readsCore_108 : decode cX12_readsCore 108 = .ok (.aload_n 0, 1) := by decide +kernel
theorem dX12_readsCore_109 : decode cX12_readsCore 109 = .ok (.getfield 134, 3) := by decide +kernel
theorem dX12_readsCore_112 : decode cX12_readsCore 112 = .ok (.iconst (-1), 1) := by decide +kernel
theorem dX12_readsCore_113 : decode cX12_readsCore 113 = .ok (.if_icmp .ne 54, 3) := by decide +kernel
theorem dX12_readsCore_116 : decode cX12_readsCore 116 = .ok (.aload_n 0, 1) := by decide +kernel
theorem dX12_readsCore_117 : decode cX12_readsCore 117 = .ok (.getfield 13, 3) := by decide +kernel
theorem dX12_readsCore_120 : decode cX12_readsCore 120 = .ok (.aload_n 0, 1) := by decide +kernel
theorem dX12_readsCore_121 : decode cX12_readsCore 121 = .ok (.getfield 153, 3) := by decide +kernel
theorem dX12_readsCore_124 : decode cX12_readsCore 124 = .ok (.iload_n 1, 1) := by decide +kernel
theorem dX12_readsCore_125 : decode cX12_readsCore 125 = .ok (.iastore, 1) := by decide +kernel
theorem dX12_readsCore_126 : decode cX12_readsCore 126 = .ok (.aload_n 0, 1) := by decide +kernel
theorem dX12_readsCore_127 : decode cX12_readsCore 127 = .ok (.getfield 16, 3) := by decide +kernel
theorem dX12_readsCore_130 : decode cX12_readsCore 130 = .ok (.aload_n 0, 1) := by decide +kernel
theorem dX12_readsCore_131 : decode cX12_readsCore 131 = .ok (.getfield 153, 3) := by decide +kernel
theorem dX12_readsCore_134 : decode cX12_readsCore 134 = .ok (.iload_n 2, 1) := by decide +kernel
theorem dX12_readsCore_135 : decode cX12_readsCore 135 = .ok (.iastore, 1) := by decide +kernel
theorem dX12_readsCore_136 : decode cX12_readsCore 136 = .ok (.aload_n 0, 1) := by decide +kernel
theorem dX12_readsCore_137 : decode cX12_readsCore 137 = .ok (.getfield 19, 3) := by decide +kernel
theorem dX12_readsCore_140 : decode cX12_readsCore 140 = .ok (.aload_n 0, 1) := by decide +kernel
theorem dX12_readsCore_141 : decode cX12_readsCore 141 = .ok (.getfield 153, 3) := by decide +kernel
theorem dX12_readsCore_144 : decode cX12_readsCore 144 = .ok (.iload_n 3, 1) := by decide +kernel
theorem dX12_readsCore_145 : decode cX12_readsCore 145 = .ok (.iastore, 1) := by decide +kernel
theorem dX12_readsCore_146 : decode cX12_readsCore 146 = .ok (.aload_n 0, 1) := by decide +kernel
theorem dX12_readsCore_147 : decode cX12_readsCore 147 = .ok (.getfield 22, 3) := by decide +kernel
theorem dX12_readsCore_150 : decode cX12_readsCore 150 = .ok (.aload_n 0, 1) := by decide +kernel
theorem dX12_readsCore_151 : decode cX12_readsCore 151 = .ok (.getfield 153, 3) := by decide +kernel
theorem dX12_readsCore_154 : decode cX12_readsCore 154 = .ok (.iload 4, 2) := by decide +kernel
theorem dX12_readsCore_156 : decode cX12_readsCore 156 = .ok (.iastore, 1) := by decide +kernel
theorem dX12_readsCore_157 : decode cX12_readsCore 157 = .ok (.aload_n 0, 1) := by decide +kernel
theorem dX12_readsCore_158 : decode cX12_readsCore 158 = .ok (.dup, 1) := by decide +kernel
theorem dX12_readsCore_159 : decode cX12_readsCore 159 = .ok (.getfield 153, 3) := by decide +kernel
theorem dX12_readsCore_162 : decode cX12_readsCore 162 = .ok (.iconst 1, 1) := by decide +kernel
theorem dX12_readsCore_163 : decode cX12_readsCore 163 = .ok (.iadd, 1) := by decide +kernel
theorem dX12_readsCore_164 : decode cX12_readsCore 164 = .ok (.putfield 153, 3) := by decide +kernel
theorem dX12_readsCore_167 : decode cX12_readsCore 167 = .ok (.return_, 1) := by decide +kernel
theorem dX12_readsPiece_0 : decode cX12_readsPiece 0 = .ok (.aload_n 0, 1) := by decide +kernel
theorem dX12_readsPiece_1 : decode cX12_readsPiece 1 = .ok (.ldc 169, 2) := by decide +kernel
theorem dX12_readsPiece_3 : decode cX12_readsPiece 3 = .ok (.invokevirtual 171, 3) := by decide +kernel
theorem dX12_readsPiece_6 : decode cX12_readsPiece 6 = .ok (.ifCond .eq 19, 3) := by decide +kernel
theorem dX12_readsPiece_9 : decode cX12_readsPiece 9 = .ok (.aload_n 0, 1) := by decide +kernel
theorem dX12_readsPiece_10 : decode cX12_readsPiece 10 = .ok (.getfield 153, 3) := by decide +kernel
theorem dX12_readsPiece_13 : decode cX12_readsPiece 13 = .ok (.bipush 10, 2) := by decide +kernel
theorem dX12_readsPiece_15 : decode cX12_readsPiece 15 = .ok (.if_icmp .ge 10, 3) := by decide +kernel
theorem dX12_readsPiece_18 : decode cX12_readsPiece 18 = .ok (.aload_n 0, 1) := by decide +kernel
theorem dX12_readsPiece_19 : decode cX12_readsPiece 19 = .ok (.invokevirtual 175, 3) := by decide +kernel
theorem dX12_readsPiece_22 : decode cX12_readsPiece 22 = .ok (.goto 144, 3) := by decide +kernel
theorem dX12_readsPiece_25 : decode cX12_readsPiece 25 = .ok (.aload_n 0, 1) := by decide +kernel
theorem dX12_readsPiece_26 : decode cX12_readsPiece 26 = .ok (.ldc 178, 2) := by decide +kernel
theorem dX12_readsPiece_28 : decode cX12_readsPiece 28 = .ok (.invokevirtual 171, 3) := by decide +kernel
theorem dX12_readsPiece_31 : decode cX12_readsPiece 31 = .ok (.ifCond .eq 50, 3) := by decide +kernel
theorem dX12_readsPiece_34 : decode cX12_readsPiece 34 = .ok (.aload_n 0, 1) := by decide +kernel
theorem dX12_readsPiece_35 : decode cX12_readsPiece 35 = .ok (.getfield 180, 3) := by decide +kernel
theorem dX12_readsPiece_38 : decode cX12_readsPiece 38 = .ok (.ifCond .ne 43, 3) := by decide +kernel
theorem dX12_readsPiece_41 : decode cX12_readsPiece 41 = .ok (.aload_n 0, 1) := by decide +kernel
theorem dX12_readsPiece_42 : decode cX12_readsPiece 42 = .ok (.iconst 1, 1) := by decide +kernel
theorem dX12_readsPiece_43 : decode cX12_readsPiece 43 = .ok (.putfield 180, 3) := by decide +kernel
theorem dX12_readsPiece_46 : decode cX12_readsPiece 46 = .ok (.aload_n 0, 1) := by decide +kernel
theorem dX12_readsPiece_47 : decode cX12_readsPiece 47 = .ok (.invokevirtual 147, 3) := by decide +kernel
theorem dX12_readsPiece_50 : decode cX12_readsPiece 50 = .ok (.aload_n 0, 1) := by decide +kernel
theorem dX12_readsPiece_51 : decode cX12_readsPiece 51 = .ok (.getfield 25, 3) := by decide +kernel
theorem dX12_readsPiece_54 : decode cX12_readsPiece 54 = .ok (.iconst 0, 1) := by decide +kernel
theorem dX12_readsPiece_55 : decode cX12_readsPiece 55 = .ok (.aload_n 0, 1) := by decide +kernel
theorem dX12_readsPiece_56 : decode cX12_readsPiece 56 = .ok (.bipush (-20), 2) := by decide +kernel
theorem dX12_readsPiece_58 : decode cX12_readsPiece 58 = .ok (.bipush 20, 2) := by decide +kernel
theorem dX12_readsPiece_60 : decode cX12_readsPiece 60 = .ok (.invokevirtual 159, 3) := by decide +kernel
theorem dX12_readsPiece_63 : decode cX12_readsPiece 63 = .ok (.iastore, 1) := by decide +kernel
theorem dX12_readsPiece_64 : decode cX12_readsPiece 64 = .ok (.aload_n 0, 1) := by decide +kernel
theorem dX12_readsPiece_65 : decode cX12_readsPiece 65 = .ok (.getfield 25, 3) := by decide +kernel
theorem dX12_readsPiece_68 : decode cX12_readsPiece 68 = .ok (.iconst 1, 1) := by decide +kernel
theorem dX12_readsPiece_69 : decode cX12_readsPiece 69 = .ok (.aload_n 0, 1) := by decide +kernel
theorem dX12_readsPiece_70 : decode cX12_readsPiece 70 = .ok (.bipush (-20), 2) := by decide +kernel
theorem dX12_readsPiece_72 : decode cX12_readsPiece 72 = .ok (.bipush 20, 2) := by decide +kernel
theorem dX12_readsPiece_74 : decode cX12_readsPiece 74 = .ok (.invokevirtual 159, 3) := by decide +kernel
theorem dX12_readsPiece_77 : decode cX12_readsPiece 77 = .ok (.iastore, 1) := by decide +kernel
theorem dX12_readsPiece_78 : decode cX12_readsPiece 78 = .ok (.goto 88, 3) := by decide +kernel
theorem dX12_readsPiece_81 : decode cX12_readsPiece 81 = .ok (.aload_n 0, 1) := by decide +kernel
theorem dX12_readsPiece_82 : decode cX12_readsPiece 82 = .ok (.ldc 184, 2) := by decide +kernel
theorem dX12_readsPiece_84 : decode cX12_readsPiece 84 = .ok (.invokevirtual 171, 3) := by decide +kernel
theorem dX12_readsPiece_87 : decode cX12_readsPiece 87 = .ok (.ifCond .eq 35, 3) := by decide +kernel
theorem dX12_readsPiece_90 : decode cX12_readsPiece 90 = .ok (.aload_n 0, 1) := by decide +kernel
theorem dX12_readsPiece_91 : decode cX12_readsPiece 91 = .ok (.getfield 186, 3) := by decide +kernel
theorem dX12_readsPiece_94 : decode cX12_readsPiece 94 = .ok (.ifCond .ne 28, 3) := by decide +kernel
theorem dX12_readsPiece_97 : decode cX12_readsPiece 97 = .ok (.aload_n 0, 1) := by decide +kernel
theorem dX12_readsPiece_98 : decode cX12_readsPiece 98 = .ok (.iconst 1, 1) := by decide +kernel
theorem dX12_readsPiece_99 : decode cX12_readsPiece 99 = .ok (.putfield 186, 3) := by decide +kernel
theorem dX12_readsPiece_102 : decode cX12_readsPiece 102 = .ok (.aload_n 0, 1) := by decide +kernel
theorem dX12_readsPiece_103 : decode cX12_readsPiece 103 = .ok (.invokevirtual 147, 3) := by decide +kernel
theorem dX12_readsPiece_106 : decode cX12_readsPiece 106 = .ok (.aload_n 0, 1) := by decide +kernel
theorem dX12_readsPiece_107 : decode cX12_readsPiece 107 = .ok (.getfield 25, 3) := by decide +kernel
theorem dX12_readsPiece_110 : decode cX12_readsPiece 110 = .ok (.iconst 2, 1) := by decide +kernel
theorem dX12_readsPiece_111 : decode cX12_readsPiece 111 = .ok (.aload_n 0, 1) := by decide +kernel
theorem dX12_readsPiece_112 : decode cX12_readsPiece 112 = .ok (.iconst 0, 1) := by decide +kernel
theorem dX12_readsPiece_113 : decode cX12_readsPiece 113 = .ok (.bipush 99, 2) := by decide +kernel
theorem dX12_readsPiece_115 : decode cX12_readsPiece 115 = .ok (.invokevirtual 159, 3) := by decide +kernel
theorem dX12_readsPiece_118 : decode cX12_readsPiece 118 = .ok (.iastore, 1) := by decide +kernel
theorem dX12_readsPiece_119 : decode cX12_readsPiece 119 = .ok (.goto 47, 3) := by decide +kernel
theorem dX12_readsPiece_122 : decode cX12_readsPiece 122 = .ok (.aload_n 0, 1) := by decide +kernel
theorem dX12_readsPiece_123 : decode cX12_readsPiece 123 = .ok (.ldc 189, 2) := by decide +kernel
theorem dX12_readsPiece_125 : decode cX12_readsPiece 125 = .ok (.invokevirtual 171, 3) := by decide +kernel
theorem dX12_readsPiece_128 : decode cX12_readsPiece 128 = .ok (.ifCond .eq 34, 3) := by decide +kernel
theorem dX12_readsPiece_131 : decode cX12_readsPiece 131 = .ok (.aload_n 0, 1) := by decide +kernel
theorem dX12_readsPiece_132 : decode cX12_readsPiece 132 = .ok (.getfield 191, 3) := by decide +kernel
theorem dX12_readsPiece_135 : decode cX12_readsPiece 135 = .ok (.ifCond .ne 27, 3) := by decide +kernel
theorem dX12_readsPiece_138 : decode cX12_readsPiece 138 = .ok (.aload_n 0, 1) := by decide +kernel
theorem dX12_readsPiece_139 : decode cX12_readsPiece 139 = .ok (.iconst 1, 1) := by decide +kernel
theorem dX12_readsPiece_140 : decode cX12_readsPiece 140 = .ok (.putfield 191, 3) := by decide +kernel
theorem dX12_readsPiece_143 : decode cX12_readsPiece 143 = .ok (.aload_n 0, 1) := by decide +kernel
theorem dX12_readsPiece_144 : decode cX12_readsPiece 144 = .ok (.invokevirtual 147, 3) := by decide +kernel
theorem dX12_readsPiece_147 : decode cX12_readsPiece 147 = .ok (.aload_n 0, 1) := by decide +kernel
theorem dX12_readsPiece_148 : decode cX12_readsPiece 148 = .ok (.getfield 25, 3) := by decide +kernel
theorem dX12_readsPiece_151 : decode cX12_readsPiece 151 = .ok (.iconst 3, 1) := by decide +kernel
theorem dX12_readsPiece_152 : decode cX12_readsPiece 152 = .ok (.aload_n 0, 1) := by decide +kernel
theorem dX12_readsPiece_153 : decode cX12_readsPiece 153 = .ok (.iconst 0, 1) := by decide +kernel
theorem dX12_readsPiece_154 : decode cX12_readsPiece 154 = .ok (.iconst 2, 1) := by decide +kernel
theorem dX12_readsPiece_155 : decode cX12_readsPiece 155 = .ok (.invokevirtual 159, 3) := by decide +kernel
theorem dX12_readsPiece_158 : decode cX12_readsPiece 158 = .ok (.iastore, 1) := by decide +kernel
theorem dX12_readsPiece_159 : decode cX12_readsPiece 159 = .ok (.goto 7, 3) := by decide +kernel
theorem dX12_readsPiece_162 : decode cX12_readsPiece 162 = .ok (.aload_n 0, 1) := by decide +kernel
theorem dX12_readsPiece_163 : decode cX12_readsPiece 163 = .ok (.invokevirtual 150, 3) := by decide +kernel
theorem dX12_readsPiece_166 : decode cX12_readsPiece 166 = .ok (.return_, 1) := by decide +kernel
theorem dX12_readsAll_0 : decode cX12_readsAll 0 = .ok (.aload_n 0, 1) := by decide +kernel
theorem dX12_readsAll_1 : decode cX12_readsAll 1 = .ok (.iconst 0, 1) := by decide +kernel
theorem dX12_readsAll_2 : decode cX12_readsAll 2 = .ok (.putfield 101, 3) := by decide +kernel
theorem dX12_readsAll_5 : decode cX12_readsAll 5 = .ok (.aload_n 0, 1) := by decide +kernel
theorem dX12_readsAll_6 : decode cX12_readsAll 6 = .ok (.iconst (-1), 1) := by decide +kernel
theorem dX12_readsAll_7 : decode cX12_readsAll 7 = .ok (.putfield 134, 3) := by decide +kernel
theorem dX12_readsAll_10 : decode cX12_readsAll 10 = .ok (.aload_n 0, 1) := by decide +kernel
theorem dX12_readsAll_11 : decode cX12_readsAll 11 = .ok (.iconst 0, 1) := by decide +kernel
theorem dX12_readsAll_12 : decode cX12_readsAll 12 = .ok (.putfield 153, 3) := by decide +kernel
theorem dX12_readsAll_15 : decode cX12_readsAll 15 = .ok (.aload_n 0, 1) := by decide +kernel
theorem dX12_readsAll_16 : decode cX12_readsAll 16 = .ok (.iconst 0, 1) := by decide +kernel
theorem dX12_readsAll_17 : decode cX12_readsAll 17 = .ok (.putfield 180, 3) := by decide +kernel
theorem dX12_readsAll_20 : decode cX12_readsAll 20 = .ok (.aload_n 0, 1) := by decide +kernel
theorem dX12_readsAll_21 : decode cX12_readsAll 21 = .ok (.iconst 0, 1) := by decide +kernel
theorem dX12_readsAll_22 : decode cX12_readsAll 22 = .ok (.putfield 186, 3) := by decide +kernel
theorem dX12_readsAll_25 : decode cX12_readsAll 25 = .ok (.aload_n 0, 1) := by decide +kernel
theorem dX12_readsAll_26 : decode cX12_readsAll 26 = .ok (.iconst 0, 1) := by decide +kernel
theorem dX12_readsAll_27 : decode cX12_readsAll 27 = .ok (.putfield 191, 3) := by decide +kernel
theorem dX12_readsAll_30 : decode cX12_readsAll 30 = .ok (.aload_n 0, 1) := by decide +kernel
theorem dX12_readsAll_31 : decode cX12_readsAll 31 = .ok (.getfield 25, 3) := by decide +kernel
theorem dX12_readsAll_34 : decode cX12_readsAll 34 = .ok (.iconst 0, 1) := by decide +kernel
theorem dX12_readsAll_35 : decode cX12_readsAll 35 = .ok (.iconst 0, 1) := by decide +kernel
theorem dX12_readsAll_36 : decode cX12_readsAll 36 = .ok (.iastore, 1) := by decide +kernel
theorem dX12_readsAll_37 : decode cX12_readsAll 37 = .ok (.aload_n 0, 1) := by decide +kernel
theorem dX12_readsAll_38 : decode cX12_readsAll 38 = .ok (.getfield 25, 3) := by decide +kernel
theorem dX12_readsAll_41 : decode cX12_readsAll 41 = .ok (.iconst 1, 1) := by decide +kernel
theorem dX12_readsAll_42 : decode cX12_readsAll 42 = .ok (.iconst 0, 1) := by decide +kernel
theorem dX12_readsAll_43 : decode cX12_readsAll 43 = .ok (.iastore, 1) := by decide +kernel
theorem dX12_readsAll_44 : decode cX12_readsAll 44 = .ok (.aload_n 0, 1) := by decide +kernel
theorem dX12_readsAll_45 : decode cX12_readsAll 45 = .ok (.getfield 25, 3) := by decide +kernel
theorem dX12_readsAll_48 : decode cX12_readsAll 48 = .ok (.iconst 2, 1) := by decide +kernel
theorem dX12_readsAll_49 : decode cX12_readsAll 49 = .ok (.bipush 10, 2) := by decide +kernel
theorem dX12_readsAll_51 : decode cX12_readsAll 51 = .ok (.iastore, 1) := by decide +kernel
theorem dX12_readsAll_52 : decode cX12_readsAll 52 = .ok (.aload_n 0, 1) := by decide +kernel
theorem dX12_readsAll_53 : decode cX12_readsAll 53 = .ok (.getfield 25, 3) := by decide +kernel
theorem dX12_readsAll_56 : decode cX12_readsAll 56 = .ok (.iconst 3, 1) := by decide +kernel
theorem dX12_readsAll_57 : decode cX12_readsAll 57 = .ok (.iconst 0, 1) := by decide +kernel
theorem dX12_readsAll_58 : decode cX12_readsAll 58 = .ok (.iastore, 1) := by decide +kernel
theorem dX12_readsAll_59 : decode cX12_readsAll 59 = .ok (.aload_n 0, 1) := by decide +kernel
theorem dX12_readsAll_60 : decode cX12_readsAll 60 = .ok (.invokevirtual 147, 3) := by decide +kernel
theorem dX12_readsAll_63 : decode cX12_readsAll 63 = .ok (.aload_n 0, 1) := by decide +kernel
theorem dX12_readsAll_64 : decode cX12_readsAll 64 = .ok (.ldc 194, 2) := by decide +kernel
theorem dX12_readsAll_66 : decode cX12_readsAll 66 = .ok (.invokevirtual 171, 3) := by decide +kernel
theorem dX12_readsAll_69 : decode cX12_readsAll 69 = .ok (.ifCond .ne 10, 3) := by decide +kernel
theorem dX12_readsAll_72 : decode cX12_readsAll 72 = .ok (.aload_n 0, 1) := by decide +kernel
theorem dX12_readsAll_73 : decode cX12_readsAll 73 = .ok (.invokevirtual 150, 3) := by decide +kernel
theorem dX12_readsAll_76 : decode cX12_readsAll 76 = .ok (.goto 7, 3) := by decide +kernel
theorem dX12_readsAll_79 : decode cX12_readsAll 79 = .ok (.aload_n 0, 1) := by decide +kernel
theorem dX12_readsAll_80 : decode cX12_readsAll 80 = .ok (.invokevirtual 147, 3) := by decide +kernel
theorem dX12_readsAll_83 : decode cX12_readsAll 83 = .ok (.aload_n 0, 1) := by decide +kernel
theorem dX12_readsAll_84 : decode cX12_readsAll 84 = .ok (.aload_n 0, 1) := by decide +kernel
theorem dX12_readsAll_85 : decode cX12_readsAll 85 = .ok (.iconst 2, 1) := by decide +kernel
theorem dX12_readsAll_86 : decode cX12_readsAll 86 = .ok (.bipush 9, 2) := by decide +kernel
theorem dX12_readsAll_88 : decode cX12_readsAll 88 = .ok (.invokevirtual 159, 3) := by decide +kernel
theorem dX12_readsAll_91 : decode cX12_readsAll 91 = .ok (.putfield 156, 3) := by decide +kernel
theorem dX12_readsAll_94 : decode cX12_readsAll 94 = .ok (.aload_n 0, 1) := by decide +kernel
theorem dX12_readsAll_95 : decode cX12_readsAll 95 = .ok (.aload_n 0, 1) := by decide +kernel
theorem dX12_readsAll_96 : decode cX12_readsAll 96 = .ok (.iconst 2, 1) := by decide +kernel
theorem dX12_readsAll_97 : decode cX12_readsAll 97 = .ok (.bipush 9, 2) := by decide +kernel
theorem dX12_readsAll_99 : decode cX12_readsAll 99 = .ok (.invokevirtual 159, 3) := by decide +kernel
theorem dX12_readsAll_102 : decode cX12_readsAll 102 = .ok (.putfield 166, 3) := by decide +kernel
theorem dX12_readsAll_105 : decode cX12_readsAll 105 = .ok (.aload_n 0, 1) := by decide +kernel
theorem dX12_readsAll_106 : decode cX12_readsAll 106 = .ok (.bipush 59, 2) := by decide +kernel
theorem dX12_readsAll_108 : decode cX12_readsAll 108 = .ok (.invokevirtual 196, 3) := by decide +kernel
theorem dX12_readsAll_111 : decode cX12_readsAll 111 = .ok (.ifCond .eq 10, 3) := by decide +kernel
theorem dX12_readsAll_114 : decode cX12_readsAll 114 = .ok (.aload_n 0, 1) := by decide +kernel
theorem dX12_readsAll_115 : decode cX12_readsAll 115 = .ok (.invokevirtual 199, 3) := by decide +kernel
theorem dX12_readsAll_118 : decode cX12_readsAll 118 = .ok (.goto (-13), 3) := by decide +kernel
theorem dX12_readsAll_121 : decode cX12_readsAll 121 = .ok (.aload_n 0, 1) := by decide +kernel
theorem dX12_readsAll_122 : decode cX12_readsAll 122 = .ok (.getfield 134, 3) := by decide +kernel
theorem dX12_readsAll_125 : decode cX12_readsAll 125 = .ok (.iconst (-1), 1) := by decide +kernel
theorem dX12_readsAll_126 : decode cX12_readsAll 126 = .ok (.if_icmp .ne 14, 3) := by decide +kernel
theorem dX12_readsAll_129 : decode cX12_readsAll 129 = .ok (.aload_n 0, 1) := by decide +kernel
theorem dX12_readsAll_130 : decode cX12_readsAll 130 = .ok (.getfield 111, 3) := by decide +kernel
theorem dX12_readsAll_133 : decode cX12_readsAll 133 = .ok (.ifCond .eq 7, 3) := by decide +kernel
theorem dX12_readsAll_136 : decode cX12_readsAll 136 = .ok (.aload_n 0, 1) := by decide +kernel
theorem dX12_readsAll_137 : decode cX12_readsAll 137 = .ok (.invokevirtual 150, 3) := by decide +kernel
theorem dX12_readsAll_140 : decode cX12_readsAll 140 = .ok (.aload_n 0, 1) := by decide +kernel
theorem dX12_readsAll_141 : decode cX12_readsAll 141 = .ok (.getfield 134, 3) := by decide +kernel
theorem dX12_readsAll_144 : decode cX12_readsAll 144 = .ok (.ireturn, 1) := by decide +kernel
theorem dX12_fault_0 : decode cX12_fault 0 = .ok (.aload_n 0, 1) := by decide +kernel
theorem dX12_fault_1 : decode cX12_fault 1 = .ok (.iconst 0, 1) := by decide +kernel
theorem dX12_fault_2 : decode cX12_fault 2 = .ok (.putfield 86, 3) := by decide +kernel
theorem dX12_fault_5 : decode cX12_fault 5 = .ok (.aload_n 0, 1) := by decide +kernel
theorem dX12_fault_6 : decode cX12_fault 6 = .ok (.invokevirtual 202, 3) := by decide +kernel
theorem dX12_fault_9 : decode cX12_fault 9 = .ok (.ireturn, 1) := by decide +kernel
theorem dX12_feed_0 : decode cX12_feed 0 = .ok (.aload_n 0, 1) := by decide +kernel
theorem dX12_feed_1 : decode cX12_feed 1 = .ok (.iconst 0, 1) := by decide +kernel
theorem dX12_feed_2 : decode cX12_feed 2 = .ok (.putfield 86, 3) := by decide +kernel
theorem dX12_feed_5 : decode cX12_feed 5 = .ok (.iconst 0, 1) := by decide +kernel
theorem dX12_feed_6 : decode cX12_feed 6 = .ok (.istore 6, 2) := by decide +kernel
theorem dX12_feed_8 : decode cX12_feed 8 = .ok (.iconst 0, 1) := by decide +kernel
theorem dX12_feed_9 : decode cX12_feed 9 = .ok (.istore 7, 2) := by decide +kernel
theorem dX12_feed_11 : decode cX12_feed 11 = .ok (.iload 7, 2) := by decide +kernel
theorem dX12_feed_13 : decode cX12_feed 13 = .ok (.bipush 20, 2) := by decide +kernel
theorem dX12_feed_15 : decode cX12_feed 15 = .ok (.if_icmp .ge 34, 3) := by decide +kernel
theorem dX12_feed_18 : decode cX12_feed 18 = .ok (.iload 6, 2) := by decide +kernel
theorem dX12_feed_20 : decode cX12_feed 20 = .ok (.iload_n 1, 1) := by decide +kernel
theorem dX12_feed_21 : decode cX12_feed 21 = .ok (.iload_n 2, 1) := by decide +kernel
theorem dX12_feed_22 : decode cX12_feed 22 = .ok (.iload_n 3, 1) := by decide +kernel
theorem dX12_feed_23 : decode cX12_feed 23 = .ok (.iload 4, 2) := by decide +kernel
theorem dX12_feed_25 : decode cX12_feed 25 = .ok (.iload 5, 2) := by decide +kernel
theorem dX12_feed_27 : decode cX12_feed 27 = .ok (.iload 7, 2) := by decide +kernel
theorem dX12_feed_29 : decode cX12_feed 29 = .ok (.invokestatic 90, 3) := by decide +kernel
theorem dX12_feed_32 : decode cX12_feed 32 = .ok (.ifCond .eq 7, 3) := by decide +kernel
theorem dX12_feed_35 : decode cX12_feed 35 = .ok (.iconst 1, 1) := by decide +kernel
theorem dX12_feed_36 : decode cX12_feed 36 = .ok (.goto 4, 3) := by decide +kernel
theorem dX12_feed_39 : decode cX12_feed 39 = .ok (.iconst 0, 1) := by decide +kernel
theorem dX12_feed_40 : decode cX12_feed 40 = .ok (.iadd, 1) := by decide +kernel
theorem dX12_feed_41 : decode cX12_feed 41 = .ok (.istore 6, 2) := by decide +kernel
theorem dX12_feed_43 : decode cX12_feed 43 = .ok (.iinc 7 1, 3) := by decide +kernel
theorem dX12_feed_46 : decode cX12_feed 46 = .ok (.goto (-35), 3) := by decide +kernel
theorem dX12_feed_49 : decode cX12_feed 49 = .ok (.aload_n 0, 1) := by decide +kernel
theorem dX12_feed_50 : decode cX12_feed 50 = .ok (.getfield 94, 3) := by decide +kernel
theorem dX12_feed_53 : decode cX12_feed 53 = .ok (.iload 6, 2) := by decide +kernel
theorem dX12_feed_55 : decode cX12_feed 55 = .ok (.iadd, 1) := by decide +kernel
theorem dX12_feed_56 : decode cX12_feed 56 = .ok (.sipush 300, 3) := by decide +kernel
theorem dX12_feed_59 : decode cX12_feed 59 = .ok (.if_icmp .le 5, 3) := by decide +kernel
theorem dX12_feed_62 : decode cX12_feed 62 = .ok (.iconst (-1), 1) := by decide +kernel
theorem dX12_feed_63 : decode cX12_feed 63 = .ok (.ireturn, 1) := by decide +kernel
theorem dX12_feed_64 : decode cX12_feed 64 = .ok (.iconst 0, 1) := by decide +kernel
theorem dX12_feed_65 : decode cX12_feed 65 = .ok (.istore 7, 2) := by decide +kernel
theorem dX12_feed_67 : decode cX12_feed 67 = .ok (.iload 7, 2) := by decide +kernel
theorem dX12_feed_69 : decode cX12_feed 69 = .ok (.bipush 20, 2) := by decide +kernel
theorem dX12_feed_71 : decode cX12_feed 71 = .ok (.if_icmp .ge 49, 3) := by decide +kernel
theorem dX12_feed_74 : decode cX12_feed 74 = .ok (.iload_n 1, 1) := by decide +kernel
theorem dX12_feed_75 : decode cX12_feed 75 = .ok (.iload_n 2, 1) := by decide +kernel
theorem dX12_feed_76 : decode cX12_feed 76 = .ok (.iload_n 3, 1) := by decide +kernel
theorem dX12_feed_77 : decode cX12_feed 77 = .ok (.iload 4, 2) := by decide +kernel
theorem dX12_feed_79 : decode cX12_feed 79 = .ok (.iload 5, 2) := by decide +kernel
theorem dX12_feed_81 : decode cX12_feed 81 = .ok (.iload 7, 2) := by decide +kernel
theorem dX12_feed_83 : decode cX12_feed 83 = .ok (.invokestatic 90, 3) := by decide +kernel
theorem dX12_feed_86 : decode cX12_feed 86 = .ok (.istore 8, 2) := by decide +kernel
theorem dX12_feed_88 : decode cX12_feed 88 = .ok (.iload 8, 2) := by decide +kernel
theorem dX12_feed_90 : decode cX12_feed 90 = .ok (.ifCond .eq 24, 3) := by decide +kernel
theorem dX12_feed_93 : decode cX12_feed 93 = .ok (.aload_n 0, 1) := by decide +kernel
theorem dX12_feed_94 : decode cX12_feed 94 = .ok (.getfield 9, 3) := by decide +kernel
theorem dX12_feed_97 : decode cX12_feed 97 = .ok (.aload_n 0, 1) := by decide +kernel
theorem dX12_feed_98 : decode cX12_feed 98 = .ok (.getfield 94, 3) := by decide +kernel
theorem dX12_feed_101 : decode cX12_feed 101 = .ok (.iload 8, 2) := by decide +kernel
theorem dX12_feed_103 : decode cX12_feed 103 = .ok (.iastore, 1) := by decide +kernel
theorem dX12_feed_104 : decode cX12_feed 104 = .ok (.aload_n 0, 1) := by decide +kernel
theorem dX12_feed_105 : decode cX12_feed 105 = .ok (.dup, 1) := by decide +kernel
theorem dX12_feed_106 : decode cX12_feed 106 = .ok (.getfield 94, 3) := by decide +kernel
theorem dX12_feed_109 : decode cX12_feed 109 = .ok (.iconst 1, 1) := by decide +kernel
theorem dX12_feed_110 : decode cX12_feed 110 = .ok (.iadd, 1) := by decide +kernel
theorem dX12_feed_111 : decode cX12_feed 111 = .ok (.putfield 94, 3) := by decide +kernel
theorem dX12_feed_114 : decode cX12_feed 114 = .ok (.iinc 7 1, 3) := by decide +kernel
theorem dX12_feed_117 : decode cX12_feed 117 = .ok (.goto (-50), 3) := by decide +kernel
theorem dX12_feed_120 : decode cX12_feed 120 = .ok (.aload_n 0, 1) := by decide +kernel
theorem dX12_feed_121 : decode cX12_feed 121 = .ok (.getfield 94, 3) := by decide +kernel
theorem dX12_feed_124 : decode cX12_feed 124 = .ok (.ireturn, 1) := by decide +kernel
theorem dX12_keeps_0 : decode cX12_keeps 0 = .ok (.aload_n 0, 1) := by decide +kernel
theorem dX12_keeps_1 : decode cX12_keeps 1 = .ok (.getfield 229, 3) := by decide +kernel
theorem dX12_keeps_4 : decode cX12_keeps 4 = .ok (.bipush 20, 2) := by decide +kernel
theorem dX12_keeps_6 : decode cX12_keeps 6 = .ok (.if_icmp .ne 46, 3) := by decide +kernel
theorem dX12_keeps_9 : decode cX12_keeps 9 = .ok (.sipush 486, 3) := by decide +kernel
theorem dX12_keeps_12 : decode cX12_keeps 12 = .ok (.istore_n 1, 1) := by decide +kernel
theorem dX12_keeps_13 : decode cX12_keeps 13 = .ok (.iload_n 1, 1) := by decide +kernel
theorem dX12_keeps_14 : decode cX12_keeps 14 = .ok (.sipush 9720, 3) := by decide +kernel
theorem dX12_keeps_17 : decode cX12_keeps 17 = .ok (.if_icmp .ge 25, 3) := by decide +kernel
theorem dX12_keeps_20 : decode cX12_keeps 20 = .ok (.aload_n 0, 1) := by decide +kernel
theorem dX12_keeps_21 : decode cX12_keeps 21 = .ok (.getfield 49, 3) := by decide +kernel
theorem dX12_keeps_24 : decode cX12_keeps 24 = .ok (.iload_n 1, 1) := by decide +kernel
theorem dX12_keeps_25 : decode cX12_keeps 25 = .ok (.sipush 486, 3) := by decide +kernel
theorem dX12_keeps_28 : decode cX12_keeps 28 = .ok (.isub, 1) := by decide +kernel
theorem dX12_keeps_29 : decode cX12_keeps 29 = .ok (.aload_n 0, 1) := by decide +kernel
theorem dX12_keeps_30 : decode cX12_keeps 30 = .ok (.getfield 49, 3) := by decide +kernel
theorem dX12_keeps_33 : decode cX12_keeps 33 = .ok (.iload_n 1, 1) := by decide +kernel
theorem dX12_keeps_34 : decode cX12_keeps 34 = .ok (.iaload, 1) := by decide +kernel
theorem dX12_keeps_35 : decode cX12_keeps 35 = .ok (.iastore, 1) := by decide +kernel
theorem dX12_keeps_36 : decode cX12_keeps 36 = .ok (.iinc 1 1, 3) := by decide +kernel
theorem dX12_keeps_39 : decode cX12_keeps 39 = .ok (.goto (-26), 3) := by decide +kernel
theorem dX12_keeps_42 : decode cX12_keeps 42 = .ok (.aload_n 0, 1) := by decide +kernel
theorem dX12_keeps_43 : decode cX12_keeps 43 = .ok (.dup, 1) := by decide +kernel
theorem dX12_keeps_44 : decode cX12_keeps 44 = .ok (.getfield 229, 3) := by decide +kernel
theorem dX12_keeps_47 : decode cX12_keeps 47 = .ok (.iconst 1, 1) := by decide +kernel
theorem dX12_keeps_48 : decode cX12_keeps 48 = .ok (.isub, 1) := by decide +kernel
theorem dX12_keeps_49 : decode cX12_keeps 49 = .ok (.putfield 229, 3) := by decide +kernel
theorem dX12_keeps_52 : decode cX12_keeps 52 = .ok (.iconst 0, 1) := by decide +kernel
theorem dX12_keeps_53 : decode cX12_keeps 53 = .ok (.istore_n 1, 1) := by decide +kernel
theorem dX12_keeps_54 : decode cX12_keeps 54 = .ok (.iload_n 1, 1) := by decide +kernel
theorem dX12_keeps_55 : decode cX12_keeps 55 = .ok (.sipush 486, 3) := by decide +kernel
theorem dX12_keeps_58 : decode cX12_keeps 58 = .ok (.if_icmp .ge 30, 3) := by decide +kernel
theorem dX12_keeps_61 : decode cX12_keeps 61 = .ok (.aload_n 0, 1) := by decide +kernel
theorem dX12_keeps_62 : decode cX12_keeps 62 = .ok (.getfield 49, 3) := by decide +kernel
theorem dX12_keeps_65 : decode cX12_keeps 65 = .ok (.sipush 486, 3) := by decide +kernel
theorem dX12_keeps_68 : decode cX12_keeps 68 = .ok (.aload_n 0, 1) := by decide +kernel
theorem dX12_keeps_69 : decode cX12_keeps 69 = .ok (.getfield 229, 3) := by decide +kernel
theorem dX12_keeps_72 : decode cX12_keeps 72 = .ok (.imul, 1) := by decide +kernel
theorem dX12_keeps_73 : decode cX12_keeps 73 = .ok (.iload_n 1, 1) := by decide +kernel
theorem dX12_keeps_74 : decode cX12_keeps 74 = .ok (.iadd, 1) := by decide +kernel
theorem dX12_keeps_75 : decode cX12_keeps 75 = .ok (.aload_n 0, 1) := by decide +kernel
theorem dX12_keeps_76 : decode cX12_keeps 76 = .ok (.getfield 28, 3) := by decide +kernel
theorem dX12_keeps_79 : decode cX12_keeps 79 = .ok (.iload_n 1, 1) := by decide +kernel
theorem dX12_keeps_80 : decode cX12_keeps 80 = .ok (.iaload, 1) := by decide +kernel
theorem dX12_keeps_81 : decode cX12_keeps 81 = .ok (.iastore, 1) := by decide +kernel
theorem dX12_keeps_82 : decode cX12_keeps 82 = .ok (.iinc 1 1, 3) := by decide +kernel
theorem dX12_keeps_85 : decode cX12_keeps 85 = .ok (.goto (-31), 3) := by decide +kernel
theorem dX12_keeps_88 : decode cX12_keeps 88 = .ok (.aload_n 0, 1) := by decide +kernel
theorem dX12_keeps_89 : decode cX12_keeps 89 = .ok (.dup, 1) := by decide +kernel
theorem dX12_keeps_90 : decode cX12_keeps 90 = .ok (.getfield 229, 3) := by decide +kernel
theorem dX12_keeps_93 : decode cX12_keeps 93 = .ok (.iconst 1, 1) := by decide +kernel
theorem dX12_keeps_94 : decode cX12_keeps 94 = .ok (.iadd, 1) := by decide +kernel
theorem dX12_keeps_95 : decode cX12_keeps 95 = .ok (.putfield 229, 3) := by decide +kernel
theorem dX12_keeps_98 : decode cX12_keeps 98 = .ok (.return_, 1) := by decide +kernel
theorem dX12_logs_0 : decode cX12_logs 0 = .ok (.aload_n 0, 1) := by decide +kernel
theorem dX12_logs_1 : decode cX12_logs 1 = .ok (.getfield 28, 3) := by decide +kernel
theorem dX12_logs_4 : decode cX12_logs 4 = .ok (.sipush 324, 3) := by decide +kernel
theorem dX12_logs_7 : decode cX12_logs 7 = .ok (.iaload, 1) := by decide +kernel
theorem dX12_logs_8 : decode cX12_logs 8 = .ok (.bipush 40, 2) := by decide +kernel
theorem dX12_logs_10 : decode cX12_logs 10 = .ok (.if_icmp .ne 56, 3) := by decide +kernel
theorem dX12_logs_13 : decode cX12_logs 13 = .ok (.iconst 4, 1) := by decide +kernel
theorem dX12_logs_14 : decode cX12_logs 14 = .ok (.istore 4, 2) := by decide +kernel
theorem dX12_logs_16 : decode cX12_logs 16 = .ok (.iload 4, 2) := by decide +kernel
theorem dX12_logs_18 : decode cX12_logs 18 = .ok (.sipush 160, 3) := by decide +kernel
theorem dX12_logs_21 : decode cX12_logs 21 = .ok (.if_icmp .ge 33, 3) := by decide +kernel
theorem dX12_logs_24 : decode cX12_logs 24 = .ok (.aload_n 0, 1) := by decide +kernel
theorem dX12_logs_25 : decode cX12_logs 25 = .ok (.getfield 28, 3) := by decide +kernel
theorem dX12_logs_28 : decode cX12_logs 28 = .ok (.sipush 326, 3) := by decide +kernel
theorem dX12_logs_31 : decode cX12_logs 31 = .ok (.iload 4, 2) := by decide +kernel
theorem dX12_logs_33 : decode cX12_logs 33 = .ok (.iadd, 1) := by decide +kernel
theorem dX12_logs_34 : decode cX12_logs 34 = .ok (.iconst 4, 1) := by decide +kernel
theorem dX12_logs_35 : decode cX12_logs 35 = .ok (.isub, 1) := by decide +kernel
theorem dX12_logs_36 : decode cX12_logs 36 = .ok (.aload_n 0, 1) := by decide +kernel
theorem dX12_logs_37 : decode cX12_logs 37 = .ok (.getfield 28, 3) := by decide +kernel
theorem dX12_logs_40 : decode cX12_logs 40 = .ok (.sipush 326, 3) := by decide +kernel
theorem dX12_logs_43 : decode cX12_logs 43 = .ok (.iload 4, 2) := by decide +kernel
theorem dX12_logs_45 : decode cX12_logs 45 = .ok (.iadd, 1) := by decide +kernel
theorem dX12_logs_46 : decode cX12_logs 46 = .ok (.iaload, 1) := by decide +kernel
theorem dX12_logs_47 : decode cX12_logs 47 = .ok (.iastore, 1) := by decide +kernel
theorem dX12_logs_48 : decode cX12_logs 48 = .ok (.iinc 4 1, 3) := by decide +kernel
theorem dX12_logs_51 : decode cX12_logs 51 = .ok (.goto (-35), 3) := by decide +kernel
theorem dX12_logs_54 : decode cX12_logs 54 = .ok (.aload_n 0, 1) := by decide +kernel
theorem dX12_logs_55 : decode cX12_logs 55 = .ok (.getfield 28, 3) := by decide +kernel
theorem dX12_logs_58 : decode cX12_logs 58 = .ok (.sipush 324, 3) := by decide +kernel
theorem dX12_logs_61 : decode cX12_logs 61 = .ok (.dup2, 1) := by decide +kernel
theorem dX12_logs_62 : decode cX12_logs 62 = .ok (.iaload, 1) := by decide +kernel
theorem dX12_logs_63 : decode cX12_logs 63 = .ok (.iconst 1, 1) := by decide +kernel
theorem dX12_logs_64 : decode cX12_logs 64 = .ok (.isub, 1) := by decide +kernel
theorem dX12_logs_65 : decode cX12_logs 65 = .ok (.iastore, 1) := by decide +kernel
theorem dX12_logs_66 : decode cX12_logs 66 = .ok (.sipush 326, 3) := by decide +kernel
theorem dX12_logs_69 : decode cX12_logs 69 = .ok (.iconst 4, 1) := by decide +kernel
theorem dX12_logs_70 : decode cX12_logs 70 = .ok (.aload_n 0, 1) := by decide +kernel
theorem dX12_logs_71 : decode cX12_logs 71 = .ok (.getfield 28, 3) := by decide +kernel
theorem dX12_logs_74 : decode cX12_logs 74 = .ok (.sipush 324, 3) := by decide +kernel
theorem dX12_logs_77 : decode cX12_logs 77 = .ok (.iaload, 1) := by decide +kernel
theorem dX12_logs_78 : decode cX12_logs 78 = .ok (.imul, 1) := by decide +kernel
theorem dX12_logs_79 : decode cX12_logs 79 = .ok (.iadd, 1) := by decide +kernel
theorem dX12_logs_80 : decode cX12_logs 80 = .ok (.istore 4, 2) := by decide +kernel
theorem dX12_logs_82 : decode cX12_logs 82 = .ok (.aload_n 0, 1) := by decide +kernel
theorem dX12_logs_83 : decode cX12_logs 83 = .ok (.getfield 28, 3) := by decide +kernel
theorem dX12_logs_86 : decode cX12_logs 86 = .ok (.iload 4, 2) := by decide +kernel
theorem dX12_logs_88 : decode cX12_logs 88 = .ok (.iload_n 1, 1) := by decide +kernel
theorem dX12_logs_89 : decode cX12_logs 89 = .ok (.iastore, 1) := by decide +kernel
theorem dX12_logs_90 : decode cX12_logs 90 = .ok (.aload_n 0, 1) := by decide +kernel
theorem dX12_logs_91 : decode cX12_logs 91 = .ok (.getfield 28, 3) := by decide +kernel
theorem dX12_logs_94 : decode cX12_logs 94 = .ok (.iload 4, 2) := by decide +kernel
theorem dX12_logs_96 : decode cX12_logs 96 = .ok (.iconst 1, 1) := by decide +kernel
theorem dX12_logs_97 : decode cX12_logs 97 = .ok (.iadd, 1) := by decide +kernel
theorem dX12_logs_98 : decode cX12_logs 98 = .ok (.iload_n 2, 1) := by decide +kernel
theorem dX12_logs_99 : decode cX12_logs 99 = .ok (.iastore, 1) := by decide +kernel
theorem dX12_logs_100 : decode cX12_logs 100 = .ok (.aload_n 0, 1) := by decide +kernel
theorem dX12_logs_101 : decode cX12_logs 101 = .ok (.getfield 28, 3) := by decide +kernel
theorem dX12_logs_104 : decode cX12_logs 104 = .ok (.iload 4, 2) := by decide +kernel
theorem dX12_logs_106 : decode cX12_logs 106 = .ok (.iconst 2, 1) := by decide +kernel
theorem dX12_logs_107 : decode cX12_logs 107 = .ok (.iadd, 1) := by decide +kernel
theorem dX12_logs_108 : decode cX12_logs 108 = .ok (.iload_n 3, 1) := by decide +kernel
theorem dX12_logs_109 : decode cX12_logs 109 = .ok (.iastore, 1) := by decide +kernel
theorem dX12_logs_110 : decode cX12_logs 110 = .ok (.aload_n 0, 1) := by decide +kernel
theorem dX12_logs_111 : decode cX12_logs 111 = .ok (.getfield 28, 3) := by decide +kernel
theorem dX12_logs_114 : decode cX12_logs 114 = .ok (.iload 4, 2) := by decide +kernel
theorem dX12_logs_116 : decode cX12_logs 116 = .ok (.iconst 3, 1) := by decide +kernel
theorem dX12_logs_117 : decode cX12_logs 117 = .ok (.iadd, 1) := by decide +kernel
theorem dX12_logs_118 : decode cX12_logs 118 = .ok (.aload_n 0, 1) := by decide +kernel
theorem dX12_logs_119 : decode cX12_logs 119 = .ok (.iconst 0, 1) := by decide +kernel
theorem dX12_logs_120 : decode cX12_logs 120 = .ok (.iconst 0, 1) := by decide +kernel
theorem dX12_logs_121 : decode cX12_logs 121 = .ok (.aload_n 0, 1) := by decide +kernel
theorem dX12_logs_122 : decode cX12_logs 122 = .ok (.getfield 205, 3) := by decide +kernel
theorem dX12_logs_125 : decode cX12_logs 125 = .ok (.iconst 1, 1) := by decide +kernel
theorem dX12_logs_126 : decode cX12_logs 126 = .ok (.isub, 1) := by decide +kernel
theorem dX12_logs_127 : decode cX12_logs 127 = .ok (.aload_n 0, 1) := by decide +kernel
theorem dX12_logs_128 : decode cX12_logs 128 = .ok (.getfield 208, 3) := by decide +kernel
theorem dX12_logs_131 : decode cX12_logs 131 = .ok (.iconst 1, 1) := by decide +kernel
theorem dX12_logs_132 : decode cX12_logs 132 = .ok (.isub, 1) := by decide +kernel
theorem dX12_logs_133 : decode cX12_logs 133 = .ok (.invokevirtual 334, 3) := by decide +kernel
theorem dX12_logs_136 : decode cX12_logs 136 = .ok (.iastore, 1) := by decide +kernel
theorem dX12_logs_137 : decode cX12_logs 137 = .ok (.aload_n 0, 1) := by decide +kernel
theorem dX12_logs_138 : decode cX12_logs 138 = .ok (.getfield 28, 3) := by decide +kernel
theorem dX12_logs_141 : decode cX12_logs 141 = .ok (.sipush 324, 3) := by decide +kernel
theorem dX12_logs_144 : decode cX12_logs 144 = .ok (.dup2, 1) := by decide +kernel
theorem dX12_logs_145 : decode cX12_logs 145 = .ok (.iaload, 1) := by decide +kernel
theorem dX12_logs_146 : decode cX12_logs 146 = .ok (.iconst 1, 1) := by decide +kernel
theorem dX12_logs_147 : decode cX12_logs 147 = .ok (.iadd, 1) := by decide +kernel
theorem dX12_logs_148 : decode cX12_logs 148 = .ok (.iastore, 1) := by decide +kernel
theorem dX12_logs_149 : decode cX12_logs 149 = .ok (.return_, 1) := by decide +kernel
theorem dX12_refuses_0 : decode cX12_refuses 0 = .ok (.aload_n 0, 1) := by decide +kernel
theorem dX12_refuses_1 : decode cX12_refuses 1 = .ok (.getfield 52, 3) := by decide +kernel
theorem dX12_refuses_4 : decode cX12_refuses 4 = .ok (.iload_n 1, 1) := by decide +kernel
theorem dX12_refuses_5 : decode cX12_refuses 5 = .ok (.dup2, 1) := by decide +kernel
theorem dX12_refuses_6 : decode cX12_refuses 6 = .ok (.iaload, 1) := by decide +kernel
theorem dX12_refuses_7 : decode cX12_refuses 7 = .ok (.iconst 1, 1) := by decide +kernel
theorem dX12_refuses_8 : decode cX12_refuses 8 = .ok (.iadd, 1) := by decide +kernel
theorem dX12_refuses_9 : decode cX12_refuses 9 = .ok (.iastore, 1) := by decide +kernel
theorem dX12_refuses_10 : decode cX12_refuses 10 = .ok (.iconst (-1), 1) := by decide +kernel
theorem dX12_refuses_11 : decode cX12_refuses 11 = .ok (.ireturn, 1) := by decide +kernel
theorem dX12_go_0 : decode cX12_go 0 = .ok (.aload_n 0, 1) := by decide +kernel
theorem dX12_go_1 : decode cX12_go 1 = .ok (.iconst 0, 1) := by decide +kernel
theorem dX12_go_2 : decode cX12_go 2 = .ok (.putfield 86, 3) := by decide +kernel
theorem dX12_go_5 : decode cX12_go 5 = .ok (.aload_n 0, 1) := by decide +kernel
theorem dX12_go_6 : decode cX12_go 6 = .ok (.invokevirtual 306, 3) := by decide +kernel
theorem dX12_go_9 : decode cX12_go 9 = .ok (.ifCond .ne 9, 3) := by decide +kernel
theorem dX12_go_12 : decode cX12_go 12 = .ok (.aload_n 0, 1) := by decide +kernel
theorem dX12_go_13 : decode cX12_go 13 = .ok (.iconst 0, 1) := by decide +kernel
theorem dX12_go_14 : decode cX12_go 14 = .ok (.invokevirtual 354, 3) := by decide +kernel
theorem dX12_go_17 : decode cX12_go 17 = .ok (.ireturn, 1) := by decide +kernel
theorem dX12_go_18 : decode cX12_go 18 = .ok (.iload_n 1, 1) := by decide +kernel
theorem dX12_go_19 : decode cX12_go 19 = .ok (.i2l, 1) := by decide +kernel
theorem dX12_go_20 : decode cX12_go 20 = .ok (.lconst 1, 1) := by decide +kernel
theorem dX12_go_21 : decode cX12_go 21 = .ok (.ldc2_w 385, 3) := by decide +kernel
theorem dX12_go_24 : decode cX12_go 24 = .ok (.invokestatic 97, 3) := by decide +kernel
theorem dX12_go_27 : decode cX12_go 27 = .ok (.ifCond .ne 9, 3) := by decide +kernel
theorem dX12_go_30 : decode cX12_go 30 = .ok (.aload_n 0, 1) := by decide +kernel
theorem dX12_go_31 : decode cX12_go 31 = .ok (.iconst 2, 1) := by decide +kernel
theorem dX12_go_32 : decode cX12_go 32 = .ok (.invokevirtual 354, 3) := by decide +kernel
theorem dX12_go_35 : decode cX12_go 35 = .ok (.ireturn, 1) := by decide +kernel
theorem dX12_go_36 : decode cX12_go 36 = .ok (.iconst 0, 1) := by decide +kernel
theorem dX12_go_37 : decode cX12_go 37 = .ok (.istore_n 2, 1) := by decide +kernel
theorem dX12_go_38 : decode cX12_go 38 = .ok (.iconst 0, 1) := by decide +kernel
theorem dX12_go_39 : decode cX12_go 39 = .ok (.istore_n 3, 1) := by decide +kernel
theorem dX12_go_40 : decode cX12_go 40 = .ok (.iload_n 3, 1) := by decide +kernel
theorem dX12_go_41 : decode cX12_go 41 = .ok (.iload_n 1, 1) := by decide +kernel
theorem dX12_go_42 : decode cX12_go 42 = .ok (.if_icmp .ge 44, 3) := by decide +kernel
theorem dX12_go_45 : decode cX12_go 45 = .ok (.aload_n 0, 1) := by decide +kernel
theorem dX12_go_46 : decode cX12_go 46 = .ok (.invokevirtual 364, 3) := by decide +kernel
theorem dX12_go_49 : decode cX12_go 49 = .ok (.aload_n 0, 1) := by decide +kernel
theorem dX12_go_50 : decode cX12_go 50 = .ok (.invokevirtual 387, 3) := by decide +kernel
theorem dX12_go_53 : decode cX12_go 53 = .ok (.aload_n 0, 1) := by decide +kernel
theorem dX12_go_54 : decode cX12_go 54 = .ok (.invokevirtual 390, 3) := by decide +kernel
theorem dX12_go_57 : decode cX12_go 57 = .ok (.iload_n 2, 1) := by decide +kernel
theorem dX12_go_58 : decode cX12_go 58 = .ok (.aload_n 0, 1) := by decide +kernel
theorem dX12_go_59 : decode cX12_go 59 = .ok (.getfield 376, 3) := by decide +kernel
theorem dX12_go_62 : decode cX12_go 62 = .ok (.iadd, 1) := by decide +kernel
theorem dX12_go_63 : decode cX12_go 63 = .ok (.istore_n 2, 1) := by decide +kernel
theorem dX12_go_64 : decode cX12_go 64 = .ok (.aload_n 0, 1) := by decide +kernel
theorem dX12_go_65 : decode cX12_go 65 = .ok (.aload_n 0, 1) := by decide +kernel
theorem dX12_go_66 : decode cX12_go 66 = .ok (.getfield 376, 3) := by decide +kernel
theorem dX12_go_69 : decode cX12_go 69 = .ok (.aload_n 0, 1) := by decide +kernel
theorem dX12_go_70 : decode cX12_go 70 = .ok (.getfield 379, 3) := by decide +kernel
theorem dX12_go_73 : decode cX12_go 73 = .ok (.aload_n 0, 1) := by decide +kernel
theorem dX12_go_74 : decode cX12_go 74 = .ok (.getfield 382, 3) := by decide +kernel
theorem dX12_go_77 : decode cX12_go 77 = .ok (.invokevirtual 393, 3) := by decide +kernel
theorem dX12_go_80 : decode cX12_go 80 = .ok (.iinc 3 1, 3) := by decide +kernel
theorem dX12_go_83 : decode cX12_go 83 = .ok (.goto (-43), 3) := by decide +kernel
theorem dX12_go_86 : decode cX12_go 86 = .ok (.iload_n 2, 1) := by decide +kernel
theorem dX12_go_87 : decode cX12_go 87 = .ok (.ireturn, 1) := by decide +kernel
theorem dX12_gone_0 : decode cX12_gone 0 = .ok (.aload_n 0, 1) := by decide +kernel
theorem dX12_gone_1 : decode cX12_gone 1 = .ok (.iconst 0, 1) := by decide +kernel
theorem dX12_gone_2 : decode cX12_gone 2 = .ok (.putfield 86, 3) := by decide +kernel
theorem dX12_gone_5 : decode cX12_gone 5 = .ok (.aload_n 0, 1) := by decide +kernel
theorem dX12_gone_6 : decode cX12_gone 6 = .ok (.getfield 235, 3) := by decide +kernel
theorem dX12_gone_9 : decode cX12_gone 9 = .ok (.ifCond .eq 24, 3) := by decide +kernel
theorem dX12_gone_12 : decode cX12_gone 12 = .ok (.iload_n 1, 1) := by decide +kernel
theorem dX12_gone_13 : decode cX12_gone 13 = .ok (.i2l, 1) := by decide +kernel
theorem dX12_gone_14 : decode cX12_gone 14 = .ok (.lconst 0, 1) := by decide +kernel
theorem dX12_gone_15 : decode cX12_gone 15 = .ok (.ldc2_w 352, 3) := by decide +kernel
theorem dX12_gone_18 : decode cX12_gone 18 = .ok (.invokestatic 97, 3) := by decide +kernel
theorem dX12_gone_21 : decode cX12_gone 21 = .ok (.ifCond .eq 12, 3) := by decide +kernel
theorem dX12_gone_24 : decode cX12_gone 24 = .ok (.aload_n 0, 1) := by decide +kernel
theorem dX12_gone_25 : decode cX12_gone 25 = .ok (.getfield 62, 3) := by decide +kernel
theorem dX12_gone_28 : decode cX12_gone 28 = .ok (.iload_n 1, 1) := by decide +kernel
theorem dX12_gone_29 : decode cX12_gone 29 = .ok (.iaload, 1) := by decide +kernel
theorem dX12_gone_30 : decode cX12_gone 30 = .ok (.goto 6, 3) := by decide +kernel
theorem dX12_gone_33 : decode cX12_gone 33 = .ok (.ldc_w 310, 3) := by decide +kernel
theorem dX12_gone_36 : decode cX12_gone 36 = .ok (.ireturn, 1) := by decide +kernel
theorem dX12_greatestForce_0 : decode cX12_greatestForce 0 = .ok (.iconst 0, 1) := by decide +kernel
theorem dX12_greatestForce_1 : decode cX12_greatestForce 1 = .ok (.istore_n 1, 1) := by decide +kernel
theorem dX12_greatestForce_2 : decode cX12_greatestForce 2 = .ok (.aload_n 0, 1) := by decide +kernel
theorem dX12_greatestForce_3 : decode cX12_greatestForce 3 = .ok (.invokevirtual 238, 3) := by decide +kernel
theorem dX12_greatestForce_6 : decode cX12_greatestForce 6 = .ok (.pop, 1) := by decide +kernel
theorem dX12_greatestForce_7 : decode cX12_greatestForce 7 = .ok (.iconst 0, 1) := by decide +kernel
theorem dX12_greatestForce_8 : decode cX12_greatestForce 8 = .ok (.istore_n 2, 1) := by decide +kernel
theorem dX12_greatestForce_9 : decode cX12_greatestForce 9 = .ok (.iload_n 2, 1) := by decide +kernel
theorem dX12_greatestForce_10 : decode cX12_greatestForce 10 = .ok (.aload_n 0, 1) := by decide +kernel
theorem dX12_greatestForce_11 : decode cX12_greatestForce 11 = .ok (.getfield 241, 3) := by decide +kernel
theorem dX12_greatestForce_14 : decode cX12_greatestForce 14 = .ok (.if_icmp .ge 23, 3) := by decide +kernel
theorem dX12_greatestForce_17 : decode cX12_greatestForce 17 = .ok (.iload_n 1, 1) := by decide +kernel
theorem dX12_greatestForce_18 : decode cX12_greatestForce 18 = .ok (.aload_n 0, 1) := by decide +kernel
theorem dX12_greatestForce_19 : decode cX12_greatestForce 19 = .ok (.getfield 46, 3) := by decide +kernel
theorem dX12_greatestForce_22 : decode cX12_greatestForce 22 = .ok (.iload_n 2, 1) := by decide +kernel
theorem dX12_greatestForce_23 : decode cX12_greatestForce 23 = .ok (.iaload, 1) := by decide +kernel
theorem dX12_greatestForce_24 : decode cX12_greatestForce 24 = .ok (.invokestatic 370, 3) := by decide +kernel
theorem dX12_greatestForce_27 : decode cX12_greatestForce 27 = .ok (.invokestatic 464, 3) := by decide +kernel
theorem dX12_greatestForce_30 : decode cX12_greatestForce 30 = .ok (.istore_n 1, 1) := by decide +kernel
theorem dX12_greatestForce_31 : decode cX12_greatestForce 31 = .ok (.iinc 2 1, 3) := by decide +kernel
theorem dX12_greatestForce_34 : decode cX12_greatestForce 34 = .ok (.goto (-25), 3) := by decide +kernel
theorem dX12_greatestForce_37 : decode cX12_greatestForce 37 = .ok (.iload_n 1, 1) := by decide +kernel
theorem dX12_greatestForce_38 : decode cX12_greatestForce 38 = .ok (.ireturn, 1) := by decide +kernel
theorem dX12_greatestNumber_0 : decode cX12_greatestNumber 0 = .ok (.iconst 0, 1) := by decide +kernel
theorem dX12_greatestNumber_1 : decode cX12_greatestNumber 1 = .ok (.istore_n 1, 1) := by decide +kernel
theorem dX12_greatestNumber_2 : decode cX12_greatestNumber 2 = .ok (.iconst 0, 1) := by decide +kernel
theorem dX12_greatestNumber_3 : decode cX12_greatestNumber 3 = .ok (.istore_n 2, 1) := by decide +kernel
theorem dX12_greatestNumber_4 : decode cX12_greatestNumber 4 = .ok (.iload_n 2, 1) := by decide +kernel
theorem dX12_greatestNumber_5 : decode cX12_greatestNumber 5 = .ok (.aload_n 0, 1) := by decide +kernel
theorem dX12_greatestNumber_6 : decode cX12_greatestNumber 6 = .ok (.getfield 241, 3) := by decide +kernel
theorem dX12_greatestNumber_9 : decode cX12_greatestNumber 9 = .ok (.if_icmp .ge 35, 3) := by decide +kernel
theorem dX12_greatestNumber_12 : decode cX12_greatestNumber 12 = .ok (.iload_n 1, 1) := by decide +kernel
theorem dX12_greatestNumber_13 : decode cX12_greatestNumber 13 = .ok (.aload_n 0, 1) := by decide +kernel
theorem dX12_greatestNumber_14 : decode cX12_greatestNumber 14 = .ok (.getfield 40, 3) := by decide +kernel
theorem dX12_greatestNumber_17 : decode cX12_greatestNumber 17 = .ok (.iload_n 2, 1) := by decide +kernel
theorem dX12_greatestNumber_18 : decode cX12_greatestNumber 18 = .ok (.iaload, 1) := by decide +kernel
theorem dX12_greatestNumber_19 : decode cX12_greatestNumber 19 = .ok (.invokestatic 370, 3) := by decide +kernel
theorem dX12_greatestNumber_22 : decode cX12_greatestNumber 22 = .ok (.aload_n 0, 1) := by decide +kernel
theorem dX12_greatestNumber_23 : decode cX12_greatestNumber 23 = .ok (.getfield 43, 3) := by decide +kernel
theorem dX12_greatestNumber_26 : decode cX12_greatestNumber 26 = .ok (.iload_n 2, 1) := by decide +kernel
theorem dX12_greatestNumber_27 : decode cX12_greatestNumber 27 = .ok (.iaload, 1) := by decide +kernel
theorem dX12_greatestNumber_28 : decode cX12_greatestNumber 28 = .ok (.invokestatic 370, 3) := by decide +kernel
theorem dX12_greatestNumber_31 : decode cX12_greatestNumber 31 = .ok (.invokestatic 464, 3) := by decide +kernel
theorem dX12_greatestNumber_34 : decode cX12_greatestNumber 34 = .ok (.invokestatic 464, 3) := by decide +kernel
theorem dX12_greatestNumber_37 : decode cX12_greatestNumber 37 = .ok (.istore_n 1, 1) := by decide +kernel
theorem dX12_greatestNumber_38 : decode cX12_greatestNumber 38 = .ok (.iinc 2 1, 3) := by decide +kernel
theorem dX12_greatestNumber_41 : decode cX12_greatestNumber 41 = .ok (.goto (-37), 3) := by decide +kernel
theorem dX12_greatestNumber_44 : decode cX12_greatestNumber 44 = .ok (.iload_n 1, 1) := by decide +kernel
theorem dX12_greatestNumber_45 : decode cX12_greatestNumber 45 = .ok (.ireturn, 1) := by decide +kernel
theorem dX12_hasSum_0 : decode cX12_hasSum 0 = .ok (.aload_n 0, 1) := by decide +kernel
theorem dX12_hasSum_1 : decode cX12_hasSum 1 = .ok (.iload_n 1, 1) := by decide +kernel
theorem dX12_hasSum_2 : decode cX12_hasSum 2 = .ok (.iload_n 2, 1) := by decide +kernel
theorem dX12_hasSum_3 : decode cX12_hasSum 3 = .ok (.iload_n 3, 1) := by decide +kernel
theorem dX12_hasSum_4 : decode cX12_hasSum 4 = .ok (.iload 4, 2) := by decide +kernel
theorem dX12_hasSum_6 : decode cX12_hasSum 6 = .ok (.iconst 0, 1) := by decide +kernel
theorem dX12_hasSum_7 : decode cX12_hasSum 7 = .ok (.invokevirtual 314, 3) := by decide +kernel
theorem dX12_hasSum_10 : decode cX12_hasSum 10 = .ok (.ifCond .ne 16, 3) := by decide +kernel
theorem dX12_hasSum_13 : decode cX12_hasSum 13 = .ok (.aload_n 0, 1) := by decide +kernel
theorem dX12_hasSum_14 : decode cX12_hasSum 14 = .ok (.iload_n 1, 1) := by decide +kernel
theorem dX12_hasSum_15 : decode cX12_hasSum 15 = .ok (.iload_n 2, 1) := by decide +kernel
theorem dX12_hasSum_16 : decode cX12_hasSum 16 = .ok (.iload_n 3, 1) := by decide +kernel
theorem dX12_hasSum_17 : decode cX12_hasSum 17 = .ok (.iload 4, 2) := by decide +kernel
theorem dX12_hasSum_19 : decode cX12_hasSum 19 = .ok (.iconst 1, 1) := by decide +kernel
theorem dX12_hasSum_20 : decode cX12_hasSum 20 = .ok (.invokevirtual 314, 3) := by decide +kernel
theorem dX12_hasSum_23 : decode cX12_hasSum 23 = .ok (.ifCond .eq 7, 3) := by decide +kernel
theorem dX12_hasSum_26 : decode cX12_hasSum 26 = .ok (.iconst 1, 1) := by decide +kernel
theorem dX12_hasSum_27 : decode cX12_hasSum 27 = .ok (.goto 4, 3) := by decide +kernel
theorem dX12_hasSum_30 : decode cX12_hasSum 30 = .ok (.iconst 0, 1) := by decide +kernel
theorem dX12_hasSum_31 : decode cX12_hasSum 31 = .ok (.ireturn, 1) := by decide +kernel
theorem dX12_laysBoxes_0 : decode cX12_laysBoxes 0 = .ok (.aload_n 0, 1) := by decide +kernel
theorem dX12_laysBoxes_1 : decode cX12_laysBoxes 1 = .ok (.iconst 0, 1) := by decide +kernel
theorem dX12_laysBoxes_2 : decode cX12_laysBoxes 2 = .ok (.putfield 338, 3) := by decide +kernel
theorem dX12_laysBoxes_5 : decode cX12_laysBoxes 5 = .ok (.iconst 0, 1) := by decide +kernel
theorem dX12_laysBoxes_6 : decode cX12_laysBoxes 6 = .ok (.istore_n 1, 1) := by decide +kernel
theorem dX12_laysBoxes_7 : decode cX12_laysBoxes 7 = .ok (.iconst 0, 1) := by decide +kernel
theorem dX12_laysBoxes_8 : decode cX12_laysBoxes 8 = .ok (.istore_n 2, 1) := by decide +kernel
theorem dX12_laysBoxes_9 : decode cX12_laysBoxes 9 = .ok (.aload_n 0, 1) := by decide +kernel
theorem dX12_laysBoxes_10 : decode cX12_laysBoxes 10 = .ok (.getfield 205, 3) := by decide +kernel
theorem dX12_laysBoxes_13 : decode cX12_laysBoxes 13 = .ok (.iconst 1, 1) := by decide +kernel
theorem dX12_laysBoxes_14 : decode cX12_laysBoxes 14 = .ok (.isub, 1) := by decide +kernel
theorem dX12_laysBoxes_15 : decode cX12_laysBoxes 15 = .ok (.istore_n 3, 1) := by decide +kernel
theorem dX12_laysBoxes_16 : decode cX12_laysBoxes 16 = .ok (.aload_n 0, 1) := by decide +kernel
theorem dX12_laysBoxes_17 : decode cX12_laysBoxes 17 = .ok (.getfield 208, 3) := by decide +kernel
theorem dX12_laysBoxes_20 : decode cX12_laysBoxes 20 = .ok (.iconst 1, 1) := by decide +kernel
theorem dX12_laysBoxes_21 : decode cX12_laysBoxes 21 = .ok (.isub, 1) := by decide +kernel
theorem dX12_laysBoxes_22 : decode cX12_laysBoxes 22 = .ok (.istore 4, 2) := by decide +kernel
theorem dX12_laysBoxes_24 : decode cX12_laysBoxes 24 = .ok (.aload_n 0, 1) := by decide +kernel
theorem dX12_laysBoxes_25 : decode cX12_laysBoxes 25 = .ok (.iload_n 1, 1) := by decide +kernel
theorem dX12_laysBoxes_26 : decode cX12_laysBoxes 26 = .ok (.iload_n 2, 1) := by decide +kernel
theorem dX12_laysBoxes_27 : decode cX12_laysBoxes 27 = .ok (.iload_n 3, 1) := by decide +kernel
theorem dX12_laysBoxes_28 : decode cX12_laysBoxes 28 = .ok (.iload 4, 2) := by decide +kernel
theorem dX12_laysBoxes_30 : decode cX12_laysBoxes 30 = .ok (.invokevirtual 341, 3) := by decide +kernel
theorem dX12_laysBoxes_33 : decode cX12_laysBoxes 33 = .ok (.ifCond .ne 4, 3) := by decide +kernel
theorem dX12_laysBoxes_36 : decode cX12_laysBoxes 36 = .ok (.return_, 1) := by decide +kernel
theorem dX12_laysBoxes_37 : decode cX12_laysBoxes 37 = .ok (.aload_n 0, 1) := by decide +kernel
theorem dX12_laysBoxes_38 : decode cX12_laysBoxes 38 = .ok (.iload_n 1, 1) := by decide +kernel
theorem dX12_laysBoxes_39 : decode cX12_laysBoxes 39 = .ok (.iload_n 2, 1) := by decide +kernel
theorem dX12_laysBoxes_40 : decode cX12_laysBoxes 40 = .ok (.iload_n 3, 1) := by decide +kernel
theorem dX12_laysBoxes_41 : decode cX12_laysBoxes 41 = .ok (.iload 4, 2) := by decide +kernel
theorem dX12_laysBoxes_43 : decode cX12_laysBoxes 43 = .ok (.invokevirtual 345, 3) := by decide +kernel
theorem dX12_laysBoxes_46 : decode cX12_laysBoxes 46 = .ok (.iload_n 3, 1) := by decide +kernel
theorem dX12_laysBoxes_47 : decode cX12_laysBoxes 47 = .ok (.iload_n 1, 1) := by decide +kernel
theorem dX12_laysBoxes_48 : decode cX12_laysBoxes 48 = .ok (.isub, 1) := by decide +kernel
theorem dX12_laysBoxes_49 : decode cX12_laysBoxes 49 = .ok (.iconst 1, 1) := by decide +kernel
theorem dX12_laysBoxes_50 : decode cX12_laysBoxes 50 = .ok (.if_icmp .gt 11, 3) := by decide +kernel
theorem dX12_laysBoxes_53 : decode cX12_laysBoxes 53 = .ok (.iload 4, 2) := by decide +kernel
theorem dX12_laysBoxes_55 : decode cX12_laysBoxes 55 = .ok (.iload_n 2, 1) := by decide +kernel
theorem dX12_laysBoxes_56 : decode cX12_laysBoxes 56 = .ok (.isub, 1) := by decide +kernel
theorem dX12_laysBoxes_57 : decode cX12_laysBoxes 57 = .ok (.iconst 1, 1) := by decide +kernel
theorem dX12_laysBoxes_58 : decode cX12_laysBoxes 58 = .ok (.if_icmp .le 120, 3) := by decide +kernel
theorem dX12_laysBoxes_61 : decode cX12_laysBoxes 61 = .ok (.iload_n 3, 1) := by decide +kernel
theorem dX12_laysBoxes_62 : decode cX12_laysBoxes 62 = .ok (.iload_n 1, 1) := by decide +kernel
theorem dX12_laysBoxes_63 : decode cX12_laysBoxes 63 = .ok (.isub, 1) := by decide +kernel
theorem dX12_laysBoxes_64 : decode cX12_laysBoxes 64 = .ok (.iload 4, 2) := by decide +kernel
theorem dX12_laysBoxes_66 : decode cX12_laysBoxes 66 = .ok (.iload_n 2, 1) := by decide +kernel
theorem dX12_laysBoxes_67 : decode cX12_laysBoxes 67 = .ok (.isub, 1) := by decide +kernel
theorem dX12_laysBoxes_68 : decode cX12_laysBoxes 68 = .ok (.if_icmp .lt 51, 3) := by decide +kernel
theorem dX12_laysBoxes_71 : decode cX12_laysBoxes 71 = .ok (.iload_n 1, 1) := by decide +kernel
theorem dX12_laysBoxes_72 : decode cX12_laysBoxes 72 = .ok (.iload_n 3, 1) := by decide +kernel
theorem dX12_laysBoxes_73 : decode cX12_laysBoxes 73 = .ok (.iload_n 1, 1) := by decide +kernel
theorem dX12_laysBoxes_74 : decode cX12_laysBoxes 74 = .ok (.isub, 1) := by decide +kernel
theorem dX12_laysBoxes_75 : decode cX12_laysBoxes 75 = .ok (.iconst 2, 1) := by decide +kernel
theorem dX12_laysBoxes_76 : decode cX12_laysBoxes 76 = .ok (.idiv, 1) := by decide +kernel
theorem dX12_laysBoxes_77 : decode cX12_laysBoxes 77 = .ok (.iadd, 1) := by decide +kernel
theorem dX12_laysBoxes_78 : decode cX12_laysBoxes 78 = .ok (.istore 5, 2) := by decide +kernel
theorem dX12_laysBoxes_80 : decode cX12_laysBoxes 80 = .ok (.aload_n 0, 1) := by decide +kernel
theorem dX12_laysBoxes_81 : decode cX12_laysBoxes 81 = .ok (.iload_n 1, 1) := by decide +kernel
theorem dX12_laysBoxes_82 : decode cX12_laysBoxes 82 = .ok (.iload_n 2, 1) := by decide +kernel
theorem dX12_laysBoxes_83 : decode cX12_laysBoxes 83 = .ok (.iload 5, 2) := by decide +kernel
theorem dX12_laysBoxes_85 : decode cX12_laysBoxes 85 = .ok (.iload 4, 2) := by decide +kernel
theorem dX12_laysBoxes_87 : decode cX12_laysBoxes 87 = .ok (.invokevirtual 341, 3) := by decide +kernel
theorem dX12_laysBoxes_90 : decode cX12_laysBoxes 90 = .ok (.istore 6, 2) := by decide +kernel
theorem dX12_laysBoxes_92 : decode cX12_laysBoxes 92 = .ok (.iload 6, 2) := by decide +kernel
theorem dX12_laysBoxes_94 : decode cX12_laysBoxes 94 = .ok (.ifCond .eq 8, 3) := by decide +kernel
theorem dX12_laysBoxes_97 : decode cX12_laysBoxes 97 = .ok (.iload 5, 2) := by decide +kernel
theorem dX12_laysBoxes_99 : decode cX12_laysBoxes 99 = .ok (.goto 4, 3) := by decide +kernel
theorem dX12_laysBoxes_102 : decode cX12_laysBoxes 102 = .ok (.iload_n 3, 1) := by decide +kernel
theorem dX12_laysBoxes_103 : decode cX12_laysBoxes 103 = .ok (.istore_n 3, 1) := by decide +kernel
theorem dX12_laysBoxes_104 : decode cX12_laysBoxes 104 = .ok (.iload 6, 2) := by decide +kernel
theorem dX12_laysBoxes_106 : decode cX12_laysBoxes 106 = .ok (.ifCond .eq 7, 3) := by decide +kernel
theorem dX12_laysBoxes_109 : decode cX12_laysBoxes 109 = .ok (.iload_n 1, 1) := by decide +kernel
theorem dX12_laysBoxes_110 : decode cX12_laysBoxes 110 = .ok (.goto 5, 3) := by decide +kernel
theorem dX12_laysBoxes_113 : decode cX12_laysBoxes 113 = .ok (.iload 5, 2) := by decide +kernel
theorem dX12_laysBoxes_115 : decode cX12_laysBoxes 115 = .ok (.istore_n 1, 1) := by decide +kernel
theorem dX12_laysBoxes_116 : decode cX12_laysBoxes 116 = .ok (.goto 50, 3) := by decide +kernel
theorem dX12_laysBoxes_119 : decode cX12_laysBoxes 119 = .ok (.iload_n 2, 1) := by decide +kernel
theorem dX12_laysBoxes_120 : decode cX12_laysBoxes 120 = .ok (.iload 4, 2) := by decide +kernel
theorem dX12_laysBoxes_122 : decode cX12_laysBoxes 122 = .ok (.iload_n 2, 1) := by decide +kernel
theorem dX12_laysBoxes_123 : decode cX12_laysBoxes 123 = .ok (.isub, 1) := by decide +kernel
theorem dX12_laysBoxes_124 : decode cX12_laysBoxes 124 = .ok (.iconst 2, 1) := by decide +kernel
theorem dX12_laysBoxes_125 : decode cX12_laysBoxes 125 = .ok (.idiv, 1) := by decide +kernel
theorem dX12_laysBoxes_126 : decode cX12_laysBoxes 126 = .ok (.iadd, 1) := by decide +kernel
theorem dX12_laysBoxes_127 : decode cX12_laysBoxes 127 = .ok (.istore 5, 2) := by decide +kernel
theorem dX12_laysBoxes_129 : decode cX12_laysBoxes 129 = .ok (.aload_n 0, 1) := by decide +kernel
theorem dX12_laysBoxes_130 : decode cX12_laysBoxes 130 = .ok (.iload_n 1, 1) := by decide +kernel
theorem dX12_laysBoxes_131 : decode cX12_laysBoxes 131 = .ok (.iload_n 2, 1) := by decide +kernel
theorem dX12_laysBoxes_132 : decode cX12_laysBoxes 132 = .ok (.iload_n 3, 1) := by decide +kernel
theorem dX12_laysBoxes_133 : decode cX12_laysBoxes 133 = .ok (.iload 5, 2) := by decide +kernel
theorem dX12_laysBoxes_135 : decode cX12_laysBoxes 135 = .ok (.invokevirtual 341, 3) := by decide +kernel
theorem dX12_laysBoxes_138 : decode cX12_laysBoxes 138 = .ok (.istore 6, 2) := by decide +kernel
theorem dX12_laysBoxes_140 : decode cX12_laysBoxes 140 = .ok (.iload 6, 2) := by decide +kernel
theorem dX12_laysBoxes_142 : decode cX12_laysBoxes 142 = .ok (.ifCond .eq 8, 3) := by decide +kernel
theorem dX12_laysBoxes_145 : decode cX12_laysBoxes 145 = .ok (.iload 5, 2) := by decide +kernel
theorem dX12_laysBoxes_147 : decode cX12_laysBoxes 147 = .ok (.goto 5, 3) := by decide +kernel
theorem dX12_laysBoxes_150 : decode cX12_laysBoxes 150 = .ok (.iload 4, 2) := by decide +kernel
theorem dX12_laysBoxes_152 : decode cX12_laysBoxes 152 = .ok (.istore 4, 2) := by decide +kernel
theorem dX12_laysBoxes_154 : decode cX12_laysBoxes 154 = .ok (.iload 6, 2) := by decide +kernel
theorem dX12_laysBoxes_156 : decode cX12_laysBoxes 156 = .ok (.ifCond .eq 7, 3) := by decide +kernel
theorem dX12_laysBoxes_159 : decode cX12_laysBoxes 159 = .ok (.iload_n 2, 1) := by decide +kernel
theorem dX12_laysBoxes_160 : decode cX12_laysBoxes 160 = .ok (.goto 5, 3) := by decide +kernel
theorem dX12_laysBoxes_163 : decode cX12_laysBoxes 163 = .ok (.iload 5, 2) := by decide +kernel
theorem dX12_laysBoxes_165 : decode cX12_laysBoxes 165 = .ok (.istore_n 2, 1) := by decide +kernel
theorem dX12_laysBoxes_166 : decode cX12_laysBoxes 166 = .ok (.aload_n 0, 1) := by decide +kernel
theorem dX12_laysBoxes_167 : decode cX12_laysBoxes 167 = .ok (.iload_n 1, 1) := by decide +kernel
theorem dX12_laysBoxes_168 : decode cX12_laysBoxes 168 = .ok (.iload_n 2, 1) := by decide +kernel
theorem dX12_laysBoxes_169 : decode cX12_laysBoxes 169 = .ok (.iload_n 3, 1) := by decide +kernel
theorem dX12_laysBoxes_170 : decode cX12_laysBoxes 170 = .ok (.iload 4, 2) := by decide +kernel
theorem dX12_laysBoxes_172 : decode cX12_laysBoxes 172 = .ok (.invokevirtual 345, 3) := by decide +kernel
theorem dX12_laysBoxes_175 : decode cX12_laysBoxes 175 = .ok (.goto (-129), 3) := by decide +kernel
theorem dX12_laysBoxes_178 : decode cX12_laysBoxes 178 = .ok (.return_, 1) := by decide +kernel
theorem dX12_halved_0 : decode cX12_halved 0 = .ok (.aload_n 0, 1) := by decide +kernel
theorem dX12_halved_1 : decode cX12_halved 1 = .ok (.iconst 0, 1) := by decide +kernel
theorem dX12_halved_2 : decode cX12_halved 2 = .ok (.putfield 86, 3) := by decide +kernel
theorem dX12_halved_5 : decode cX12_halved 5 = .ok (.aload_n 0, 1) := by decide +kernel
theorem dX12_halved_6 : decode cX12_halved 6 = .ok (.invokevirtual 306, 3) := by decide +kernel
theorem dX12_halved_9 : decode cX12_halved 9 = .ok (.ifCond .ne 5, 3) := by decide +kernel
theorem dX12_halved_12 : decode cX12_halved 12 = .ok (.iconst (-1), 1) := by decide +kernel
theorem dX12_halved_13 : decode cX12_halved 13 = .ok (.ireturn, 1) := by decide +kernel
theorem dX12_halved_14 : decode cX12_halved 14 = .ok (.aload_n 0, 1) := by decide +kernel
theorem dX12_halved_15 : decode cX12_halved 15 = .ok (.invokevirtual 349, 3) := by decide +kernel
theorem dX12_halved_18 : decode cX12_halved 18 = .ok (.iload_n 1, 1) := by decide +kernel
theorem dX12_halved_19 : decode cX12_halved 19 = .ok (.iconst (-1), 1) := by decide +kernel
theorem dX12_halved_20 : decode cX12_halved 20 = .ok (.if_icmp .ne 10, 3) := by decide +kernel
theorem dX12_halved_23 : decode cX12_halved 23 = .ok (.aload_n 0, 1) := by decide +kernel
theorem dX12_halved_24 : decode cX12_halved 24 = .ok (.getfield 338, 3) := by decide +kernel
theorem dX12_halved_27 : decode cX12_halved 27 = .ok (.goto 45, 3) := by decide +kernel
theorem dX12_halved_30 : decode cX12_halved 30 = .ok (.iload_n 1, 1) := by decide +kernel
theorem dX12_halved_31 : decode cX12_halved 31 = .ok (.i2l, 1) := by decide +kernel
theorem dX12_halved_32 : decode cX12_halved 32 = .ok (.lconst 0, 1) := by decide +kernel
theorem dX12_halved_33 : decode cX12_halved 33 = .ok (.aload_n 0, 1) := by decide +kernel
theorem dX12_halved_34 : decode cX12_halved 34 = .ok (.getfield 338, 3) := by decide +kernel
theorem dX12_halved_37 : decode cX12_halved 37 = .ok (.iconst 1, 1) := by decide +kernel
theorem dX12_halved_38 : decode cX12_halved 38 = .ok (.isub, 1) := by decide +kernel
theorem dX12_halved_39 : decode cX12_halved 39 = .ok (.i2l, 1) := by decide +kernel
theorem dX12_halved_40 : decode cX12_halved 40 = .ok (.invokestatic 97, 3) := by decide +kernel
theorem dX12_halved_43 : decode cX12_halved 43 = .ok (.ifCond .eq 28, 3) := by decide +kernel
theorem dX12_halved_46 : decode cX12_halved 46 = .ok (.iload_n 2, 1) := by decide +kernel
theorem dX12_halved_47 : decode cX12_halved 47 = .ok (.i2l, 1) := by decide +kernel
theorem dX12_halved_48 : decode cX12_halved 48 = .ok (.lconst 0, 1) := by decide +kernel
theorem dX12_halved_49 : decode cX12_halved 49 = .ok (.ldc2_w 291, 3) := by decide +kernel
theorem dX12_halved_52 : decode cX12_halved 52 = .ok (.invokestatic 97, 3) := by decide +kernel
theorem dX12_halved_55 : decode cX12_halved 55 = .ok (.ifCond .eq 16, 3) := by decide +kernel
theorem dX12_halved_58 : decode cX12_halved 58 = .ok (.aload_n 0, 1) := by decide +kernel
theorem dX12_halved_59 : decode cX12_halved 59 = .ok (.getfield 59, 3) := by decide +kernel
theorem dX12_halved_62 : decode cX12_halved 62 = .ok (.iconst 4, 1) := by decide +kernel
theorem dX12_halved_63 : decode cX12_halved 63 = .ok (.iload_n 1, 1) := by decide +kernel
theorem dX12_halved_64 : decode cX12_halved 64 = .ok (.imul, 1) := by decide +kernel
theorem dX12_halved_65 : decode cX12_halved 65 = .ok (.iload_n 2, 1) := by decide +kernel
theorem dX12_halved_66 : decode cX12_halved 66 = .ok (.iadd, 1) := by decide +kernel
theorem dX12_halved_67 : decode cX12_halved 67 = .ok (.iaload, 1) := by decide +kernel
theorem dX12_halved_68 : decode cX12_halved 68 = .ok (.goto 4, 3) := by decide +kernel
theorem dX12_halved_71 : decode cX12_halved 71 = .ok (.iconst (-1), 1) := by decide +kernel
theorem dX12_halved_72 : decode cX12_halved 72 = .ok (.ireturn, 1) := by decide +kernel
theorem dX12_image_0 : decode cX12_image 0 = .ok (.aload_n 0, 1) := by decide +kernel
theorem dX12_image_1 : decode cX12_image 1 = .ok (.iconst 0, 1) := by decide +kernel
theorem dX12_image_2 : decode cX12_image 2 = .ok (.putfield 86, 3) := by decide +kernel
theorem dX12_image_5 : decode cX12_image 5 = .ok (.aload_n 0, 1) := by decide +kernel
theorem dX12_image_6 : decode cX12_image 6 = .ok (.invokevirtual 306, 3) := by decide +kernel
theorem dX12_image_9 : decode cX12_image 9 = .ok (.ifCond .ne 5, 3) := by decide +kernel
theorem dX12_image_12 : decode cX12_image 12 = .ok (.iconst (-1), 1) := by decide +kernel
theorem dX12_image_13 : decode cX12_image 13 = .ok (.ireturn, 1) := by decide +kernel
theorem dX12_image_14 : decode cX12_image 14 = .ok (.iconst 0, 1) := by decide +kernel
theorem dX12_image_15 : decode cX12_image 15 = .ok (.istore_n 1, 1) := by decide +kernel
theorem dX12_image_16 : decode cX12_image 16 = .ok (.iload_n 1, 1) := by decide +kernel
theorem dX12_image_17 : decode cX12_image 17 = .ok (.sipush 486, 3) := by decide +kernel
theorem dX12_image_20 : decode cX12_image 20 = .ok (.if_icmp .ge 21, 3) := by decide +kernel
theorem dX12_image_23 : decode cX12_image 23 = .ok (.aload_n 0, 1) := by decide +kernel
theorem dX12_image_24 : decode cX12_image 24 = .ok (.getfield 83, 3) := by decide +kernel
theorem dX12_image_27 : decode cX12_image 27 = .ok (.iload_n 1, 1) := by decide +kernel
theorem dX12_image_28 : decode cX12_image 28 = .ok (.aload_n 0, 1) := by decide +kernel
theorem dX12_image_29 : decode cX12_image 29 = .ok (.getfield 28, 3) := by decide +kernel
theorem dX12_image_32 : decode cX12_image 32 = .ok (.iload_n 1, 1) := by decide +kernel
theorem dX12_image_33 : decode cX12_image 33 = .ok (.iaload, 1) := by decide +kernel
theorem dX12_image_34 : decode cX12_image 34 = .ok (.iastore, 1) := by decide +kernel
theorem dX12_image_35 : decode cX12_image 35 = .ok (.iinc 1 1, 3) := by decide +kernel
theorem dX12_image_38 : decode cX12_image 38 = .ok (.goto (-22), 3) := by decide +kernel
theorem dX12_image_41 : decode cX12_image 41 = .ok (.aload_n 0, 1) := by decide +kernel
theorem dX12_image_42 : decode cX12_image 42 = .ok (.iconst 1, 1) := by decide +kernel
theorem dX12_image_43 : decode cX12_image 43 = .ok (.putfield 232, 3) := by decide +kernel
theorem dX12_image_46 : decode cX12_image 46 = .ok (.aload_n 0, 1) := by decide +kernel
theorem dX12_image_47 : decode cX12_image 47 = .ok (.getfield 28, 3) := by decide +kernel
theorem dX12_image_50 : decode cX12_image 50 = .ok (.sipush 325, 3) := by decide +kernel
theorem dX12_image_53 : decode cX12_image 53 = .ok (.iaload, 1) := by decide +kernel
theorem dX12_image_54 : decode cX12_image 54 = .ok (.ireturn, 1) := by decide +kernel
theorem dX12_isPart_0 : decode cX12_isPart 0 = .ok (.iload_n 3, 1) := by decide +kernel
theorem dX12_isPart_1 : decode cX12_isPart 1 = .ok (.ifCond .eq 33, 3) := by decide +kernel
theorem dX12_isPart_4 : decode cX12_isPart 4 = .ok (.iload_n 3, 1) := by decide +kernel
theorem dX12_isPart_5 : decode cX12_isPart 5 = .ok (.iconst 1, 1) := by decide +kernel
theorem dX12_isPart_6 : decode cX12_isPart 6 = .ok (.if_icmp .ne 13, 3) := by decide +kernel
theorem dX12_isPart_9 : decode cX12_isPart 9 = .ok (.aload_n 0, 1) := by decide +kernel
theorem dX12_isPart_10 : decode cX12_isPart 10 = .ok (.iload_n 1, 1) := by decide +kernel
theorem dX12_isPart_11 : decode cX12_isPart 11 = .ok (.iload_n 2, 1) := by decide +kernel
theorem dX12_isPart_12 : decode cX12_isPart 12 = .ok (.iconst 0, 1) := by decide +kernel
theorem dX12_isPart_13 : decode cX12_isPart 13 = .ok (.invokevirtual 221, 3) := by decide +kernel
theorem dX12_isPart_16 : decode cX12_isPart 16 = .ok (.ifCond .ne 18, 3) := by decide +kernel
theorem dX12_isPart_19 : decode cX12_isPart 19 = .ok (.iload_n 3, 1) := by decide +kernel
theorem dX12_isPart_20 : decode cX12_isPart 20 = .ok (.iconst 2, 1) := by decide +kernel
theorem dX12_isPart_21 : decode cX12_isPart 21 = .ok (.if_icmp .ne 17, 3) := by decide +kernel
theorem dX12_isPart_24 : decode cX12_isPart 24 = .ok (.aload_n 0, 1) := by decide +kernel
theorem dX12_isPart_25 : decode cX12_isPart 25 = .ok (.iload_n 1, 1) := by decide +kernel
theorem dX12_isPart_26 : decode cX12_isPart 26 = .ok (.iload_n 2, 1) := by decide +kernel
theorem dX12_isPart_27 : decode cX12_isPart 27 = .ok (.iconst 1, 1) := by decide +kernel
theorem dX12_isPart_28 : decode cX12_isPart 28 = .ok (.invokevirtual 221, 3) := by decide +kernel
theorem dX12_isPart_31 : decode cX12_isPart 31 = .ok (.ifCond .eq 7, 3) := by decide +kernel
theorem dX12_isPart_34 : decode cX12_isPart 34 = .ok (.iconst 1, 1) := by decide +kernel
theorem dX12_isPart_35 : decode cX12_isPart 35 = .ok (.goto 4, 3) := by decide +kernel
theorem dX12_isPart_38 : decode cX12_isPart 38 = .ok (.iconst 0, 1) := by decide +kernel
theorem dX12_isPart_39 : decode cX12_isPart 39 = .ok (.ireturn, 1) := by decide +kernel
theorem dX12_joins_0 : decode cX12_joins 0 = .ok (.sipush 162, 3) := by decide +kernel
theorem dX12_joins_3 : decode cX12_joins 3 = .ok (.istore_n 3, 1) := by decide +kernel
theorem dX12_joins_4 : decode cX12_joins 4 = .ok (.iconst 0, 1) := by decide +kernel
theorem dX12_joins_5 : decode cX12_joins 5 = .ok (.istore 4, 2) := by decide +kernel
theorem dX12_joins_7 : decode cX12_joins 7 = .ok (.iload 4, 2) := by decide +kernel
theorem dX12_joins_9 : decode cX12_joins 9 = .ok (.iconst 4, 1) := by decide +kernel
theorem dX12_joins_10 : decode cX12_joins 10 = .ok (.if_icmp .ge 44, 3) := by decide +kernel
theorem dX12_joins_13 : decode cX12_joins 13 = .ok (.aload_n 0, 1) := by decide +kernel
theorem dX12_joins_14 : decode cX12_joins 14 = .ok (.iload_n 1, 1) := by decide +kernel
theorem dX12_joins_15 : decode cX12_joins 15 = .ok (.iload_n 2, 1) := by decide +kernel
theorem dX12_joins_16 : decode cX12_joins 16 = .ok (.iload 4, 2) := by decide +kernel
theorem dX12_joins_18 : decode cX12_joins 18 = .ok (.invokevirtual 425, 3) := by decide +kernel
theorem dX12_joins_21 : decode cX12_joins 21 = .ok (.istore 5, 2) := by decide +kernel
theorem dX12_joins_23 : decode cX12_joins 23 = .ok (.aload_n 0, 1) := by decide +kernel
theorem dX12_joins_24 : decode cX12_joins 24 = .ok (.iload 5, 2) := by decide +kernel
theorem dX12_joins_26 : decode cX12_joins 26 = .ok (.invokevirtual 293, 3) := by decide +kernel
theorem dX12_joins_29 : decode cX12_joins 29 = .ok (.ifCond .eq 17, 3) := by decide +kernel
theorem dX12_joins_32 : decode cX12_joins 32 = .ok (.iload_n 3, 1) := by decide +kernel
theorem dX12_joins_33 : decode cX12_joins 33 = .ok (.aload_n 0, 1) := by decide +kernel
theorem dX12_joins_34 : decode cX12_joins 34 = .ok (.getfield 65, 3) := by decide +kernel
theorem dX12_joins_37 : decode cX12_joins 37 = .ok (.iload 5, 2) := by decide +kernel
theorem dX12_joins_39 : decode cX12_joins 39 = .ok (.iaload, 1) := by decide +kernel
theorem dX12_joins_40 : decode cX12_joins 40 = .ok (.invokestatic 128, 3) := by decide +kernel
theorem dX12_joins_43 : decode cX12_joins 43 = .ok (.goto 4, 3) := by decide +kernel
theorem dX12_joins_46 : decode cX12_joins 46 = .ok (.iload_n 3, 1) := by decide +kernel
theorem dX12_joins_47 : decode cX12_joins 47 = .ok (.istore_n 3, 1) := by decide +kernel
theorem dX12_joins_48 : decode cX12_joins 48 = .ok (.iinc 4 1, 3) := by decide +kernel
theorem dX12_joins_51 : decode cX12_joins 51 = .ok (.goto (-44), 3) := by decide +kernel
theorem dX12_joins_54 : decode cX12_joins 54 = .ok (.iconst 0, 1) := by decide +kernel
theorem dX12_joins_55 : decode cX12_joins 55 = .ok (.istore 4, 2) := by decide +kernel
theorem dX12_joins_57 : decode cX12_joins 57 = .ok (.iconst 0, 1) := by decide +kernel
theorem dX12_joins_58 : decode cX12_joins 58 = .ok (.istore 5, 2) := by decide +kernel
theorem dX12_joins_60 : decode cX12_joins 60 = .ok (.iload 5, 2) := by decide +kernel
theorem dX12_joins_62 : decode cX12_joins 62 = .ok (.iconst 4, 1) := by decide +kernel
theorem dX12_joins_63 : decode cX12_joins 63 = .ok (.if_icmp .ge 50, 3) := by decide +kernel
theorem dX12_joins_66 : decode cX12_joins 66 = .ok (.aload_n 0, 1) := by decide +kernel
theorem dX12_joins_67 : decode cX12_joins 67 = .ok (.iload_n 1, 1) := by decide +kernel
theorem dX12_joins_68 : decode cX12_joins 68 = .ok (.iload_n 2, 1) := by decide +kernel
theorem dX12_joins_69 : decode cX12_joins 69 = .ok (.iload 5, 2) := by decide +kernel
theorem dX12_joins_71 : decode cX12_joins 71 = .ok (.invokevirtual 425, 3) := by decide +kernel
theorem dX12_joins_74 : decode cX12_joins 74 = .ok (.istore 6, 2) := by decide +kernel
theorem dX12_joins_76 : decode cX12_joins 76 = .ok (.aload_n 0, 1) := by decide +kernel
theorem dX12_joins_77 : decode cX12_joins 77 = .ok (.iload 6, 2) := by decide +kernel
theorem dX12_joins_79 : decode cX12_joins 79 = .ok (.invokevirtual 293, 3) := by decide +kernel
theorem dX12_joins_82 : decode cX12_joins 82 = .ok (.ifCond .eq 25, 3) := by decide +kernel
theorem dX12_joins_85 : decode cX12_joins 85 = .ok (.aload_n 0, 1) := by decide +kernel
theorem dX12_joins_86 : decode cX12_joins 86 = .ok (.getfield 65, 3) := by decide +kernel
theorem dX12_joins_89 : decode cX12_joins 89 = .ok (.iload 6, 2) := by decide +kernel
theorem dX12_joins_91 : decode cX12_joins 91 = .ok (.iaload, 1) := by decide +kernel
theorem dX12_joins_92 : decode cX12_joins 92 = .ok (.iload_n 3, 1) := by decide +kernel
theorem dX12_joins_93 : decode cX12_joins 93 = .ok (.if_icmp .eq 14, 3) := by decide +kernel
theorem dX12_joins_96 : decode cX12_joins 96 = .ok (.aload_n 0, 1) := by decide +kernel
theorem dX12_joins_97 : decode cX12_joins 97 = .ok (.getfield 65, 3) := by decide +kernel
theorem dX12_joins_100 : decode cX12_joins 100 = .ok (.iload 6, 2) := by decide +kernel
theorem dX12_joins_102 : decode cX12_joins 102 = .ok (.iload_n 3, 1) := by decide +kernel
theorem dX12_joins_103 : decode cX12_joins 103 = .ok (.iastore, 1) := by decide +kernel
theorem dX12_joins_104 : decode cX12_joins 104 = .ok (.iconst 1, 1) := by decide +kernel
theorem dX12_joins_105 : decode cX12_joins 105 = .ok (.istore 4, 2) := by decide +kernel
theorem dX12_joins_107 : decode cX12_joins 107 = .ok (.iinc 5 1, 3) := by decide +kernel
theorem dX12_joins_110 : decode cX12_joins 110 = .ok (.goto (-50), 3) := by decide +kernel
theorem dX12_joins_113 : decode cX12_joins 113 = .ok (.iload 4, 2) := by decide +kernel
theorem dX12_joins_115 : decode cX12_joins 115 = .ok (.ireturn, 1) := by decide +kernel
theorem dX12_layer_0 : decode cX12_layer 0 = .ok (.aload_n 0, 1) := by decide +kernel
theorem dX12_layer_1 : decode cX12_layer 1 = .ok (.iconst 0, 1) := by decide +kernel
theorem dX12_layer_2 : decode cX12_layer 2 = .ok (.putfield 86, 3) := by decide +kernel
theorem dX12_layer_5 : decode cX12_layer 5 = .ok (.aload_n 0, 1) := by decide +kernel
theorem dX12_layer_6 : decode cX12_layer 6 = .ok (.invokevirtual 306, 3) := by decide +kernel
theorem dX12_layer_9 : decode cX12_layer 9 = .ok (.ifCond .eq 31, 3) := by decide +kernel
theorem dX12_layer_12 : decode cX12_layer 12 = .ok (.iload_n 1, 1) := by decide +kernel
theorem dX12_layer_13 : decode cX12_layer 13 = .ok (.i2l, 1) := by decide +kernel
theorem dX12_layer_14 : decode cX12_layer 14 = .ok (.lconst 0, 1) := by decide +kernel
theorem dX12_layer_15 : decode cX12_layer 15 = .ok (.aload_n 0, 1) := by decide +kernel
theorem dX12_layer_16 : decode cX12_layer 16 = .ok (.getfield 208, 3) := by decide +kernel
theorem dX12_layer_19 : decode cX12_layer 19 = .ok (.iconst 1, 1) := by decide +kernel
theorem dX12_layer_20 : decode cX12_layer 20 = .ok (.isub, 1) := by decide +kernel
theorem dX12_layer_21 : decode cX12_layer 21 = .ok (.i2l, 1) := by decide +kernel
theorem dX12_layer_22 : decode cX12_layer 22 = .ok (.invokestatic 97, 3) := by decide +kernel
theorem dX12_layer_25 : decode cX12_layer 25 = .ok (.ifCond .eq 15, 3) := by decide +kernel
theorem dX12_layer_28 : decode cX12_layer 28 = .ok (.iload_n 2, 1) := by decide +kernel
theorem dX12_layer_29 : decode cX12_layer 29 = .ok (.i2l, 1) := by decide +kernel
theorem dX12_layer_30 : decode cX12_layer 30 = .ok (.lconst 0, 1) := by decide +kernel
theorem dX12_layer_31 : decode cX12_layer 31 = .ok (.ldc2_w 291, 3) := by decide +kernel
theorem dX12_layer_34 : decode cX12_layer 34 = .ok (.invokestatic 97, 3) := by decide +kernel
theorem dX12_layer_37 : decode cX12_layer 37 = .ok (.ifCond .ne 7, 3) := by decide +kernel
theorem dX12_layer_40 : decode cX12_layer 40 = .ok (.ldc_w 310, 3) := by decide +kernel
theorem dX12_layer_43 : decode cX12_layer 43 = .ok (.ireturn, 1) := by decide +kernel
theorem dX12_layer_44 : decode cX12_layer 44 = .ok (.iconst 0, 1) := by decide +kernel
theorem dX12_layer_45 : decode cX12_layer 45 = .ok (.istore_n 3, 1) := by decide +kernel
theorem dX12_layer_46 : decode cX12_layer 46 = .ok (.iconst 0, 1) := by decide +kernel
theorem dX12_layer_47 : decode cX12_layer 47 = .ok (.istore 4, 2) := by decide +kernel
theorem dX12_layer_49 : decode cX12_layer 49 = .ok (.iload 4, 2) := by decide +kernel
theorem dX12_layer_51 : decode cX12_layer 51 = .ok (.aload_n 0, 1) := by decide +kernel
theorem dX12_layer_52 : decode cX12_layer 52 = .ok (.getfield 205, 3) := by decide +kernel
theorem dX12_layer_55 : decode cX12_layer 55 = .ok (.if_icmp .ge 75, 3) := by decide +kernel
theorem dX12_layer_58 : decode cX12_layer 58 = .ok (.iload_n 2, 1) := by decide +kernel
theorem dX12_layer_59 : decode cX12_layer 59 = .ok (.iconst 2, 1) := by decide +kernel
theorem dX12_layer_60 : decode cX12_layer 60 = .ok (.if_icmp .ge 33, 3) := by decide +kernel
theorem dX12_layer_63 : decode cX12_layer 63 = .ok (.iload_n 3, 1) := by decide +kernel
theorem dX12_layer_64 : decode cX12_layer 64 = .ok (.iload 4, 2) := by decide +kernel
theorem dX12_layer_66 : decode cX12_layer 66 = .ok (.aload_n 0, 1) := by decide +kernel
theorem dX12_layer_67 : decode cX12_layer 67 = .ok (.getfield 205, 3) := by decide +kernel
theorem dX12_layer_70 : decode cX12_layer 70 = .ok (.iconst 1, 1) := by decide +kernel
theorem dX12_layer_71 : decode cX12_layer 71 = .ok (.isub, 1) := by decide +kernel
theorem dX12_layer_72 : decode cX12_layer 72 = .ok (.if_icmp .ge 15, 3) := by decide +kernel
theorem dX12_layer_75 : decode cX12_layer 75 = .ok (.aload_n 0, 1) := by decide +kernel
theorem dX12_layer_76 : decode cX12_layer 76 = .ok (.iload 4, 2) := by decide +kernel
theorem dX12_layer_78 : decode cX12_layer 78 = .ok (.iload_n 1, 1) := by decide +kernel
theorem dX12_layer_79 : decode cX12_layer 79 = .ok (.iconst 0, 1) := by decide +kernel
theorem dX12_layer_80 : decode cX12_layer 80 = .ok (.iload_n 2, 1) := by decide +kernel
theorem dX12_layer_81 : decode cX12_layer 81 = .ok (.invokevirtual 218, 3) := by decide +kernel
theorem dX12_layer_84 : decode cX12_layer 84 = .ok (.goto 4, 3) := by decide +kernel
theorem dX12_layer_87 : decode cX12_layer 87 = .ok (.iconst 0, 1) := by decide +kernel
theorem dX12_layer_88 : decode cX12_layer 88 = .ok (.iadd, 1) := by decide +kernel
theorem dX12_layer_89 : decode cX12_layer 89 = .ok (.istore_n 3, 1) := by decide +kernel
theorem dX12_layer_90 : decode cX12_layer 90 = .ok (.goto 34, 3) := by decide +kernel
theorem dX12_layer_93 : decode cX12_layer 93 = .ok (.iload_n 3, 1) := by decide +kernel
theorem dX12_layer_94 : decode cX12_layer 94 = .ok (.aload_n 0, 1) := by decide +kernel
theorem dX12_layer_95 : decode cX12_layer 95 = .ok (.iload 4, 2) := by decide +kernel
theorem dX12_layer_97 : decode cX12_layer 97 = .ok (.iload_n 1, 1) := by decide +kernel
theorem dX12_layer_98 : decode cX12_layer 98 = .ok (.iload_n 2, 1) := by decide +kernel
theorem dX12_layer_99 : decode cX12_layer 99 = .ok (.iconst 3, 1) := by decide +kernel
theorem dX12_layer_100 : decode cX12_layer 100 = .ok (.if_icmp .ne 7, 3) := by decide +kernel
theorem dX12_layer_103 : decode cX12_layer 103 = .ok (.iconst 1, 1) := by decide +kernel
theorem dX12_layer_104 : decode cX12_layer 104 = .ok (.goto 4, 3) := by decide +kernel
theorem dX12_layer_107 : decode cX12_layer 107 = .ok (.iconst 0, 1) := by decide +kernel
theorem dX12_layer_108 : decode cX12_layer 108 = .ok (.invokestatic 421, 3) := by decide +kernel
theorem dX12_layer_111 : decode cX12_layer 111 = .ok (.invokevirtual 293, 3) := by decide +kernel
theorem dX12_layer_114 : decode cX12_layer 114 = .ok (.ifCond .eq 7, 3) := by decide +kernel
theorem dX12_layer_117 : decode cX12_layer 117 = .ok (.iconst 1, 1) := by decide +kernel
theorem dX12_layer_118 : decode cX12_layer 118 = .ok (.goto 4, 3) := by decide +kernel
theorem dX12_layer_121 : decode cX12_layer 121 = .ok (.iconst 0, 1) := by decide +kernel
theorem dX12_layer_122 : decode cX12_layer 122 = .ok (.iadd, 1) := by decide +kernel
theorem dX12_layer_123 : decode cX12_layer 123 = .ok (.istore_n 3, 1) := by decide +kernel
theorem dX12_layer_124 : decode cX12_layer 124 = .ok (.iinc 4 1, 3) := by decide +kernel
theorem dX12_layer_127 : decode cX12_layer 127 = .ok (.goto (-78), 3) := by decide +kernel
theorem dX12_layer_130 : decode cX12_layer 130 = .ok (.iload_n 3, 1) := by decide +kernel
theorem dX12_layer_131 : decode cX12_layer 131 = .ok (.ireturn, 1) := by decide +kernel
theorem dX12_laysRid_0 : decode cX12_laysRid 0 = .ok (.aload_n 0, 1) := by decide +kernel
theorem dX12_laysRid_1 : decode cX12_laysRid 1 = .ok (.invokevirtual 238, 3) := by decide +kernel
theorem dX12_laysRid_4 : decode cX12_laysRid 4 = .ok (.pop, 1) := by decide +kernel
theorem dX12_laysRid_5 : decode cX12_laysRid 5 = .ok (.aload_n 0, 1) := by decide +kernel
theorem dX12_laysRid_6 : decode cX12_laysRid 6 = .ok (.getfield 71, 3) := by decide +kernel
theorem dX12_laysRid_9 : decode cX12_laysRid 9 = .ok (.iconst 0, 1) := by decide +kernel
theorem dX12_laysRid_10 : decode cX12_laysRid 10 = .ok (.iconst 0, 1) := by decide +kernel
theorem dX12_laysRid_11 : decode cX12_laysRid 11 = .ok (.iastore, 1) := by decide +kernel
theorem dX12_laysRid_12 : decode cX12_laysRid 12 = .ok (.iconst 1, 1) := by decide +kernel
theorem dX12_laysRid_13 : decode cX12_laysRid 13 = .ok (.istore_n 2, 1) := by decide +kernel
theorem dX12_laysRid_14 : decode cX12_laysRid 14 = .ok (.iload_n 2, 1) := by decide +kernel
theorem dX12_laysRid_15 : decode cX12_laysRid 15 = .ok (.iconst 1, 1) := by decide +kernel
theorem dX12_laysRid_16 : decode cX12_laysRid 16 = .ok (.aload_n 0, 1) := by decide +kernel
theorem dX12_laysRid_17 : decode cX12_laysRid 17 = .ok (.getfield 241, 3) := by decide +kernel
theorem dX12_laysRid_20 : decode cX12_laysRid 20 = .ok (.ishl, 1) := by decide +kernel
theorem dX12_laysRid_21 : decode cX12_laysRid 21 = .ok (.if_icmp .ge 160, 3) := by decide +kernel
theorem dX12_laysRid_24 : decode cX12_laysRid 24 = .ok (.iconst 0, 1) := by decide +kernel
theorem dX12_laysRid_25 : decode cX12_laysRid 25 = .ok (.istore_n 3, 1) := by decide +kernel
theorem dX12_laysRid_26 : decode cX12_laysRid 26 = .ok (.iload_n 2, 1) := by decide +kernel
theorem dX12_laysRid_27 : decode cX12_laysRid 27 = .ok (.iload_n 3, 1) := by decide +kernel
theorem dX12_laysRid_28 : decode cX12_laysRid 28 = .ok (.ishr, 1) := by decide +kernel
theorem dX12_laysRid_29 : decode cX12_laysRid 29 = .ok (.iconst 1, 1) := by decide +kernel
theorem dX12_laysRid_30 : decode cX12_laysRid 30 = .ok (.iand, 1) := by decide +kernel
theorem dX12_laysRid_31 : decode cX12_laysRid 31 = .ok (.ifCond .ne 9, 3) := by decide +kernel
theorem dX12_laysRid_34 : decode cX12_laysRid 34 = .ok (.iinc 3 1, 3) := by decide +kernel
theorem dX12_laysRid_37 : decode cX12_laysRid 37 = .ok (.goto (-11), 3) := by decide +kernel
theorem dX12_laysRid_40 : decode cX12_laysRid 40 = .ok (.iload_n 2, 1) := by decide +kernel
theorem dX12_laysRid_41 : decode cX12_laysRid 41 = .ok (.iconst 1, 1) := by decide +kernel
theorem dX12_laysRid_42 : decode cX12_laysRid 42 = .ok (.iload_n 3, 1) := by decide +kernel
theorem dX12_laysRid_43 : decode cX12_laysRid 43 = .ok (.ishl, 1) := by decide +kernel
theorem dX12_laysRid_44 : decode cX12_laysRid 44 = .ok (.iconst (-1), 1) := by decide +kernel
theorem dX12_laysRid_45 : decode cX12_laysRid 45 = .ok (.ixor, 1) := by decide +kernel
theorem dX12_laysRid_46 : decode cX12_laysRid 46 = .ok (.iand, 1) := by decide +kernel
theorem dX12_laysRid_47 : decode cX12_laysRid 47 = .ok (.istore 4, 2) := by decide +kernel
theorem dX12_laysRid_49 : decode cX12_laysRid 49 = .ok (.aload_n 0, 1) := by decide +kernel
theorem dX12_laysRid_50 : decode cX12_laysRid 50 = .ok (.getfield 71, 3) := by decide +kernel
theorem dX12_laysRid_53 : decode cX12_laysRid 53 = .ok (.iload 4, 2) := by decide +kernel
theorem dX12_laysRid_55 : decode cX12_laysRid 55 = .ok (.iaload, 1) := by decide +kernel
theorem dX12_laysRid_56 : decode cX12_laysRid 56 = .ok (.aload_n 0, 1) := by decide +kernel
theorem dX12_laysRid_57 : decode cX12_laysRid 57 = .ok (.iload_n 3, 1) := by decide +kernel
theorem dX12_laysRid_58 : decode cX12_laysRid 58 = .ok (.iload_n 1, 1) := by decide +kernel
theorem dX12_laysRid_59 : decode cX12_laysRid 59 = .ok (.invokevirtual 443, 3) := by decide +kernel
theorem dX12_laysRid_62 : decode cX12_laysRid 62 = .ok (.iadd, 1) := by decide +kernel
theorem dX12_laysRid_63 : decode cX12_laysRid 63 = .ok (.istore 5, 2) := by decide +kernel
theorem dX12_laysRid_65 : decode cX12_laysRid 65 = .ok (.iload_n 3, 1) := by decide +kernel
theorem dX12_laysRid_66 : decode cX12_laysRid 66 = .ok (.istore 6, 2) := by decide +kernel
theorem dX12_laysRid_68 : decode cX12_laysRid 68 = .ok (.iload_n 3, 1) := by decide +kernel
theorem dX12_laysRid_69 : decode cX12_laysRid 69 = .ok (.iconst 1, 1) := by decide +kernel
theorem dX12_laysRid_70 : decode cX12_laysRid 70 = .ok (.iadd, 1) := by decide +kernel
theorem dX12_laysRid_71 : decode cX12_laysRid 71 = .ok (.istore 7, 2) := by decide +kernel
theorem dX12_laysRid_73 : decode cX12_laysRid 73 = .ok (.iload 7, 2) := by decide +kernel
theorem dX12_laysRid_75 : decode cX12_laysRid 75 = .ok (.aload_n 0, 1) := by decide +kernel
theorem dX12_laysRid_76 : decode cX12_laysRid 76 = .ok (.getfield 241, 3) := by decide +kernel
theorem dX12_laysRid_79 : decode cX12_laysRid 79 = .ok (.if_icmp .ge 80, 3) := by decide +kernel
theorem dX12_laysRid_82 : decode cX12_laysRid 82 = .ok (.iload 4, 2) := by decide +kernel
theorem dX12_laysRid_84 : decode cX12_laysRid 84 = .ok (.iload 7, 2) := by decide +kernel
theorem dX12_laysRid_86 : decode cX12_laysRid 86 = .ok (.ishr, 1) := by decide +kernel
theorem dX12_laysRid_87 : decode cX12_laysRid 87 = .ok (.iconst 1, 1) := by decide +kernel
theorem dX12_laysRid_88 : decode cX12_laysRid 88 = .ok (.iand, 1) := by decide +kernel
theorem dX12_laysRid_89 : decode cX12_laysRid 89 = .ok (.iconst 1, 1) := by decide +kernel
theorem dX12_laysRid_90 : decode cX12_laysRid 90 = .ok (.if_icmp .ne 63, 3) := by decide +kernel
theorem dX12_laysRid_93 : decode cX12_laysRid 93 = .ok (.aload_n 0, 1) := by decide +kernel
theorem dX12_laysRid_94 : decode cX12_laysRid 94 = .ok (.iload_n 3, 1) := by decide +kernel
theorem dX12_laysRid_95 : decode cX12_laysRid 95 = .ok (.iload 7, 2) := by decide +kernel
theorem dX12_laysRid_97 : decode cX12_laysRid 97 = .ok (.invokevirtual 446, 3) := by decide +kernel
theorem dX12_laysRid_100 : decode cX12_laysRid 100 = .ok (.ifCond .eq 53, 3) := by decide +kernel
theorem dX12_laysRid_103 : decode cX12_laysRid 103 = .ok (.aload_n 0, 1) := by decide +kernel
theorem dX12_laysRid_104 : decode cX12_laysRid 104 = .ok (.getfield 71, 3) := by decide +kernel
theorem dX12_laysRid_107 : decode cX12_laysRid 107 = .ok (.iload 4, 2) := by decide +kernel
theorem dX12_laysRid_109 : decode cX12_laysRid 109 = .ok (.iconst 1, 1) := by decide +kernel
theorem dX12_laysRid_110 : decode cX12_laysRid 110 = .ok (.iload 7, 2) := by decide +kernel
theorem dX12_laysRid_112 : decode cX12_laysRid 112 = .ok (.ishl, 1) := by decide +kernel
theorem dX12_laysRid_113 : decode cX12_laysRid 113 = .ok (.iconst (-1), 1) := by decide +kernel
theorem dX12_laysRid_114 : decode cX12_laysRid 114 = .ok (.ixor, 1) := by decide +kernel
theorem dX12_laysRid_115 : decode cX12_laysRid 115 = .ok (.iand, 1) := by decide +kernel
theorem dX12_laysRid_116 : decode cX12_laysRid 116 = .ok (.iaload, 1) := by decide +kernel
theorem dX12_laysRid_117 : decode cX12_laysRid 117 = .ok (.aload_n 0, 1) := by decide +kernel
theorem dX12_laysRid_118 : decode cX12_laysRid 118 = .ok (.iload_n 3, 1) := by decide +kernel
theorem dX12_laysRid_119 : decode cX12_laysRid 119 = .ok (.iload 7, 2) := by decide +kernel
theorem dX12_laysRid_121 : decode cX12_laysRid 121 = .ok (.iload_n 1, 1) := by decide +kernel
theorem dX12_laysRid_122 : decode cX12_laysRid 122 = .ok (.invokevirtual 449, 3) := by decide +kernel
theorem dX12_laysRid_125 : decode cX12_laysRid 125 = .ok (.iadd, 1) := by decide +kernel
theorem dX12_laysRid_126 : decode cX12_laysRid 126 = .ok (.istore 8, 2) := by decide +kernel
theorem dX12_laysRid_128 : decode cX12_laysRid 128 = .ok (.iload 8, 2) := by decide +kernel
theorem dX12_laysRid_130 : decode cX12_laysRid 130 = .ok (.iload 5, 2) := by decide +kernel
theorem dX12_laysRid_132 : decode cX12_laysRid 132 = .ok (.if_icmp .ge 8, 3) := by decide +kernel
theorem dX12_laysRid_135 : decode cX12_laysRid 135 = .ok (.iload 7, 2) := by decide +kernel
theorem dX12_laysRid_137 : decode cX12_laysRid 137 = .ok (.goto 5, 3) := by decide +kernel
theorem dX12_laysRid_140 : decode cX12_laysRid 140 = .ok (.iload 6, 2) := by decide +kernel
theorem dX12_laysRid_142 : decode cX12_laysRid 142 = .ok (.istore 6, 2) := by decide +kernel
theorem dX12_laysRid_144 : decode cX12_laysRid 144 = .ok (.iload 5, 2) := by decide +kernel
theorem dX12_laysRid_146 : decode cX12_laysRid 146 = .ok (.iload 8, 2) := by decide +kernel
theorem dX12_laysRid_148 : decode cX12_laysRid 148 = .ok (.invokestatic 128, 3) := by decide +kernel
theorem dX12_laysRid_151 : decode cX12_laysRid 151 = .ok (.istore 5, 2) := by decide +kernel
theorem dX12_laysRid_153 : decode cX12_laysRid 153 = .ok (.iinc 7 1, 3) := by decide +kernel
theorem dX12_laysRid_156 : decode cX12_laysRid 156 = .ok (.goto (-83), 3) := by decide +kernel
theorem dX12_laysRid_159 : decode cX12_laysRid 159 = .ok (.aload_n 0, 1) := by decide +kernel
theorem dX12_laysRid_160 : decode cX12_laysRid 160 = .ok (.getfield 71, 3) := by decide +kernel
theorem dX12_laysRid_163 : decode cX12_laysRid 163 = .ok (.iload_n 2, 1) := by decide +kernel
theorem dX12_laysRid_164 : decode cX12_laysRid 164 = .ok (.iload 5, 2) := by decide +kernel
theorem dX12_laysRid_166 : decode cX12_laysRid 166 = .ok (.iastore, 1) := by decide +kernel
theorem dX12_laysRid_167 : decode cX12_laysRid 167 = .ok (.aload_n 0, 1) := by decide +kernel
theorem dX12_laysRid_168 : decode cX12_laysRid 168 = .ok (.getfield 74, 3) := by decide +kernel
theorem dX12_laysRid_171 : decode cX12_laysRid 171 = .ok (.iload_n 2, 1) := by decide +kernel
theorem dX12_laysRid_172 : decode cX12_laysRid 172 = .ok (.iload 6, 2) := by decide +kernel
theorem dX12_laysRid_174 : decode cX12_laysRid 174 = .ok (.iastore, 1) := by decide +kernel
theorem dX12_laysRid_175 : decode cX12_laysRid 175 = .ok (.iinc 2 1, 3) := by decide +kernel
theorem dX12_laysRid_178 : decode cX12_laysRid 178 = .ok (.goto (-164), 3) := by decide +kernel
theorem dX12_laysRid_181 : decode cX12_laysRid 181 = .ok (.iconst 1, 1) := by decide +kernel
theorem dX12_laysRid_182 : decode cX12_laysRid 182 = .ok (.aload_n 0, 1) := by decide +kernel
theorem dX12_laysRid_183 : decode cX12_laysRid 183 = .ok (.getfield 241, 3) := by decide +kernel
theorem dX12_laysRid_186 : decode cX12_laysRid 186 = .ok (.ishl, 1) := by decide +kernel
theorem dX12_laysRid_187 : decode cX12_laysRid 187 = .ok (.iconst 1, 1) := by decide +kernel
theorem dX12_laysRid_188 : decode cX12_laysRid 188 = .ok (.isub, 1) := by decide +kernel
theorem dX12_laysRid_189 : decode cX12_laysRid 189 = .ok (.istore_n 2, 1) := by decide +kernel
theorem dX12_laysRid_190 : decode cX12_laysRid 190 = .ok (.iconst 0, 1) := by decide +kernel
theorem dX12_laysRid_191 : decode cX12_laysRid 191 = .ok (.istore_n 3, 1) := by decide +kernel
theorem dX12_laysRid_192 : decode cX12_laysRid 192 = .ok (.iload_n 3, 1) := by decide +kernel
theorem dX12_laysRid_193 : decode cX12_laysRid 193 = .ok (.aload_n 0, 1) := by decide +kernel
theorem dX12_laysRid_194 : decode cX12_laysRid 194 = .ok (.getfield 241, 3) := by decide +kernel
theorem dX12_laysRid_197 : decode cX12_laysRid 197 = .ok (.if_icmp .ge 57, 3) := by decide +kernel
theorem dX12_laysRid_200 : decode cX12_laysRid 200 = .ok (.iload_n 2, 1) := by decide +kernel
theorem dX12_laysRid_201 : decode cX12_laysRid 201 = .ok (.iload_n 3, 1) := by decide +kernel
theorem dX12_laysRid_202 : decode cX12_laysRid 202 = .ok (.ishr, 1) := by decide +kernel
theorem dX12_laysRid_203 : decode cX12_laysRid 203 = .ok (.iconst 1, 1) := by decide +kernel
theorem dX12_laysRid_204 : decode cX12_laysRid 204 = .ok (.iand, 1) := by decide +kernel
theorem dX12_laysRid_205 : decode cX12_laysRid 205 = .ok (.iconst 1, 1) := by decide +kernel
theorem dX12_laysRid_206 : decode cX12_laysRid 206 = .ok (.if_icmp .ne 42, 3) := by decide +kernel
theorem dX12_laysRid_209 : decode cX12_laysRid 209 = .ok (.aload_n 0, 1) := by decide +kernel
theorem dX12_laysRid_210 : decode cX12_laysRid 210 = .ok (.getfield 74, 3) := by decide +kernel
theorem dX12_laysRid_213 : decode cX12_laysRid 213 = .ok (.iload_n 2, 1) := by decide +kernel
theorem dX12_laysRid_214 : decode cX12_laysRid 214 = .ok (.iaload, 1) := by decide +kernel
theorem dX12_laysRid_215 : decode cX12_laysRid 215 = .ok (.istore 4, 2) := by decide +kernel
theorem dX12_laysRid_217 : decode cX12_laysRid 217 = .ok (.aload_n 0, 1) := by decide +kernel
theorem dX12_laysRid_218 : decode cX12_laysRid 218 = .ok (.getfield 77, 3) := by decide +kernel
theorem dX12_laysRid_221 : decode cX12_laysRid 221 = .ok (.iload_n 3, 1) := by decide +kernel
theorem dX12_laysRid_222 : decode cX12_laysRid 222 = .ok (.iload 4, 2) := by decide +kernel
theorem dX12_laysRid_224 : decode cX12_laysRid 224 = .ok (.iastore, 1) := by decide +kernel
theorem dX12_laysRid_225 : decode cX12_laysRid 225 = .ok (.aload_n 0, 1) := by decide +kernel
theorem dX12_laysRid_226 : decode cX12_laysRid 226 = .ok (.getfield 77, 3) := by decide +kernel
theorem dX12_laysRid_229 : decode cX12_laysRid 229 = .ok (.iload 4, 2) := by decide +kernel
theorem dX12_laysRid_231 : decode cX12_laysRid 231 = .ok (.iload_n 3, 1) := by decide +kernel
theorem dX12_laysRid_232 : decode cX12_laysRid 232 = .ok (.iastore, 1) := by decide +kernel
theorem dX12_laysRid_233 : decode cX12_laysRid 233 = .ok (.iload_n 2, 1) := by decide +kernel
theorem dX12_laysRid_234 : decode cX12_laysRid 234 = .ok (.iconst 1, 1) := by decide +kernel
theorem dX12_laysRid_235 : decode cX12_laysRid 235 = .ok (.iload_n 3, 1) := by decide +kernel
theorem dX12_laysRid_236 : decode cX12_laysRid 236 = .ok (.ishl, 1) := by decide +kernel
theorem dX12_laysRid_237 : decode cX12_laysRid 237 = .ok (.iconst (-1), 1) := by decide +kernel
theorem dX12_laysRid_238 : decode cX12_laysRid 238 = .ok (.ixor, 1) := by decide +kernel
theorem dX12_laysRid_239 : decode cX12_laysRid 239 = .ok (.iconst 1, 1) := by decide +kernel
theorem dX12_laysRid_240 : decode cX12_laysRid 240 = .ok (.iload 4, 2) := by decide +kernel
theorem dX12_laysRid_242 : decode cX12_laysRid 242 = .ok (.ishl, 1) := by decide +kernel
theorem dX12_laysRid_243 : decode cX12_laysRid 243 = .ok (.iconst (-1), 1) := by decide +kernel
theorem dX12_laysRid_244 : decode cX12_laysRid 244 = .ok (.ixor, 1) := by decide +kernel
theorem dX12_laysRid_245 : decode cX12_laysRid 245 = .ok (.iand, 1) := by decide +kernel
theorem dX12_laysRid_246 : decode cX12_laysRid 246 = .ok (.iand, 1) := by decide +kernel
theorem dX12_laysRid_247 : decode cX12_laysRid 247 = .ok (.istore_n 2, 1) := by decide +kernel
theorem dX12_laysRid_248 : decode cX12_laysRid 248 = .ok (.iinc 3 1, 3) := by decide +kernel
theorem dX12_laysRid_251 : decode cX12_laysRid 251 = .ok (.goto (-59), 3) := by decide +kernel
theorem dX12_laysRid_254 : decode cX12_laysRid 254 = .ok (.aload_n 0, 1) := by decide +kernel
theorem dX12_laysRid_255 : decode cX12_laysRid 255 = .ok (.getfield 71, 3) := by decide +kernel
theorem dX12_laysRid_258 : decode cX12_laysRid 258 = .ok (.iconst 1, 1) := by decide +kernel
theorem dX12_laysRid_259 : decode cX12_laysRid 259 = .ok (.aload_n 0, 1) := by decide +kernel
theorem dX12_laysRid_260 : decode cX12_laysRid 260 = .ok (.getfield 241, 3) := by decide +kernel
theorem dX12_laysRid_263 : decode cX12_laysRid 263 = .ok (.ishl, 1) := by decide +kernel
theorem dX12_laysRid_264 : decode cX12_laysRid 264 = .ok (.iconst 1, 1) := by decide +kernel
theorem dX12_laysRid_265 : decode cX12_laysRid 265 = .ok (.isub, 1) := by decide +kernel
theorem dX12_laysRid_266 : decode cX12_laysRid 266 = .ok (.iaload, 1) := by decide +kernel
theorem dX12_laysRid_267 : decode cX12_laysRid 267 = .ok (.ireturn, 1) := by decide +kernel
theorem dX12_laysWalls_0 : decode cX12_laysWalls 0 = .ok (.iconst 0, 1) := by decide +kernel
theorem dX12_laysWalls_1 : decode cX12_laysWalls 1 = .ok (.istore_n 1, 1) := by decide +kernel
theorem dX12_laysWalls_2 : decode cX12_laysWalls 2 = .ok (.iload_n 1, 1) := by decide +kernel
theorem dX12_laysWalls_3 : decode cX12_laysWalls 3 = .ok (.sipush 162, 3) := by decide +kernel
theorem dX12_laysWalls_6 : decode cX12_laysWalls 6 = .ok (.if_icmp .ge 16, 3) := by decide +kernel
theorem dX12_laysWalls_9 : decode cX12_laysWalls 9 = .ok (.aload_n 0, 1) := by decide +kernel
theorem dX12_laysWalls_10 : decode cX12_laysWalls 10 = .ok (.getfield 65, 3) := by decide +kernel
theorem dX12_laysWalls_13 : decode cX12_laysWalls 13 = .ok (.iload_n 1, 1) := by decide +kernel
theorem dX12_laysWalls_14 : decode cX12_laysWalls 14 = .ok (.iload_n 1, 1) := by decide +kernel
theorem dX12_laysWalls_15 : decode cX12_laysWalls 15 = .ok (.iastore, 1) := by decide +kernel
theorem dX12_laysWalls_16 : decode cX12_laysWalls 16 = .ok (.iinc 1 1, 3) := by decide +kernel
theorem dX12_laysWalls_19 : decode cX12_laysWalls 19 = .ok (.goto (-17), 3) := by decide +kernel
theorem dX12_laysWalls_22 : decode cX12_laysWalls 22 = .ok (.iconst 1, 1) := by decide +kernel
theorem dX12_laysWalls_23 : decode cX12_laysWalls 23 = .ok (.istore_n 1, 1) := by decide +kernel
theorem dX12_laysWalls_24 : decode cX12_laysWalls 24 = .ok (.iload_n 1, 1) := by decide +kernel
theorem dX12_laysWalls_25 : decode cX12_laysWalls 25 = .ok (.ifCond .eq 63, 3) := by decide +kernel
theorem dX12_laysWalls_28 : decode cX12_laysWalls 28 = .ok (.iconst 0, 1) := by decide +kernel
theorem dX12_laysWalls_29 : decode cX12_laysWalls 29 = .ok (.istore_n 1, 1) := by decide +kernel
theorem dX12_laysWalls_30 : decode cX12_laysWalls 30 = .ok (.iconst 0, 1) := by decide +kernel
theorem dX12_laysWalls_31 : decode cX12_laysWalls 31 = .ok (.istore_n 2, 1) := by decide +kernel
theorem dX12_laysWalls_32 : decode cX12_laysWalls 32 = .ok (.iload_n 2, 1) := by decide +kernel
theorem dX12_laysWalls_33 : decode cX12_laysWalls 33 = .ok (.aload_n 0, 1) := by decide +kernel
theorem dX12_laysWalls_34 : decode cX12_laysWalls 34 = .ok (.getfield 208, 3) := by decide +kernel
theorem dX12_laysWalls_37 : decode cX12_laysWalls 37 = .ok (.iconst 1, 1) := by decide +kernel
theorem dX12_laysWalls_38 : decode cX12_laysWalls 38 = .ok (.isub, 1) := by decide +kernel
theorem dX12_laysWalls_39 : decode cX12_laysWalls 39 = .ok (.if_icmp .ge 46, 3) := by decide +kernel
theorem dX12_laysWalls_42 : decode cX12_laysWalls 42 = .ok (.iconst 0, 1) := by decide +kernel
theorem dX12_laysWalls_43 : decode cX12_laysWalls 43 = .ok (.istore_n 3, 1) := by decide +kernel
theorem dX12_laysWalls_44 : decode cX12_laysWalls 44 = .ok (.iload_n 3, 1) := by decide +kernel
theorem dX12_laysWalls_45 : decode cX12_laysWalls 45 = .ok (.aload_n 0, 1) := by decide +kernel
theorem dX12_laysWalls_46 : decode cX12_laysWalls 46 = .ok (.getfield 205, 3) := by decide +kernel
theorem dX12_laysWalls_49 : decode cX12_laysWalls 49 = .ok (.iconst 1, 1) := by decide +kernel
theorem dX12_laysWalls_50 : decode cX12_laysWalls 50 = .ok (.isub, 1) := by decide +kernel
theorem dX12_laysWalls_51 : decode cX12_laysWalls 51 = .ok (.if_icmp .ge 28, 3) := by decide +kernel
theorem dX12_laysWalls_54 : decode cX12_laysWalls 54 = .ok (.aload_n 0, 1) := by decide +kernel
theorem dX12_laysWalls_55 : decode cX12_laysWalls 55 = .ok (.iload_n 3, 1) := by decide +kernel
theorem dX12_laysWalls_56 : decode cX12_laysWalls 56 = .ok (.iload_n 2, 1) := by decide +kernel
theorem dX12_laysWalls_57 : decode cX12_laysWalls 57 = .ok (.invokevirtual 428, 3) := by decide +kernel
theorem dX12_laysWalls_60 : decode cX12_laysWalls 60 = .ok (.ifCond .ne 7, 3) := by decide +kernel
theorem dX12_laysWalls_63 : decode cX12_laysWalls 63 = .ok (.iload_n 1, 1) := by decide +kernel
theorem dX12_laysWalls_64 : decode cX12_laysWalls 64 = .ok (.ifCond .eq 7, 3) := by decide +kernel
theorem dX12_laysWalls_67 : decode cX12_laysWalls 67 = .ok (.iconst 1, 1) := by decide +kernel
theorem dX12_laysWalls_68 : decode cX12_laysWalls 68 = .ok (.goto 4, 3) := by decide +kernel
theorem dX12_laysWalls_71 : decode cX12_laysWalls 71 = .ok (.iconst 0, 1) := by decide +kernel
theorem dX12_laysWalls_72 : decode cX12_laysWalls 72 = .ok (.istore_n 1, 1) := by decide +kernel
theorem dX12_laysWalls_73 : decode cX12_laysWalls 73 = .ok (.iinc 3 1, 3) := by decide +kernel
theorem dX12_laysWalls_76 : decode cX12_laysWalls 76 = .ok (.goto (-32), 3) := by decide +kernel
theorem dX12_laysWalls_79 : decode cX12_laysWalls 79 = .ok (.iinc 2 1, 3) := by decide +kernel
theorem dX12_laysWalls_82 : decode cX12_laysWalls 82 = .ok (.goto (-50), 3) := by decide +kernel
theorem dX12_laysWalls_85 : decode cX12_laysWalls 85 = .ok (.goto (-61), 3) := by decide +kernel
