theorem dX11_move_0 : decode cX11_move 0 = .ok (.aload_n 0, 1) := by decide +kernel
theorem dX11_move_1 : decode cX11_move 1 = .ok (.invokevirtual 136, 3) := by decide +kernel
theorem dX11_move_4 : decode cX11_move 4 = .ok (.ifCond .eq 9, 3) := by decide +kernel
theorem dX11_move_7 : decode cX11_move 7 = .ok (.aload_n 0, 1) := by decide +kernel
theorem dX11_move_8 : decode cX11_move 8 = .ok (.iconst 0, 1) := by decide +kernel
theorem dX11_move_9 : decode cX11_move 9 = .ok (.invokevirtual 243, 3) := by decide +kernel
theorem dX11_move_12 : decode cX11_move 12 = .ok (.ireturn, 1) := by decide +kernel
theorem dX11_move_13 : decode cX11_move 13 = .ok (.aload_n 0, 1) := by decide +kernel
theorem dX11_move_14 : decode cX11_move 14 = .ok (.getfield 28, 3) := by decide +kernel
theorem dX11_move_17 : decode cX11_move 17 = .ok (.getfield 127, 3) := by decide +kernel
theorem dX11_move_20 : decode cX11_move 20 = .ok (.iload_n 1, 1) := by decide +kernel
theorem dX11_move_21 : decode cX11_move 21 = .ok (.iload_n 2, 1) := by decide +kernel
theorem dX11_move_22 : decode cX11_move 22 = .ok (.invokevirtual 192, 3) := by decide +kernel
theorem dX11_move_25 : decode cX11_move 25 = .ok (.iconst (-1), 1) := by decide +kernel
theorem dX11_move_26 : decode cX11_move 26 = .ok (.if_icmp .ne 9, 3) := by decide +kernel
theorem dX11_move_29 : decode cX11_move 29 = .ok (.aload_n 0, 1) := by decide +kernel
theorem dX11_move_30 : decode cX11_move 30 = .ok (.iconst 1, 1) := by decide +kernel
theorem dX11_move_31 : decode cX11_move 31 = .ok (.invokevirtual 243, 3) := by decide +kernel
theorem dX11_move_34 : decode cX11_move 34 = .ok (.ireturn, 1) := by decide +kernel
theorem dX11_move_35 : decode cX11_move 35 = .ok (.iload_n 3, 1) := by decide +kernel
theorem dX11_move_36 : decode cX11_move 36 = .ok (.ifCond .lt 19, 3) := by decide +kernel
theorem dX11_move_39 : decode cX11_move 39 = .ok (.iload_n 3, 1) := by decide +kernel
theorem dX11_move_40 : decode cX11_move 40 = .ok (.iconst 2, 1) := by decide +kernel
theorem dX11_move_41 : decode cX11_move 41 = .ok (.if_icmp .gt 14, 3) := by decide +kernel
theorem dX11_move_44 : decode cX11_move 44 = .ok (.iload 4, 2) := by decide +kernel
theorem dX11_move_46 : decode cX11_move 46 = .ok (.ifCond .lt 9, 3) := by decide +kernel
theorem dX11_move_49 : decode cX11_move 49 = .ok (.iload 4, 2) := by decide +kernel
theorem dX11_move_51 : decode cX11_move 51 = .ok (.iconst 3, 1) := by decide +kernel
theorem dX11_move_52 : decode cX11_move 52 = .ok (.if_icmp .le 9, 3) := by decide +kernel
theorem dX11_move_55 : decode cX11_move 55 = .ok (.aload_n 0, 1) := by decide +kernel
theorem dX11_move_56 : decode cX11_move 56 = .ok (.iconst 2, 1) := by decide +kernel
theorem dX11_move_57 : decode cX11_move 57 = .ok (.invokevirtual 243, 3) := by decide +kernel
theorem dX11_move_60 : decode cX11_move 60 = .ok (.ireturn, 1) := by decide +kernel
theorem dX11_move_61 : decode cX11_move 61 = .ok (.iload_n 3, 1) := by decide +kernel
theorem dX11_move_62 : decode cX11_move 62 = .ok (.iconst 2, 1) := by decide +kernel
theorem dX11_move_63 : decode cX11_move 63 = .ok (.if_icmp .ne 7, 3) := by decide +kernel
theorem dX11_move_66 : decode cX11_move 66 = .ok (.iconst 0, 1) := by decide +kernel
theorem dX11_move_67 : decode cX11_move 67 = .ok (.goto 16, 3) := by decide +kernel
theorem dX11_move_70 : decode cX11_move 70 = .ok (.aload_n 0, 1) := by decide +kernel
theorem dX11_move_71 : decode cX11_move 71 = .ok (.getfield 28, 3) := by decide +kernel
theorem dX11_move_74 : decode cX11_move 74 = .ok (.getfield 141, 3) := by decide +kernel
theorem dX11_move_77 : decode cX11_move 77 = .ok (.iload_n 1, 1) := by decide +kernel
theorem dX11_move_78 : decode cX11_move 78 = .ok (.iload_n 2, 1) := by decide +kernel
theorem dX11_move_79 : decode cX11_move 79 = .ok (.iconst 0, 1) := by decide +kernel
theorem dX11_move_80 : decode cX11_move 80 = .ok (.invokevirtual 195, 3) := by decide +kernel
theorem dX11_move_83 : decode cX11_move 83 = .ok (.istore 5, 2) := by decide +kernel
theorem dX11_move_85 : decode cX11_move 85 = .ok (.iload_n 3, 1) := by decide +kernel
theorem dX11_move_86 : decode cX11_move 86 = .ok (.iconst 1, 1) := by decide +kernel
theorem dX11_move_87 : decode cX11_move 87 = .ok (.if_icmp .ne 7, 3) := by decide +kernel
theorem dX11_move_90 : decode cX11_move 90 = .ok (.iconst 0, 1) := by decide +kernel
theorem dX11_move_91 : decode cX11_move 91 = .ok (.goto 16, 3) := by decide +kernel
theorem dX11_move_94 : decode cX11_move 94 = .ok (.aload_n 0, 1) := by decide +kernel
theorem dX11_move_95 : decode cX11_move 95 = .ok (.getfield 28, 3) := by decide +kernel
theorem dX11_move_98 : decode cX11_move 98 = .ok (.getfield 141, 3) := by decide +kernel
theorem dX11_move_101 : decode cX11_move 101 = .ok (.iload_n 1, 1) := by decide +kernel
theorem dX11_move_102 : decode cX11_move 102 = .ok (.iload_n 2, 1) := by decide +kernel
theorem dX11_move_103 : decode cX11_move 103 = .ok (.iconst 1, 1) := by decide +kernel
theorem dX11_move_104 : decode cX11_move 104 = .ok (.invokevirtual 195, 3) := by decide +kernel
theorem dX11_move_107 : decode cX11_move 107 = .ok (.istore 6, 2) := by decide +kernel
theorem dX11_move_109 : decode cX11_move 109 = .ok (.iload 5, 2) := by decide +kernel
theorem dX11_move_111 : decode cX11_move 111 = .ok (.ifCond .ne 14, 3) := by decide +kernel
theorem dX11_move_114 : decode cX11_move 114 = .ok (.iload 6, 2) := by decide +kernel
theorem dX11_move_116 : decode cX11_move 116 = .ok (.ifCond .ne 9, 3) := by decide +kernel
theorem dX11_move_119 : decode cX11_move 119 = .ok (.aload_n 0, 1) := by decide +kernel
theorem dX11_move_120 : decode cX11_move 120 = .ok (.iconst 2, 1) := by decide +kernel
theorem dX11_move_121 : decode cX11_move 121 = .ok (.invokevirtual 243, 3) := by decide +kernel
theorem dX11_move_124 : decode cX11_move 124 = .ok (.ireturn, 1) := by decide +kernel
theorem dX11_move_125 : decode cX11_move 125 = .ok (.aload_n 0, 1) := by decide +kernel
theorem dX11_move_126 : decode cX11_move 126 = .ok (.getfield 28, 3) := by decide +kernel
theorem dX11_move_129 : decode cX11_move 129 = .ok (.getfield 127, 3) := by decide +kernel
theorem dX11_move_132 : decode cX11_move 132 = .ok (.getfield 131, 3) := by decide +kernel
theorem dX11_move_135 : decode cX11_move 135 = .ok (.bipush 12, 2) := by decide +kernel
theorem dX11_move_137 : decode cX11_move 137 = .ok (.if_icmp .lt 24, 3) := by decide +kernel
theorem dX11_move_140 : decode cX11_move 140 = .ok (.aload_n 0, 1) := by decide +kernel
theorem dX11_move_141 : decode cX11_move 141 = .ok (.iload_n 1, 1) := by decide +kernel
theorem dX11_move_142 : decode cX11_move 142 = .ok (.iload_n 2, 1) := by decide +kernel
theorem dX11_move_143 : decode cX11_move 143 = .ok (.iload 5, 2) := by decide +kernel
theorem dX11_move_145 : decode cX11_move 145 = .ok (.iload 6, 2) := by decide +kernel
theorem dX11_move_147 : decode cX11_move 147 = .ok (.iload 4, 2) := by decide +kernel
theorem dX11_move_149 : decode cX11_move 149 = .ok (.invokevirtual 246, 3) := by decide +kernel
theorem dX11_move_152 : decode cX11_move 152 = .ok (.ifCond .eq 9, 3) := by decide +kernel
theorem dX11_move_155 : decode cX11_move 155 = .ok (.aload_n 0, 1) := by decide +kernel
theorem dX11_move_156 : decode cX11_move 156 = .ok (.iconst 3, 1) := by decide +kernel
theorem dX11_move_157 : decode cX11_move 157 = .ok (.invokevirtual 243, 3) := by decide +kernel
theorem dX11_move_160 : decode cX11_move 160 = .ok (.ireturn, 1) := by decide +kernel
theorem dX11_move_161 : decode cX11_move 161 = .ok (.aload_n 0, 1) := by decide +kernel
theorem dX11_move_162 : decode cX11_move 162 = .ok (.getfield 49, 3) := by decide +kernel
theorem dX11_move_165 : decode cX11_move 165 = .ok (.aload_n 0, 1) := by decide +kernel
theorem dX11_move_166 : decode cX11_move 166 = .ok (.getfield 28, 3) := by decide +kernel
theorem dX11_move_169 : decode cX11_move 169 = .ok (.getfield 141, 3) := by decide +kernel
theorem dX11_move_172 : decode cX11_move 172 = .ok (.aload_n 0, 1) := by decide +kernel
theorem dX11_move_173 : decode cX11_move 173 = .ok (.getfield 42, 3) := by decide +kernel
theorem dX11_move_176 : decode cX11_move 176 = .ok (.invokevirtual 250, 3) := by decide +kernel
theorem dX11_move_179 : decode cX11_move 179 = .ok (.aload_n 0, 1) := by decide +kernel
theorem dX11_move_180 : decode cX11_move 180 = .ok (.getfield 28, 3) := by decide +kernel
theorem dX11_move_183 : decode cX11_move 183 = .ok (.getfield 141, 3) := by decide +kernel
theorem dX11_move_186 : decode cX11_move 186 = .ok (.iload_n 1, 1) := by decide +kernel
theorem dX11_move_187 : decode cX11_move 187 = .ok (.iload_n 2, 1) := by decide +kernel
theorem dX11_move_188 : decode cX11_move 188 = .ok (.iload 5, 2) := by decide +kernel
theorem dX11_move_190 : decode cX11_move 190 = .ok (.iload 6, 2) := by decide +kernel
theorem dX11_move_192 : decode cX11_move 192 = .ok (.iload 4, 2) := by decide +kernel
theorem dX11_move_194 : decode cX11_move 194 = .ok (.invokevirtual 254, 3) := by decide +kernel
theorem dX11_move_197 : decode cX11_move 197 = .ok (.istore 7, 2) := by decide +kernel
theorem dX11_move_199 : decode cX11_move 199 = .ok (.aload_n 0, 1) := by decide +kernel
theorem dX11_move_200 : decode cX11_move 200 = .ok (.getfield 28, 3) := by decide +kernel
theorem dX11_move_203 : decode cX11_move 203 = .ok (.getfield 127, 3) := by decide +kernel
theorem dX11_move_206 : decode cX11_move 206 = .ok (.aload_n 0, 1) := by decide +kernel
theorem dX11_move_207 : decode cX11_move 207 = .ok (.getfield 28, 3) := by decide +kernel
theorem dX11_move_210 : decode cX11_move 210 = .ok (.getfield 141, 3) := by decide +kernel
theorem dX11_move_213 : decode cX11_move 213 = .ok (.invokevirtual 257, 3) := by decide +kernel
theorem dX11_move_216 : decode cX11_move 216 = .ok (.iload 7, 2) := by decide +kernel
theorem dX11_move_218 : decode cX11_move 218 = .ok (.ifCond .eq 6, 3) := by decide +kernel
theorem dX11_move_221 : decode cX11_move 221 = .ok (.iload 7, 2) := by decide +kernel
theorem dX11_move_223 : decode cX11_move 223 = .ok (.ireturn, 1) := by decide +kernel
theorem dX11_move_224 : decode cX11_move 224 = .ok (.iload 5, 2) := by decide +kernel
theorem dX11_move_226 : decode cX11_move 226 = .ok (.iload 6, 2) := by decide +kernel
theorem dX11_move_228 : decode cX11_move 228 = .ok (.invokestatic 258, 3) := by decide +kernel
theorem dX11_move_231 : decode cX11_move 231 = .ok (.iload 4, 2) := by decide +kernel
theorem dX11_move_233 : decode cX11_move 233 = .ok (.iconst 2, 1) := by decide +kernel
theorem dX11_move_234 : decode cX11_move 234 = .ok (.irem, 1) := by decide +kernel
theorem dX11_move_235 : decode cX11_move 235 = .ok (.if_icmp .ne 7, 3) := by decide +kernel
theorem dX11_move_238 : decode cX11_move 238 = .ok (.iconst 0, 1) := by decide +kernel
theorem dX11_move_239 : decode cX11_move 239 = .ok (.goto 4, 3) := by decide +kernel
theorem dX11_move_242 : decode cX11_move 242 = .ok (.iconst 1, 1) := by decide +kernel
theorem dX11_move_243 : decode cX11_move 243 = .ok (.ireturn, 1) := by decide +kernel
theorem dX11_shake_0 : decode cX11_shake 0 = .ok (.aload_n 0, 1) := by decide +kernel
theorem dX11_shake_1 : decode cX11_shake 1 = .ok (.invokevirtual 136, 3) := by decide +kernel
theorem dX11_shake_4 : decode cX11_shake 4 = .ok (.ifCond .eq 9, 3) := by decide +kernel
theorem dX11_shake_7 : decode cX11_shake 7 = .ok (.aload_n 0, 1) := by decide +kernel
theorem dX11_shake_8 : decode cX11_shake 8 = .ok (.iconst 0, 1) := by decide +kernel
theorem dX11_shake_9 : decode cX11_shake 9 = .ok (.invokevirtual 243, 3) := by decide +kernel
theorem dX11_shake_12 : decode cX11_shake 12 = .ok (.ireturn, 1) := by decide +kernel
theorem dX11_shake_13 : decode cX11_shake 13 = .ok (.iload_n 1, 1) := by decide +kernel
theorem dX11_shake_14 : decode cX11_shake 14 = .ok (.iconst 1, 1) := by decide +kernel
theorem dX11_shake_15 : decode cX11_shake 15 = .ok (.if_icmp .lt 9, 3) := by decide +kernel
theorem dX11_shake_18 : decode cX11_shake 18 = .ok (.iload_n 1, 1) := by decide +kernel
theorem dX11_shake_19 : decode cX11_shake 19 = .ok (.bipush 60, 2) := by decide +kernel
theorem dX11_shake_21 : decode cX11_shake 21 = .ok (.if_icmp .le 9, 3) := by decide +kernel
theorem dX11_shake_24 : decode cX11_shake 24 = .ok (.aload_n 0, 1) := by decide +kernel
theorem dX11_shake_25 : decode cX11_shake 25 = .ok (.iconst 2, 1) := by decide +kernel
theorem dX11_shake_26 : decode cX11_shake 26 = .ok (.invokevirtual 243, 3) := by decide +kernel
theorem dX11_shake_29 : decode cX11_shake 29 = .ok (.ireturn, 1) := by decide +kernel
theorem dX11_shake_30 : decode cX11_shake 30 = .ok (.aload_n 0, 1) := by decide +kernel
theorem dX11_shake_31 : decode cX11_shake 31 = .ok (.getfield 49, 3) := by decide +kernel
theorem dX11_shake_34 : decode cX11_shake 34 = .ok (.aload_n 0, 1) := by decide +kernel
theorem dX11_shake_35 : decode cX11_shake 35 = .ok (.getfield 28, 3) := by decide +kernel
theorem dX11_shake_38 : decode cX11_shake 38 = .ok (.getfield 141, 3) := by decide +kernel
theorem dX11_shake_41 : decode cX11_shake 41 = .ok (.aload_n 0, 1) := by decide +kernel
theorem dX11_shake_42 : decode cX11_shake 42 = .ok (.getfield 42, 3) := by decide +kernel
theorem dX11_shake_45 : decode cX11_shake 45 = .ok (.invokevirtual 250, 3) := by decide +kernel
theorem dX11_shake_48 : decode cX11_shake 48 = .ok (.iconst 0, 1) := by decide +kernel
theorem dX11_shake_49 : decode cX11_shake 49 = .ok (.istore 4, 2) := by decide +kernel
theorem dX11_shake_51 : decode cX11_shake 51 = .ok (.lload_n 2, 1) := by decide +kernel
theorem dX11_shake_52 : decode cX11_shake 52 = .ok (.lstore 5, 2) := by decide +kernel
theorem dX11_shake_54 : decode cX11_shake 54 = .ok (.iconst 0, 1) := by decide +kernel
theorem dX11_shake_55 : decode cX11_shake 55 = .ok (.istore 7, 2) := by decide +kernel
theorem dX11_shake_57 : decode cX11_shake 57 = .ok (.iload 7, 2) := by decide +kernel
theorem dX11_shake_59 : decode cX11_shake 59 = .ok (.iload_n 1, 1) := by decide +kernel
theorem dX11_shake_60 : decode cX11_shake 60 = .ok (.if_icmp .ge 117, 3) := by decide +kernel
theorem dX11_shake_63 : decode cX11_shake 63 = .ok (.aload_n 0, 1) := by decide +kernel
theorem dX11_shake_64 : decode cX11_shake 64 = .ok (.getfield 28, 3) := by decide +kernel
theorem dX11_shake_67 : decode cX11_shake 67 = .ok (.getfield 127, 3) := by decide +kernel
theorem dX11_shake_70 : decode cX11_shake 70 = .ok (.getfield 131, 3) := by decide +kernel
theorem dX11_shake_73 : decode cX11_shake 73 = .ok (.ifCond .le 104, 3) := by decide +kernel
theorem dX11_shake_76 : decode cX11_shake 76 = .ok (.lload 5, 2) := by decide +kernel
theorem dX11_shake_78 : decode cX11_shake 78 = .ok (.invokestatic 287, 3) := by decide +kernel
theorem dX11_shake_81 : decode cX11_shake 81 = .ok (.lstore 5, 2) := by decide +kernel
theorem dX11_shake_83 : decode cX11_shake 83 = .ok (.lload 5, 2) := by decide +kernel
theorem dX11_shake_85 : decode cX11_shake 85 = .ok (.aload_n 0, 1) := by decide +kernel
theorem dX11_shake_86 : decode cX11_shake 86 = .ok (.getfield 28, 3) := by decide +kernel
theorem dX11_shake_89 : decode cX11_shake 89 = .ok (.getfield 127, 3) := by decide +kernel
theorem dX11_shake_92 : decode cX11_shake 92 = .ok (.getfield 131, 3) := by decide +kernel
theorem dX11_shake_95 : decode cX11_shake 95 = .ok (.invokestatic 291, 3) := by decide +kernel
theorem dX11_shake_98 : decode cX11_shake 98 = .ok (.istore 8, 2) := by decide +kernel
theorem dX11_shake_100 : decode cX11_shake 100 = .ok (.lload 5, 2) := by decide +kernel
theorem dX11_shake_102 : decode cX11_shake 102 = .ok (.invokestatic 287, 3) := by decide +kernel
theorem dX11_shake_105 : decode cX11_shake 105 = .ok (.lstore 5, 2) := by decide +kernel
theorem dX11_shake_107 : decode cX11_shake 107 = .ok (.lload 5, 2) := by decide +kernel
theorem dX11_shake_109 : decode cX11_shake 109 = .ok (.iconst 2, 1) := by decide +kernel
theorem dX11_shake_110 : decode cX11_shake 110 = .ok (.invokestatic 291, 3) := by decide +kernel
theorem dX11_shake_113 : decode cX11_shake 113 = .ok (.iconst 1, 1) := by decide +kernel
theorem dX11_shake_114 : decode cX11_shake 114 = .ok (.if_icmp .ne 7, 3) := by decide +kernel
theorem dX11_shake_117 : decode cX11_shake 117 = .ok (.iconst 1, 1) := by decide +kernel
theorem dX11_shake_118 : decode cX11_shake 118 = .ok (.goto 4, 3) := by decide +kernel
theorem dX11_shake_121 : decode cX11_shake 121 = .ok (.iconst 0, 1) := by decide +kernel
theorem dX11_shake_122 : decode cX11_shake 122 = .ok (.istore 9, 2) := by decide +kernel
theorem dX11_shake_124 : decode cX11_shake 124 = .ok (.aload_n 0, 1) := by decide +kernel
theorem dX11_shake_125 : decode cX11_shake 125 = .ok (.getfield 28, 3) := by decide +kernel
theorem dX11_shake_128 : decode cX11_shake 128 = .ok (.getfield 127, 3) := by decide +kernel
theorem dX11_shake_131 : decode cX11_shake 131 = .ok (.iload 8, 2) := by decide +kernel
theorem dX11_shake_133 : decode cX11_shake 133 = .ok (.invokevirtual 181, 3) := by decide +kernel
theorem dX11_shake_136 : decode cX11_shake 136 = .ok (.iconst (-1), 1) := by decide +kernel
theorem dX11_shake_137 : decode cX11_shake 137 = .ok (.if_icmp .eq 34, 3) := by decide +kernel
theorem dX11_shake_140 : decode cX11_shake 140 = .ok (.aload_n 0, 1) := by decide +kernel
theorem dX11_shake_141 : decode cX11_shake 141 = .ok (.getfield 28, 3) := by decide +kernel
theorem dX11_shake_144 : decode cX11_shake 144 = .ok (.iload 8, 2) := by decide +kernel
theorem dX11_shake_146 : decode cX11_shake 146 = .ok (.iload 9, 2) := by decide +kernel
theorem dX11_shake_148 : decode cX11_shake 148 = .ok (.invokevirtual 295, 3) := by decide +kernel
theorem dX11_shake_151 : decode cX11_shake 151 = .ok (.aload_n 0, 1) := by decide +kernel
theorem dX11_shake_152 : decode cX11_shake 152 = .ok (.getfield 28, 3) := by decide +kernel
theorem dX11_shake_155 : decode cX11_shake 155 = .ok (.getfield 127, 3) := by decide +kernel
theorem dX11_shake_158 : decode cX11_shake 158 = .ok (.aload_n 0, 1) := by decide +kernel
theorem dX11_shake_159 : decode cX11_shake 159 = .ok (.getfield 28, 3) := by decide +kernel
theorem dX11_shake_162 : decode cX11_shake 162 = .ok (.getfield 141, 3) := by decide +kernel
theorem dX11_shake_165 : decode cX11_shake 165 = .ok (.invokevirtual 257, 3) := by decide +kernel
theorem dX11_shake_168 : decode cX11_shake 168 = .ok (.iinc 4 1, 3) := by decide +kernel
theorem dX11_shake_171 : decode cX11_shake 171 = .ok (.iinc 7 1, 3) := by decide +kernel
theorem dX11_shake_174 : decode cX11_shake 174 = .ok (.goto (-117), 3) := by decide +kernel
theorem dX11_shake_177 : decode cX11_shake 177 = .ok (.iload 4, 2) := by decide +kernel
theorem dX11_shake_179 : decode cX11_shake 179 = .ok (.ireturn, 1) := by decide +kernel
theorem dX11_shift_0 : decode cX11_shift 0 = .ok (.aload_n 0, 1) := by decide +kernel
theorem dX11_shift_1 : decode cX11_shift 1 = .ok (.invokevirtual 136, 3) := by decide +kernel
theorem dX11_shift_4 : decode cX11_shift 4 = .ok (.ifCond .eq 9, 3) := by decide +kernel
theorem dX11_shift_7 : decode cX11_shift 7 = .ok (.aload_n 0, 1) := by decide +kernel
theorem dX11_shift_8 : decode cX11_shift 8 = .ok (.iconst 0, 1) := by decide +kernel
theorem dX11_shift_9 : decode cX11_shift 9 = .ok (.invokevirtual 243, 3) := by decide +kernel
theorem dX11_shift_12 : decode cX11_shift 12 = .ok (.ireturn, 1) := by decide +kernel
theorem dX11_shift_13 : decode cX11_shift 13 = .ok (.aload_n 0, 1) := by decide +kernel
theorem dX11_shift_14 : decode cX11_shift 14 = .ok (.getfield 28, 3) := by decide +kernel
theorem dX11_shift_17 : decode cX11_shift 17 = .ok (.getfield 141, 3) := by decide +kernel
theorem dX11_shift_20 : decode cX11_shift 20 = .ok (.iload_n 1, 1) := by decide +kernel
theorem dX11_shift_21 : decode cX11_shift 21 = .ok (.iload_n 2, 1) := by decide +kernel
theorem dX11_shift_22 : decode cX11_shift 22 = .ok (.invokevirtual 207, 3) := by decide +kernel
theorem dX11_shift_25 : decode cX11_shift 25 = .ok (.ifCond .ne 9, 3) := by decide +kernel
theorem dX11_shift_28 : decode cX11_shift 28 = .ok (.aload_n 0, 1) := by decide +kernel
theorem dX11_shift_29 : decode cX11_shift 29 = .ok (.iconst 1, 1) := by decide +kernel
theorem dX11_shift_30 : decode cX11_shift 30 = .ok (.invokevirtual 243, 3) := by decide +kernel
theorem dX11_shift_33 : decode cX11_shift 33 = .ok (.ireturn, 1) := by decide +kernel
theorem dX11_shift_34 : decode cX11_shift 34 = .ok (.iload_n 3, 1) := by decide +kernel
theorem dX11_shift_35 : decode cX11_shift 35 = .ok (.invokestatic 279, 3) := by decide +kernel
theorem dX11_shift_38 : decode cX11_shift 38 = .ok (.ifCond .eq 20, 3) := by decide +kernel
theorem dX11_shift_41 : decode cX11_shift 41 = .ok (.iload 4, 2) := by decide +kernel
theorem dX11_shift_43 : decode cX11_shift 43 = .ok (.invokestatic 279, 3) := by decide +kernel
theorem dX11_shift_46 : decode cX11_shift 46 = .ok (.ifCond .eq 12, 3) := by decide +kernel
theorem dX11_shift_49 : decode cX11_shift 49 = .ok (.iload_n 3, 1) := by decide +kernel
theorem dX11_shift_50 : decode cX11_shift 50 = .ok (.ifCond .ne 14, 3) := by decide +kernel
theorem dX11_shift_53 : decode cX11_shift 53 = .ok (.iload 4, 2) := by decide +kernel
theorem dX11_shift_55 : decode cX11_shift 55 = .ok (.ifCond .ne 9, 3) := by decide +kernel
theorem dX11_shift_58 : decode cX11_shift 58 = .ok (.aload_n 0, 1) := by decide +kernel
theorem dX11_shift_59 : decode cX11_shift 59 = .ok (.iconst 2, 1) := by decide +kernel
theorem dX11_shift_60 : decode cX11_shift 60 = .ok (.invokevirtual 243, 3) := by decide +kernel
theorem dX11_shift_63 : decode cX11_shift 63 = .ok (.ireturn, 1) := by decide +kernel
theorem dX11_shift_64 : decode cX11_shift 64 = .ok (.aload_n 0, 1) := by decide +kernel
theorem dX11_shift_65 : decode cX11_shift 65 = .ok (.getfield 49, 3) := by decide +kernel
theorem dX11_shift_68 : decode cX11_shift 68 = .ok (.aload_n 0, 1) := by decide +kernel
theorem dX11_shift_69 : decode cX11_shift 69 = .ok (.getfield 28, 3) := by decide +kernel
theorem dX11_shift_72 : decode cX11_shift 72 = .ok (.getfield 141, 3) := by decide +kernel
theorem dX11_shift_75 : decode cX11_shift 75 = .ok (.aload_n 0, 1) := by decide +kernel
theorem dX11_shift_76 : decode cX11_shift 76 = .ok (.getfield 42, 3) := by decide +kernel
theorem dX11_shift_79 : decode cX11_shift 79 = .ok (.invokevirtual 250, 3) := by decide +kernel
theorem dX11_shift_82 : decode cX11_shift 82 = .ok (.aload_n 0, 1) := by decide +kernel
theorem dX11_shift_83 : decode cX11_shift 83 = .ok (.getfield 28, 3) := by decide +kernel
theorem dX11_shift_86 : decode cX11_shift 86 = .ok (.getfield 141, 3) := by decide +kernel
theorem dX11_shift_89 : decode cX11_shift 89 = .ok (.iload_n 1, 1) := by decide +kernel
theorem dX11_shift_90 : decode cX11_shift 90 = .ok (.iload_n 2, 1) := by decide +kernel
theorem dX11_shift_91 : decode cX11_shift 91 = .ok (.iload_n 3, 1) := by decide +kernel
theorem dX11_shift_92 : decode cX11_shift 92 = .ok (.iload 4, 2) := by decide +kernel
theorem dX11_shift_94 : decode cX11_shift 94 = .ok (.invokevirtual 283, 3) := by decide +kernel
theorem dX11_shift_97 : decode cX11_shift 97 = .ok (.aload_n 0, 1) := by decide +kernel
theorem dX11_shift_98 : decode cX11_shift 98 = .ok (.getfield 28, 3) := by decide +kernel
theorem dX11_shift_101 : decode cX11_shift 101 = .ok (.getfield 141, 3) := by decide +kernel
theorem dX11_shift_104 : decode cX11_shift 104 = .ok (.invokevirtual 153, 3) := by decide +kernel
theorem dX11_shift_107 : decode cX11_shift 107 = .ok (.ireturn, 1) := by decide +kernel
theorem dX11_undo_0 : decode cX11_undo 0 = .ok (.aload_n 0, 1) := by decide +kernel
theorem dX11_undo_1 : decode cX11_undo 1 = .ok (.getfield 49, 3) := by decide +kernel
theorem dX11_undo_4 : decode cX11_undo 4 = .ok (.aload_n 0, 1) := by decide +kernel
theorem dX11_undo_5 : decode cX11_undo 5 = .ok (.getfield 28, 3) := by decide +kernel
theorem dX11_undo_8 : decode cX11_undo 8 = .ok (.getfield 141, 3) := by decide +kernel
theorem dX11_undo_11 : decode cX11_undo 11 = .ok (.aload_n 0, 1) := by decide +kernel
theorem dX11_undo_12 : decode cX11_undo 12 = .ok (.getfield 42, 3) := by decide +kernel
theorem dX11_undo_15 : decode cX11_undo 15 = .ok (.invokevirtual 347, 3) := by decide +kernel
theorem dX11_undo_18 : decode cX11_undo 18 = .ok (.ifCond .eq 17, 3) := by decide +kernel
theorem dX11_undo_21 : decode cX11_undo 21 = .ok (.aload_n 0, 1) := by decide +kernel
theorem dX11_undo_22 : decode cX11_undo 22 = .ok (.aload_n 0, 1) := by decide +kernel
theorem dX11_undo_23 : decode cX11_undo 23 = .ok (.getfield 49, 3) := by decide +kernel
theorem dX11_undo_26 : decode cX11_undo 26 = .ok (.getfield 351, 3) := by decide +kernel
theorem dX11_undo_29 : decode cX11_undo 29 = .ok (.invokevirtual 352, 3) := by decide +kernel
theorem dX11_undo_32 : decode cX11_undo 32 = .ok (.goto 4, 3) := by decide +kernel
theorem dX11_undo_35 : decode cX11_undo 35 = .ok (.iconst (-1), 1) := by decide +kernel
theorem dX11_undo_36 : decode cX11_undo 36 = .ok (.ireturn, 1) := by decide +kernel
