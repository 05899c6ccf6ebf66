theorem dX12_rule_117 : decode cX12_rule 117 = .ok (.getfield 31, 3) := by decide +kernel
theorem dX12_rule_120 : decode cX12_rule 120 = .ok (.iconst 2, 1) := by decide +kernel
theorem dX12_rule_121 : decode cX12_rule 121 = .ok (.iaload, 1) := by decide +kernel
theorem dX12_rule_122 : decode cX12_rule 122 = .ok (.ireturn, 1) := by decide +kernel
theorem dX12_rule_123 : decode cX12_rule 123 = .ok (.aload_n 0, 1) := by decide +kernel
theorem dX12_rule_124 : decode cX12_rule 124 = .ok (.getfield 31, 3) := by decide +kernel
theorem dX12_rule_127 : decode cX12_rule 127 = .ok (.iconst 3, 1) := by decide +kernel
theorem dX12_rule_128 : decode cX12_rule 128 = .ok (.iaload, 1) := by decide +kernel
theorem dX12_rule_129 : decode cX12_rule 129 = .ok (.ireturn, 1) := by decide +kernel
theorem dX12_rule_130 : decode cX12_rule 130 = .ok (.aload_n 0, 1) := by decide +kernel
theorem dX12_rule_131 : decode cX12_rule 131 = .ok (.getfield 241, 3) := by decide +kernel
theorem dX12_rule_134 : decode cX12_rule 134 = .ok (.ireturn, 1) := by decide +kernel
theorem dX12_rule_135 : decode cX12_rule 135 = .ok (.aload_n 0, 1) := by decide +kernel
theorem dX12_rule_136 : decode cX12_rule 136 = .ok (.invokevirtual 311, 3) := by decide +kernel
theorem dX12_rule_139 : decode cX12_rule 139 = .ok (.ireturn, 1) := by decide +kernel
theorem dX12_rule_140 : decode cX12_rule 140 = .ok (.aload_n 0, 1) := by decide +kernel
theorem dX12_rule_141 : decode cX12_rule 141 = .ok (.getfield 28, 3) := by decide +kernel
theorem dX12_rule_144 : decode cX12_rule 144 = .ok (.sipush 325, 3) := by decide +kernel
theorem dX12_rule_147 : decode cX12_rule 147 = .ok (.iaload, 1) := by decide +kernel
theorem dX12_rule_148 : decode cX12_rule 148 = .ok (.ireturn, 1) := by decide +kernel
theorem dX12_rule_149 : decode cX12_rule 149 = .ok (.aload_n 0, 1) := by decide +kernel
theorem dX12_rule_150 : decode cX12_rule 150 = .ok (.iconst 0, 1) := by decide +kernel
theorem dX12_rule_151 : decode cX12_rule 151 = .ok (.iconst 0, 1) := by decide +kernel
theorem dX12_rule_152 : decode cX12_rule 152 = .ok (.aload_n 0, 1) := by decide +kernel
theorem dX12_rule_153 : decode cX12_rule 153 = .ok (.getfield 205, 3) := by decide +kernel
theorem dX12_rule_156 : decode cX12_rule 156 = .ok (.iconst 1, 1) := by decide +kernel
theorem dX12_rule_157 : decode cX12_rule 157 = .ok (.isub, 1) := by decide +kernel
theorem dX12_rule_158 : decode cX12_rule 158 = .ok (.aload_n 0, 1) := by decide +kernel
theorem dX12_rule_159 : decode cX12_rule 159 = .ok (.getfield 208, 3) := by decide +kernel
theorem dX12_rule_162 : decode cX12_rule 162 = .ok (.iconst 1, 1) := by decide +kernel
theorem dX12_rule_163 : decode cX12_rule 163 = .ok (.isub, 1) := by decide +kernel
theorem dX12_rule_164 : decode cX12_rule 164 = .ok (.iconst 0, 1) := by decide +kernel
theorem dX12_rule_165 : decode cX12_rule 165 = .ok (.invokevirtual 314, 3) := by decide +kernel
theorem dX12_rule_168 : decode cX12_rule 168 = .ok (.ireturn, 1) := by decide +kernel
theorem dX12_rule_169 : decode cX12_rule 169 = .ok (.aload_n 0, 1) := by decide +kernel
theorem dX12_rule_170 : decode cX12_rule 170 = .ok (.iconst 0, 1) := by decide +kernel
theorem dX12_rule_171 : decode cX12_rule 171 = .ok (.iconst 0, 1) := by decide +kernel
theorem dX12_rule_172 : decode cX12_rule 172 = .ok (.aload_n 0, 1) := by decide +kernel
theorem dX12_rule_173 : decode cX12_rule 173 = .ok (.getfield 205, 3) := by decide +kernel
theorem dX12_rule_176 : decode cX12_rule 176 = .ok (.iconst 1, 1) := by decide +kernel
theorem dX12_rule_177 : decode cX12_rule 177 = .ok (.isub, 1) := by decide +kernel
theorem dX12_rule_178 : decode cX12_rule 178 = .ok (.aload_n 0, 1) := by decide +kernel
theorem dX12_rule_179 : decode cX12_rule 179 = .ok (.getfield 208, 3) := by decide +kernel
theorem dX12_rule_182 : decode cX12_rule 182 = .ok (.iconst 1, 1) := by decide +kernel
theorem dX12_rule_183 : decode cX12_rule 183 = .ok (.isub, 1) := by decide +kernel
theorem dX12_rule_184 : decode cX12_rule 184 = .ok (.iconst 1, 1) := by decide +kernel
theorem dX12_rule_185 : decode cX12_rule 185 = .ok (.invokevirtual 314, 3) := by decide +kernel
theorem dX12_rule_188 : decode cX12_rule 188 = .ok (.ireturn, 1) := by decide +kernel
theorem dX12_rule_189 : decode cX12_rule 189 = .ok (.aload_n 0, 1) := by decide +kernel
theorem dX12_rule_190 : decode cX12_rule 190 = .ok (.invokevirtual 318, 3) := by decide +kernel
theorem dX12_rule_193 : decode cX12_rule 193 = .ok (.ireturn, 1) := by decide +kernel
theorem dX12_rule_194 : decode cX12_rule 194 = .ok (.aload_n 0, 1) := by decide +kernel
theorem dX12_rule_195 : decode cX12_rule 195 = .ok (.invokevirtual 321, 3) := by decide +kernel
theorem dX12_rule_198 : decode cX12_rule 198 = .ok (.ireturn, 1) := by decide +kernel
theorem dX12_rule_199 : decode cX12_rule 199 = .ok (.aload_n 0, 1) := by decide +kernel
theorem dX12_rule_200 : decode cX12_rule 200 = .ok (.invokevirtual 324, 3) := by decide +kernel
theorem dX12_rule_203 : decode cX12_rule 203 = .ok (.ireturn, 1) := by decide +kernel
theorem dX12_rule_204 : decode cX12_rule 204 = .ok (.ldc_w 310, 3) := by decide +kernel
theorem dX12_rule_207 : decode cX12_rule 207 = .ok (.ireturn, 1) := by decide +kernel
theorem dX12_set_0 : decode cX12_set 0 = .ok (.aload_n 0, 1) := by decide +kernel
theorem dX12_set_1 : decode cX12_set 1 = .ok (.iconst 0, 1) := by decide +kernel
theorem dX12_set_2 : decode cX12_set 2 = .ok (.putfield 86, 3) := by decide +kernel
theorem dX12_set_5 : decode cX12_set 5 = .ok (.aload_n 0, 1) := by decide +kernel
theorem dX12_set_6 : decode cX12_set 6 = .ok (.invokevirtual 306, 3) := by decide +kernel
theorem dX12_set_9 : decode cX12_set 9 = .ok (.ifCond .ne 13, 3) := by decide +kernel
theorem dX12_set_12 : decode cX12_set 12 = .ok (.aload_n 0, 1) := by decide +kernel
theorem dX12_set_13 : decode cX12_set 13 = .ok (.iconst 0, 1) := by decide +kernel
theorem dX12_set_14 : decode cX12_set 14 = .ok (.invokevirtual 354, 3) := by decide +kernel
theorem dX12_set_17 : decode cX12_set 17 = .ok (.pop, 1) := by decide +kernel
theorem dX12_set_18 : decode cX12_set 18 = .ok (.ldc_w 310, 3) := by decide +kernel
theorem dX12_set_21 : decode cX12_set 21 = .ok (.ireturn, 1) := by decide +kernel
theorem dX12_set_22 : decode cX12_set 22 = .ok (.iload_n 1, 1) := by decide +kernel
theorem dX12_set_23 : decode cX12_set 23 = .ok (.i2l, 1) := by decide +kernel
theorem dX12_set_24 : decode cX12_set 24 = .ok (.lconst 0, 1) := by decide +kernel
theorem dX12_set_25 : decode cX12_set 25 = .ok (.ldc2_w 291, 3) := by decide +kernel
theorem dX12_set_28 : decode cX12_set 28 = .ok (.invokestatic 97, 3) := by decide +kernel
theorem dX12_set_31 : decode cX12_set 31 = .ok (.ifCond .eq 11, 3) := by decide +kernel
theorem dX12_set_34 : decode cX12_set 34 = .ok (.iload_n 1, 1) := by decide +kernel
theorem dX12_set_35 : decode cX12_set 35 = .ok (.iload_n 2, 1) := by decide +kernel
theorem dX12_set_36 : decode cX12_set 36 = .ok (.invokestatic 418, 3) := by decide +kernel
theorem dX12_set_39 : decode cX12_set 39 = .ok (.ifCond .ne 13, 3) := by decide +kernel
theorem dX12_set_42 : decode cX12_set 42 = .ok (.aload_n 0, 1) := by decide +kernel
theorem dX12_set_43 : decode cX12_set 43 = .ok (.iconst 2, 1) := by decide +kernel
theorem dX12_set_44 : decode cX12_set 44 = .ok (.invokevirtual 354, 3) := by decide +kernel
theorem dX12_set_47 : decode cX12_set 47 = .ok (.pop, 1) := by decide +kernel
theorem dX12_set_48 : decode cX12_set 48 = .ok (.ldc_w 310, 3) := by decide +kernel
theorem dX12_set_51 : decode cX12_set 51 = .ok (.ireturn, 1) := by decide +kernel
theorem dX12_set_52 : decode cX12_set 52 = .ok (.aload_n 0, 1) := by decide +kernel
theorem dX12_set_53 : decode cX12_set 53 = .ok (.getfield 31, 3) := by decide +kernel
theorem dX12_set_56 : decode cX12_set 56 = .ok (.iload_n 1, 1) := by decide +kernel
theorem dX12_set_57 : decode cX12_set 57 = .ok (.iaload, 1) := by decide +kernel
theorem dX12_set_58 : decode cX12_set 58 = .ok (.istore_n 3, 1) := by decide +kernel
theorem dX12_set_59 : decode cX12_set 59 = .ok (.aload_n 0, 1) := by decide +kernel
theorem dX12_set_60 : decode cX12_set 60 = .ok (.getfield 31, 3) := by decide +kernel
theorem dX12_set_63 : decode cX12_set 63 = .ok (.iload_n 1, 1) := by decide +kernel
theorem dX12_set_64 : decode cX12_set 64 = .ok (.iload_n 2, 1) := by decide +kernel
theorem dX12_set_65 : decode cX12_set 65 = .ok (.iastore, 1) := by decide +kernel
theorem dX12_set_66 : decode cX12_set 66 = .ok (.iload_n 3, 1) := by decide +kernel
theorem dX12_set_67 : decode cX12_set 67 = .ok (.ireturn, 1) := by decide +kernel
theorem dX12_shake_0 : decode cX12_shake 0 = .ok (.aload_n 0, 1) := by decide +kernel
theorem dX12_shake_1 : decode cX12_shake 1 = .ok (.iconst 0, 1) := by decide +kernel
theorem dX12_shake_2 : decode cX12_shake 2 = .ok (.putfield 86, 3) := by decide +kernel
theorem dX12_shake_5 : decode cX12_shake 5 = .ok (.aload_n 0, 1) := by decide +kernel
theorem dX12_shake_6 : decode cX12_shake 6 = .ok (.invokevirtual 306, 3) := by decide +kernel
theorem dX12_shake_9 : decode cX12_shake 9 = .ok (.ifCond .ne 9, 3) := by decide +kernel
theorem dX12_shake_12 : decode cX12_shake 12 = .ok (.aload_n 0, 1) := by decide +kernel
theorem dX12_shake_13 : decode cX12_shake 13 = .ok (.iconst 0, 1) := by decide +kernel
theorem dX12_shake_14 : decode cX12_shake 14 = .ok (.invokevirtual 354, 3) := by decide +kernel
theorem dX12_shake_17 : decode cX12_shake 17 = .ok (.ireturn, 1) := by decide +kernel
theorem dX12_shake_18 : decode cX12_shake 18 = .ok (.iload_n 1, 1) := by decide +kernel
theorem dX12_shake_19 : decode cX12_shake 19 = .ok (.i2l, 1) := by decide +kernel
theorem dX12_shake_20 : decode cX12_shake 20 = .ok (.lconst 1, 1) := by decide +kernel
theorem dX12_shake_21 : decode cX12_shake 21 = .ok (.ldc2_w 267, 3) := by decide +kernel
theorem dX12_shake_24 : decode cX12_shake 24 = .ok (.invokestatic 97, 3) := by decide +kernel
theorem dX12_shake_27 : decode cX12_shake 27 = .ok (.ifCond .ne 9, 3) := by decide +kernel
theorem dX12_shake_30 : decode cX12_shake 30 = .ok (.aload_n 0, 1) := by decide +kernel
theorem dX12_shake_31 : decode cX12_shake 31 = .ok (.iconst 2, 1) := by decide +kernel
theorem dX12_shake_32 : decode cX12_shake 32 = .ok (.invokevirtual 354, 3) := by decide +kernel
theorem dX12_shake_35 : decode cX12_shake 35 = .ok (.ireturn, 1) := by decide +kernel
theorem dX12_shake_36 : decode cX12_shake 36 = .ok (.aload_n 0, 1) := by decide +kernel
theorem dX12_shake_37 : decode cX12_shake 37 = .ok (.invokevirtual 364, 3) := by decide +kernel
theorem dX12_shake_40 : decode cX12_shake 40 = .ok (.aload_n 0, 1) := by decide +kernel
theorem dX12_shake_41 : decode cX12_shake 41 = .ok (.lload_n 2, 1) := by decide +kernel
theorem dX12_shake_42 : decode cX12_shake 42 = .ok (.putfield 401, 3) := by decide +kernel
theorem dX12_shake_45 : decode cX12_shake 45 = .ok (.iconst 0, 1) := by decide +kernel
theorem dX12_shake_46 : decode cX12_shake 46 = .ok (.istore 4, 2) := by decide +kernel
theorem dX12_shake_48 : decode cX12_shake 48 = .ok (.iconst 0, 1) := by decide +kernel
theorem dX12_shake_49 : decode cX12_shake 49 = .ok (.istore 5, 2) := by decide +kernel
theorem dX12_shake_51 : decode cX12_shake 51 = .ok (.iload 5, 2) := by decide +kernel
theorem dX12_shake_53 : decode cX12_shake 53 = .ok (.iload_n 1, 1) := by decide +kernel
theorem dX12_shake_54 : decode cX12_shake 54 = .ok (.if_icmp .ge 104, 3) := by decide +kernel
theorem dX12_shake_57 : decode cX12_shake 57 = .ok (.aload_n 0, 1) := by decide +kernel
theorem dX12_shake_58 : decode cX12_shake 58 = .ok (.invokevirtual 238, 3) := by decide +kernel
theorem dX12_shake_61 : decode cX12_shake 61 = .ok (.pop, 1) := by decide +kernel
theorem dX12_shake_62 : decode cX12_shake 62 = .ok (.aload_n 0, 1) := by decide +kernel
theorem dX12_shake_63 : decode cX12_shake 63 = .ok (.getfield 241, 3) := by decide +kernel
theorem dX12_shake_66 : decode cX12_shake 66 = .ok (.ifCond .le 86, 3) := by decide +kernel
theorem dX12_shake_69 : decode cX12_shake 69 = .ok (.aload_n 0, 1) := by decide +kernel
theorem dX12_shake_70 : decode cX12_shake 70 = .ok (.aload_n 0, 1) := by decide +kernel
theorem dX12_shake_71 : decode cX12_shake 71 = .ok (.getfield 241, 3) := by decide +kernel
theorem dX12_shake_74 : decode cX12_shake 74 = .ok (.invokevirtual 409, 3) := by decide +kernel
theorem dX12_shake_77 : decode cX12_shake 77 = .ok (.istore 6, 2) := by decide +kernel
theorem dX12_shake_79 : decode cX12_shake 79 = .ok (.aload_n 0, 1) := by decide +kernel
theorem dX12_shake_80 : decode cX12_shake 80 = .ok (.iconst 2, 1) := by decide +kernel
theorem dX12_shake_81 : decode cX12_shake 81 = .ok (.invokevirtual 409, 3) := by decide +kernel
theorem dX12_shake_84 : decode cX12_shake 84 = .ok (.iconst 1, 1) := by decide +kernel
theorem dX12_shake_85 : decode cX12_shake 85 = .ok (.if_icmp .ne 7, 3) := by decide +kernel
theorem dX12_shake_88 : decode cX12_shake 88 = .ok (.iconst 1, 1) := by decide +kernel
theorem dX12_shake_89 : decode cX12_shake 89 = .ok (.goto 4, 3) := by decide +kernel
theorem dX12_shake_92 : decode cX12_shake 92 = .ok (.iconst 0, 1) := by decide +kernel
theorem dX12_shake_93 : decode cX12_shake 93 = .ok (.istore 7, 2) := by decide +kernel
theorem dX12_shake_95 : decode cX12_shake 95 = .ok (.aload_n 0, 1) := by decide +kernel
theorem dX12_shake_96 : decode cX12_shake 96 = .ok (.iload 6, 2) := by decide +kernel
theorem dX12_shake_98 : decode cX12_shake 98 = .ok (.invokevirtual 269, 3) := by decide +kernel
theorem dX12_shake_101 : decode cX12_shake 101 = .ok (.iconst (-1), 1) := by decide +kernel
theorem dX12_shake_102 : decode cX12_shake 102 = .ok (.if_icmp .eq 50, 3) := by decide +kernel
theorem dX12_shake_105 : decode cX12_shake 105 = .ok (.aload_n 0, 1) := by decide +kernel
theorem dX12_shake_106 : decode cX12_shake 106 = .ok (.aload_n 0, 1) := by decide +kernel
theorem dX12_shake_107 : decode cX12_shake 107 = .ok (.getfield 34, 3) := by decide +kernel
theorem dX12_shake_110 : decode cX12_shake 110 = .ok (.iload 6, 2) := by decide +kernel
theorem dX12_shake_112 : decode cX12_shake 112 = .ok (.iaload, 1) := by decide +kernel
theorem dX12_shake_113 : decode cX12_shake 113 = .ok (.aload_n 0, 1) := by decide +kernel
theorem dX12_shake_114 : decode cX12_shake 114 = .ok (.getfield 37, 3) := by decide +kernel
theorem dX12_shake_117 : decode cX12_shake 117 = .ok (.iload 6, 2) := by decide +kernel
theorem dX12_shake_119 : decode cX12_shake 119 = .ok (.iaload, 1) := by decide +kernel
theorem dX12_shake_120 : decode cX12_shake 120 = .ok (.aload_n 0, 1) := by decide +kernel
theorem dX12_shake_121 : decode cX12_shake 121 = .ok (.iload 6, 2) := by decide +kernel
theorem dX12_shake_123 : decode cX12_shake 123 = .ok (.invokevirtual 269, 3) := by decide +kernel
theorem dX12_shake_126 : decode cX12_shake 126 = .ok (.iload 7, 2) := by decide +kernel
theorem dX12_shake_128 : decode cX12_shake 128 = .ok (.invokestatic 372, 3) := by decide +kernel
theorem dX12_shake_131 : decode cX12_shake 131 = .ok (.aload_n 0, 1) := by decide +kernel
theorem dX12_shake_132 : decode cX12_shake 132 = .ok (.getfield 40, 3) := by decide +kernel
theorem dX12_shake_135 : decode cX12_shake 135 = .ok (.iload 6, 2) := by decide +kernel
theorem dX12_shake_137 : decode cX12_shake 137 = .ok (.iaload, 1) := by decide +kernel
theorem dX12_shake_138 : decode cX12_shake 138 = .ok (.aload_n 0, 1) := by decide +kernel
theorem dX12_shake_139 : decode cX12_shake 139 = .ok (.getfield 43, 3) := by decide +kernel
theorem dX12_shake_142 : decode cX12_shake 142 = .ok (.iload 6, 2) := by decide +kernel
theorem dX12_shake_144 : decode cX12_shake 144 = .ok (.iaload, 1) := by decide +kernel
theorem dX12_shake_145 : decode cX12_shake 145 = .ok (.invokevirtual 367, 3) := by decide +kernel
theorem dX12_shake_148 : decode cX12_shake 148 = .ok (.pop, 1) := by decide +kernel
theorem dX12_shake_149 : decode cX12_shake 149 = .ok (.iinc 4 1, 3) := by decide +kernel
theorem dX12_shake_152 : decode cX12_shake 152 = .ok (.iinc 5 1, 3) := by decide +kernel
theorem dX12_shake_155 : decode cX12_shake 155 = .ok (.goto (-104), 3) := by decide +kernel
theorem dX12_shake_158 : decode cX12_shake 158 = .ok (.iload 4, 2) := by decide +kernel
theorem dX12_shake_160 : decode cX12_shake 160 = .ok (.ireturn, 1) := by decide +kernel
theorem dX12_shift_0 : decode cX12_shift 0 = .ok (.aload_n 0, 1) := by decide +kernel
theorem dX12_shift_1 : decode cX12_shift 1 = .ok (.iconst 0, 1) := by decide +kernel
theorem dX12_shift_2 : decode cX12_shift 2 = .ok (.putfield 86, 3) := by decide +kernel
theorem dX12_shift_5 : decode cX12_shift 5 = .ok (.aload_n 0, 1) := by decide +kernel
theorem dX12_shift_6 : decode cX12_shift 6 = .ok (.invokevirtual 306, 3) := by decide +kernel
theorem dX12_shift_9 : decode cX12_shift 9 = .ok (.ifCond .ne 9, 3) := by decide +kernel
theorem dX12_shift_12 : decode cX12_shift 12 = .ok (.aload_n 0, 1) := by decide +kernel
theorem dX12_shift_13 : decode cX12_shift 13 = .ok (.iconst 0, 1) := by decide +kernel
theorem dX12_shift_14 : decode cX12_shift 14 = .ok (.invokevirtual 354, 3) := by decide +kernel
theorem dX12_shift_17 : decode cX12_shift 17 = .ok (.ireturn, 1) := by decide +kernel
theorem dX12_shift_18 : decode cX12_shift 18 = .ok (.aload_n 0, 1) := by decide +kernel
theorem dX12_shift_19 : decode cX12_shift 19 = .ok (.iload_n 1, 1) := by decide +kernel
theorem dX12_shift_20 : decode cX12_shift 20 = .ok (.iload_n 2, 1) := by decide +kernel
theorem dX12_shift_21 : decode cX12_shift 21 = .ok (.invokevirtual 215, 3) := by decide +kernel
theorem dX12_shift_24 : decode cX12_shift 24 = .ok (.ifCond .ne 9, 3) := by decide +kernel
theorem dX12_shift_27 : decode cX12_shift 27 = .ok (.aload_n 0, 1) := by decide +kernel
theorem dX12_shift_28 : decode cX12_shift 28 = .ok (.iconst 1, 1) := by decide +kernel
theorem dX12_shift_29 : decode cX12_shift 29 = .ok (.invokevirtual 354, 3) := by decide +kernel
theorem dX12_shift_32 : decode cX12_shift 32 = .ok (.ireturn, 1) := by decide +kernel
theorem dX12_shift_33 : decode cX12_shift 33 = .ok (.iload_n 3, 1) := by decide +kernel
theorem dX12_shift_34 : decode cX12_shift 34 = .ok (.i2l, 1) := by decide +kernel
theorem dX12_shift_35 : decode cX12_shift 35 = .ok (.ldc2_w 397, 3) := by decide +kernel
theorem dX12_shift_38 : decode cX12_shift 38 = .ok (.ldc2_w 399, 3) := by decide +kernel
theorem dX12_shift_41 : decode cX12_shift 41 = .ok (.invokestatic 97, 3) := by decide +kernel
theorem dX12_shift_44 : decode cX12_shift 44 = .ok (.ifCond .eq 27, 3) := by decide +kernel
theorem dX12_shift_47 : decode cX12_shift 47 = .ok (.iload 4, 2) := by decide +kernel
theorem dX12_shift_49 : decode cX12_shift 49 = .ok (.i2l, 1) := by decide +kernel
theorem dX12_shift_50 : decode cX12_shift 50 = .ok (.ldc2_w 397, 3) := by decide +kernel
theorem dX12_shift_53 : decode cX12_shift 53 = .ok (.ldc2_w 399, 3) := by decide +kernel
theorem dX12_shift_56 : decode cX12_shift 56 = .ok (.invokestatic 97, 3) := by decide +kernel
theorem dX12_shift_59 : decode cX12_shift 59 = .ok (.ifCond .eq 12, 3) := by decide +kernel
theorem dX12_shift_62 : decode cX12_shift 62 = .ok (.iload_n 3, 1) := by decide +kernel
theorem dX12_shift_63 : decode cX12_shift 63 = .ok (.ifCond .ne 14, 3) := by decide +kernel
theorem dX12_shift_66 : decode cX12_shift 66 = .ok (.iload 4, 2) := by decide +kernel
theorem dX12_shift_68 : decode cX12_shift 68 = .ok (.ifCond .ne 9, 3) := by decide +kernel
theorem dX12_shift_71 : decode cX12_shift 71 = .ok (.aload_n 0, 1) := by decide +kernel
theorem dX12_shift_72 : decode cX12_shift 72 = .ok (.iconst 2, 1) := by decide +kernel
theorem dX12_shift_73 : decode cX12_shift 73 = .ok (.invokevirtual 354, 3) := by decide +kernel
theorem dX12_shift_76 : decode cX12_shift 76 = .ok (.ireturn, 1) := by decide +kernel
theorem dX12_shift_77 : decode cX12_shift 77 = .ok (.aload_n 0, 1) := by decide +kernel
theorem dX12_shift_78 : decode cX12_shift 78 = .ok (.invokevirtual 364, 3) := by decide +kernel
theorem dX12_shift_81 : decode cX12_shift 81 = .ok (.aload_n 0, 1) := by decide +kernel
theorem dX12_shift_82 : decode cX12_shift 82 = .ok (.iload_n 1, 1) := by decide +kernel
theorem dX12_shift_83 : decode cX12_shift 83 = .ok (.iload_n 2, 1) := by decide +kernel
theorem dX12_shift_84 : decode cX12_shift 84 = .ok (.iconst 0, 1) := by decide +kernel
theorem dX12_shift_85 : decode cX12_shift 85 = .ok (.invokevirtual 296, 3) := by decide +kernel
theorem dX12_shift_88 : decode cX12_shift 88 = .ok (.ifCond .eq 15, 3) := by decide +kernel
theorem dX12_shift_91 : decode cX12_shift 91 = .ok (.aload_n 0, 1) := by decide +kernel
theorem dX12_shift_92 : decode cX12_shift 92 = .ok (.iload_n 1, 1) := by decide +kernel
theorem dX12_shift_93 : decode cX12_shift 93 = .ok (.iload_n 2, 1) := by decide +kernel
theorem dX12_shift_94 : decode cX12_shift 94 = .ok (.iconst 0, 1) := by decide +kernel
theorem dX12_shift_95 : decode cX12_shift 95 = .ok (.iload_n 3, 1) := by decide +kernel
theorem dX12_shift_96 : decode cX12_shift 96 = .ok (.ineg, 1) := by decide +kernel
theorem dX12_shift_97 : decode cX12_shift 97 = .ok (.iload 4, 2) := by decide +kernel
theorem dX12_shift_99 : decode cX12_shift 99 = .ok (.ineg, 1) := by decide +kernel
theorem dX12_shift_100 : decode cX12_shift 100 = .ok (.invokevirtual 225, 3) := by decide +kernel
theorem dX12_shift_103 : decode cX12_shift 103 = .ok (.aload_n 0, 1) := by decide +kernel
theorem dX12_shift_104 : decode cX12_shift 104 = .ok (.iload_n 1, 1) := by decide +kernel
theorem dX12_shift_105 : decode cX12_shift 105 = .ok (.iload_n 2, 1) := by decide +kernel
theorem dX12_shift_106 : decode cX12_shift 106 = .ok (.iconst 1, 1) := by decide +kernel
theorem dX12_shift_107 : decode cX12_shift 107 = .ok (.invokevirtual 296, 3) := by decide +kernel
theorem dX12_shift_110 : decode cX12_shift 110 = .ok (.ifCond .eq 15, 3) := by decide +kernel
theorem dX12_shift_113 : decode cX12_shift 113 = .ok (.aload_n 0, 1) := by decide +kernel
theorem dX12_shift_114 : decode cX12_shift 114 = .ok (.iload_n 1, 1) := by decide +kernel
theorem dX12_shift_115 : decode cX12_shift 115 = .ok (.iload_n 2, 1) := by decide +kernel
theorem dX12_shift_116 : decode cX12_shift 116 = .ok (.iconst 1, 1) := by decide +kernel
theorem dX12_shift_117 : decode cX12_shift 117 = .ok (.iload_n 3, 1) := by decide +kernel
theorem dX12_shift_118 : decode cX12_shift 118 = .ok (.ineg, 1) := by decide +kernel
theorem dX12_shift_119 : decode cX12_shift 119 = .ok (.iload 4, 2) := by decide +kernel
theorem dX12_shift_121 : decode cX12_shift 121 = .ok (.ineg, 1) := by decide +kernel
theorem dX12_shift_122 : decode cX12_shift 122 = .ok (.invokevirtual 225, 3) := by decide +kernel
theorem dX12_shift_125 : decode cX12_shift 125 = .ok (.iload_n 1, 1) := by decide +kernel
theorem dX12_shift_126 : decode cX12_shift 126 = .ok (.ifCond .le 15, 3) := by decide +kernel
theorem dX12_shift_129 : decode cX12_shift 129 = .ok (.aload_n 0, 1) := by decide +kernel
theorem dX12_shift_130 : decode cX12_shift 130 = .ok (.iload_n 1, 1) := by decide +kernel
theorem dX12_shift_131 : decode cX12_shift 131 = .ok (.iconst 1, 1) := by decide +kernel
theorem dX12_shift_132 : decode cX12_shift 132 = .ok (.isub, 1) := by decide +kernel
theorem dX12_shift_133 : decode cX12_shift 133 = .ok (.iload_n 2, 1) := by decide +kernel
theorem dX12_shift_134 : decode cX12_shift 134 = .ok (.iconst 0, 1) := by decide +kernel
theorem dX12_shift_135 : decode cX12_shift 135 = .ok (.iload_n 3, 1) := by decide +kernel
theorem dX12_shift_136 : decode cX12_shift 136 = .ok (.iload 4, 2) := by decide +kernel
theorem dX12_shift_138 : decode cX12_shift 138 = .ok (.invokevirtual 225, 3) := by decide +kernel
theorem dX12_shift_141 : decode cX12_shift 141 = .ok (.iload_n 2, 1) := by decide +kernel
theorem dX12_shift_142 : decode cX12_shift 142 = .ok (.ifCond .le 15, 3) := by decide +kernel
theorem dX12_shift_145 : decode cX12_shift 145 = .ok (.aload_n 0, 1) := by decide +kernel
theorem dX12_shift_146 : decode cX12_shift 146 = .ok (.iload_n 1, 1) := by decide +kernel
theorem dX12_shift_147 : decode cX12_shift 147 = .ok (.iload_n 2, 1) := by decide +kernel
theorem dX12_shift_148 : decode cX12_shift 148 = .ok (.iconst 1, 1) := by decide +kernel
theorem dX12_shift_149 : decode cX12_shift 149 = .ok (.isub, 1) := by decide +kernel
theorem dX12_shift_150 : decode cX12_shift 150 = .ok (.iconst 1, 1) := by decide +kernel
theorem dX12_shift_151 : decode cX12_shift 151 = .ok (.iload_n 3, 1) := by decide +kernel
theorem dX12_shift_152 : decode cX12_shift 152 = .ok (.iload 4, 2) := by decide +kernel
theorem dX12_shift_154 : decode cX12_shift 154 = .ok (.invokevirtual 225, 3) := by decide +kernel
theorem dX12_shift_157 : decode cX12_shift 157 = .ok (.aload_n 0, 1) := by decide +kernel
theorem dX12_shift_158 : decode cX12_shift 158 = .ok (.invokevirtual 311, 3) := by decide +kernel
theorem dX12_shift_161 : decode cX12_shift 161 = .ok (.ireturn, 1) := by decide +kernel
theorem dX12_status_0 : decode cX12_status 0 = .ok (.aload_n 0, 1) := by decide +kernel
theorem dX12_status_1 : decode cX12_status 1 = .ok (.iconst 0, 1) := by decide +kernel
theorem dX12_status_2 : decode cX12_status 2 = .ok (.putfield 86, 3) := by decide +kernel
theorem dX12_status_5 : decode cX12_status 5 = .ok (.iload_n 1, 1) := by decide +kernel
theorem dX12_status_6 : decode cX12_status 6 = .ok (.i2l, 1) := by decide +kernel
theorem dX12_status_7 : decode cX12_status 7 = .ok (.lconst 0, 1) := by decide +kernel
theorem dX12_status_8 : decode cX12_status 8 = .ok (.ldc2_w 291, 3) := by decide +kernel
theorem dX12_status_11 : decode cX12_status 11 = .ok (.invokestatic 97, 3) := by decide +kernel
theorem dX12_status_14 : decode cX12_status 14 = .ok (.ifCond .eq 12, 3) := by decide +kernel
theorem dX12_status_17 : decode cX12_status 17 = .ok (.aload_n 0, 1) := by decide +kernel
theorem dX12_status_18 : decode cX12_status 18 = .ok (.getfield 52, 3) := by decide +kernel
theorem dX12_status_21 : decode cX12_status 21 = .ok (.iload_n 1, 1) := by decide +kernel
theorem dX12_status_22 : decode cX12_status 22 = .ok (.iaload, 1) := by decide +kernel
theorem dX12_status_23 : decode cX12_status 23 = .ok (.goto 4, 3) := by decide +kernel
theorem dX12_status_26 : decode cX12_status 26 = .ok (.iconst (-1), 1) := by decide +kernel
theorem dX12_status_27 : decode cX12_status 27 = .ok (.ireturn, 1) := by decide +kernel
theorem dX12_stills_0 : decode cX12_stills 0 = .ok (.aload_n 0, 1) := by decide +kernel
theorem dX12_stills_1 : decode cX12_stills 1 = .ok (.iconst 0, 1) := by decide +kernel
theorem dX12_stills_2 : decode cX12_stills 2 = .ok (.putfield 86, 3) := by decide +kernel
theorem dX12_stills_5 : decode cX12_stills 5 = .ok (.aload_n 0, 1) := by decide +kernel
theorem dX12_stills_6 : decode cX12_stills 6 = .ok (.invokevirtual 306, 3) := by decide +kernel
theorem dX12_stills_9 : decode cX12_stills 9 = .ok (.ifCond .ne 5, 3) := by decide +kernel
theorem dX12_stills_12 : decode cX12_stills 12 = .ok (.iconst (-1), 1) := by decide +kernel
theorem dX12_stills_13 : decode cX12_stills 13 = .ok (.ireturn, 1) := by decide +kernel
theorem dX12_stills_14 : decode cX12_stills 14 = .ok (.aload_n 0, 1) := by decide +kernel
theorem dX12_stills_15 : decode cX12_stills 15 = .ok (.invokevirtual 467, 3) := by decide +kernel
theorem dX12_stills_18 : decode cX12_stills 18 = .ok (.istore_n 1, 1) := by decide +kernel
theorem dX12_stills_19 : decode cX12_stills 19 = .ok (.iload_n 1, 1) := by decide +kernel
theorem dX12_stills_20 : decode cX12_stills 20 = .ok (.bipush 99, 2) := by decide +kernel
theorem dX12_stills_22 : decode cX12_stills 22 = .ok (.if_icmp .le 7, 3) := by decide +kernel
theorem dX12_stills_25 : decode cX12_stills 25 = .ok (.iconst (-1), 1) := by decide +kernel
theorem dX12_stills_26 : decode cX12_stills 26 = .ok (.goto 4, 3) := by decide +kernel
theorem dX12_stills_29 : decode cX12_stills 29 = .ok (.iload_n 1, 1) := by decide +kernel
theorem dX12_stills_30 : decode cX12_stills 30 = .ok (.ireturn, 1) := by decide +kernel
theorem dX12_takesSign_0 : decode cX12_takesSign 0 = .ok (.aload_n 0, 1) := by decide +kernel
theorem dX12_takesSign_1 : decode cX12_takesSign 1 = .ok (.getfield 134, 3) := by decide +kernel
theorem dX12_takesSign_4 : decode cX12_takesSign 4 = .ok (.iconst (-1), 1) := by decide +kernel
theorem dX12_takesSign_5 : decode cX12_takesSign 5 = .ok (.if_icmp .ne 28, 3) := by decide +kernel
theorem dX12_takesSign_8 : decode cX12_takesSign 8 = .ok (.aload_n 0, 1) := by decide +kernel
theorem dX12_takesSign_9 : decode cX12_takesSign 9 = .ok (.getfield 111, 3) := by decide +kernel
theorem dX12_takesSign_12 : decode cX12_takesSign 12 = .ok (.iconst 3, 1) := by decide +kernel
theorem dX12_takesSign_13 : decode cX12_takesSign 13 = .ok (.if_icmp .ne 20, 3) := by decide +kernel
theorem dX12_takesSign_16 : decode cX12_takesSign 16 = .ok (.aload_n 0, 1) := by decide +kernel
theorem dX12_takesSign_17 : decode cX12_takesSign 17 = .ok (.getfield 9, 3) := by decide +kernel
theorem dX12_takesSign_20 : decode cX12_takesSign 20 = .ok (.aload_n 0, 1) := by decide +kernel
theorem dX12_takesSign_21 : decode cX12_takesSign 21 = .ok (.getfield 108, 3) := by decide +kernel
theorem dX12_takesSign_24 : decode cX12_takesSign 24 = .ok (.iaload, 1) := by decide +kernel
theorem dX12_takesSign_25 : decode cX12_takesSign 25 = .ok (.iload_n 1, 1) := by decide +kernel
theorem dX12_takesSign_26 : decode cX12_takesSign 26 = .ok (.if_icmp .ne 7, 3) := by decide +kernel
theorem dX12_takesSign_29 : decode cX12_takesSign 29 = .ok (.iconst 1, 1) := by decide +kernel
theorem dX12_takesSign_30 : decode cX12_takesSign 30 = .ok (.goto 4, 3) := by decide +kernel
theorem dX12_takesSign_33 : decode cX12_takesSign 33 = .ok (.iconst 0, 1) := by decide +kernel
theorem dX12_takesSign_34 : decode cX12_takesSign 34 = .ok (.istore_n 2, 1) := by decide +kernel
theorem dX12_takesSign_35 : decode cX12_takesSign 35 = .ok (.iload_n 2, 1) := by decide +kernel
theorem dX12_takesSign_36 : decode cX12_takesSign 36 = .ok (.ifCond .eq 7, 3) := by decide +kernel
theorem dX12_takesSign_39 : decode cX12_takesSign 39 = .ok (.aload_n 0, 1) := by decide +kernel
theorem dX12_takesSign_40 : decode cX12_takesSign 40 = .ok (.invokevirtual 147, 3) := by decide +kernel
theorem dX12_takesSign_43 : decode cX12_takesSign 43 = .ok (.iload_n 2, 1) := by decide +kernel
theorem dX12_takesSign_44 : decode cX12_takesSign 44 = .ok (.ireturn, 1) := by decide +kernel
theorem dX12_thrown_0 : decode cX12_thrown 0 = .ok (.aload_n 0, 1) := by decide +kernel
theorem dX12_thrown_1 : decode cX12_thrown 1 = .ok (.getfield 86, 3) := by decide +kernel
theorem dX12_thrown_4 : decode cX12_thrown 4 = .ok (.ireturn, 1) := by decide +kernel
theorem dX12_undo_0 : decode cX12_undo 0 = .ok (.aload_n 0, 1) := by decide +kernel
theorem dX12_undo_1 : decode cX12_undo 1 = .ok (.iconst 0, 1) := by decide +kernel
theorem dX12_undo_2 : decode cX12_undo 2 = .ok (.putfield 86, 3) := by decide +kernel
theorem dX12_undo_5 : decode cX12_undo 5 = .ok (.aload_n 0, 1) := by decide +kernel
theorem dX12_undo_6 : decode cX12_undo 6 = .ok (.getfield 229, 3) := by decide +kernel
theorem dX12_undo_9 : decode cX12_undo 9 = .ok (.ifCond .ne 5, 3) := by decide +kernel
theorem dX12_undo_12 : decode cX12_undo 12 = .ok (.iconst (-1), 1) := by decide +kernel
theorem dX12_undo_13 : decode cX12_undo 13 = .ok (.ireturn, 1) := by decide +kernel
theorem dX12_undo_14 : decode cX12_undo 14 = .ok (.aload_n 0, 1) := by decide +kernel
theorem dX12_undo_15 : decode cX12_undo 15 = .ok (.dup, 1) := by decide +kernel
theorem dX12_undo_16 : decode cX12_undo 16 = .ok (.getfield 229, 3) := by decide +kernel
theorem dX12_undo_19 : decode cX12_undo 19 = .ok (.iconst 1, 1) := by decide +kernel
theorem dX12_undo_20 : decode cX12_undo 20 = .ok (.isub, 1) := by decide +kernel
theorem dX12_undo_21 : decode cX12_undo 21 = .ok (.putfield 229, 3) := by decide +kernel
theorem dX12_undo_24 : decode cX12_undo 24 = .ok (.iconst 0, 1) := by decide +kernel
theorem dX12_undo_25 : decode cX12_undo 25 = .ok (.istore_n 1, 1) := by decide +kernel
theorem dX12_undo_26 : decode cX12_undo 26 = .ok (.iload_n 1, 1) := by decide +kernel
theorem dX12_undo_27 : decode cX12_undo 27 = .ok (.sipush 486, 3) := by decide +kernel
theorem dX12_undo_30 : decode cX12_undo 30 = .ok (.if_icmp .ge 30, 3) := by decide +kernel
theorem dX12_undo_33 : decode cX12_undo 33 = .ok (.aload_n 0, 1) := by decide +kernel
theorem dX12_undo_34 : decode cX12_undo 34 = .ok (.getfield 28, 3) := by decide +kernel
theorem dX12_undo_37 : decode cX12_undo 37 = .ok (.iload_n 1, 1) := by decide +kernel
theorem dX12_undo_38 : decode cX12_undo 38 = .ok (.aload_n 0, 1) := by decide +kernel
theorem dX12_undo_39 : decode cX12_undo 39 = .ok (.getfield 49, 3) := by decide +kernel
theorem dX12_undo_42 : decode cX12_undo 42 = .ok (.sipush 486, 3) := by decide +kernel
theorem dX12_undo_45 : decode cX12_undo 45 = .ok (.aload_n 0, 1) := by decide +kernel
theorem dX12_undo_46 : decode cX12_undo 46 = .ok (.getfield 229, 3) := by decide +kernel
theorem dX12_undo_49 : decode cX12_undo 49 = .ok (.imul, 1) := by decide +kernel
theorem dX12_undo_50 : decode cX12_undo 50 = .ok (.iload_n 1, 1) := by decide +kernel
theorem dX12_undo_51 : decode cX12_undo 51 = .ok (.iadd, 1) := by decide +kernel
theorem dX12_undo_52 : decode cX12_undo 52 = .ok (.iaload, 1) := by decide +kernel
theorem dX12_undo_53 : decode cX12_undo 53 = .ok (.iastore, 1) := by decide +kernel
theorem dX12_undo_54 : decode cX12_undo 54 = .ok (.iinc 1 1, 3) := by decide +kernel
theorem dX12_undo_57 : decode cX12_undo 57 = .ok (.goto (-31), 3) := by decide +kernel
theorem dX12_undo_60 : decode cX12_undo 60 = .ok (.aload_n 0, 1) := by decide +kernel
theorem dX12_undo_61 : decode cX12_undo 61 = .ok (.getfield 229, 3) := by decide +kernel
theorem dX12_undo_64 : decode cX12_undo 64 = .ok (.ireturn, 1) := by decide +kernel
theorem dX12_wall_0 : decode cX12_wall 0 = .ok (.aload_n 0, 1) := by decide +kernel
theorem dX12_wall_1 : decode cX12_wall 1 = .ok (.iconst 0, 1) := by decide +kernel
theorem dX12_wall_2 : decode cX12_wall 2 = .ok (.putfield 86, 3) := by decide +kernel
theorem dX12_wall_5 : decode cX12_wall 5 = .ok (.aload_n 0, 1) := by decide +kernel
theorem dX12_wall_6 : decode cX12_wall 6 = .ok (.invokevirtual 306, 3) := by decide +kernel
theorem dX12_wall_9 : decode cX12_wall 9 = .ok (.ifCond .eq 31, 3) := by decide +kernel
theorem dX12_wall_12 : decode cX12_wall 12 = .ok (.iload_n 1, 1) := by decide +kernel
theorem dX12_wall_13 : decode cX12_wall 13 = .ok (.i2l, 1) := by decide +kernel
theorem dX12_wall_14 : decode cX12_wall 14 = .ok (.lconst 0, 1) := by decide +kernel
theorem dX12_wall_15 : decode cX12_wall 15 = .ok (.aload_n 0, 1) := by decide +kernel
theorem dX12_wall_16 : decode cX12_wall 16 = .ok (.invokevirtual 321, 3) := by decide +kernel
theorem dX12_wall_19 : decode cX12_wall 19 = .ok (.iconst 1, 1) := by decide +kernel
theorem dX12_wall_20 : decode cX12_wall 20 = .ok (.isub, 1) := by decide +kernel
theorem dX12_wall_21 : decode cX12_wall 21 = .ok (.i2l, 1) := by decide +kernel
theorem dX12_wall_22 : decode cX12_wall 22 = .ok (.invokestatic 97, 3) := by decide +kernel
theorem dX12_wall_25 : decode cX12_wall 25 = .ok (.ifCond .eq 15, 3) := by decide +kernel
theorem dX12_wall_28 : decode cX12_wall 28 = .ok (.iload_n 2, 1) := by decide +kernel
theorem dX12_wall_29 : decode cX12_wall 29 = .ok (.i2l, 1) := by decide +kernel
theorem dX12_wall_30 : decode cX12_wall 30 = .ok (.lconst 0, 1) := by decide +kernel
theorem dX12_wall_31 : decode cX12_wall 31 = .ok (.ldc2_w 352, 3) := by decide +kernel
theorem dX12_wall_34 : decode cX12_wall 34 = .ok (.invokestatic 97, 3) := by decide +kernel
theorem dX12_wall_37 : decode cX12_wall 37 = .ok (.ifCond .ne 5, 3) := by decide +kernel
theorem dX12_wall_40 : decode cX12_wall 40 = .ok (.iconst (-1), 1) := by decide +kernel
theorem dX12_wall_41 : decode cX12_wall 41 = .ok (.ireturn, 1) := by decide +kernel
theorem dX12_wall_42 : decode cX12_wall 42 = .ok (.aload_n 0, 1) := by decide +kernel
theorem dX12_wall_43 : decode cX12_wall 43 = .ok (.getfield 68, 3) := by decide +kernel
theorem dX12_wall_46 : decode cX12_wall 46 = .ok (.iload_n 1, 1) := by decide +kernel
theorem dX12_wall_47 : decode cX12_wall 47 = .ok (.iaload, 1) := by decide +kernel
theorem dX12_wall_48 : decode cX12_wall 48 = .ok (.istore_n 3, 1) := by decide +kernel
theorem dX12_wall_49 : decode cX12_wall 49 = .ok (.iload_n 2, 1) := by decide +kernel
theorem dX12_wall_50 : decode cX12_wall 50 = .ok (.tableswitch 54 0 3 #[30, 36, 43, 50], 30) := by decide +kernel
theorem dX12_wall_80 : decode cX12_wall 80 = .ok (.aload_n 0, 1) := by decide +kernel
theorem dX12_wall_81 : decode cX12_wall 81 = .ok (.iload_n 3, 1) := by decide +kernel
theorem dX12_wall_82 : decode cX12_wall 82 = .ok (.invokevirtual 434, 3) := by decide +kernel
theorem dX12_wall_85 : decode cX12_wall 85 = .ok (.ireturn, 1) := by decide +kernel
theorem dX12_wall_86 : decode cX12_wall 86 = .ok (.iload_n 3, 1) := by decide +kernel
theorem dX12_wall_87 : decode cX12_wall 87 = .ok (.iconst 2, 1) := by decide +kernel
theorem dX12_wall_88 : decode cX12_wall 88 = .ok (.idiv, 1) := by decide +kernel
theorem dX12_wall_89 : decode cX12_wall 89 = .ok (.bipush 9, 2) := by decide +kernel
theorem dX12_wall_91 : decode cX12_wall 91 = .ok (.irem, 1) := by decide +kernel
theorem dX12_wall_92 : decode cX12_wall 92 = .ok (.ireturn, 1) := by decide +kernel
theorem dX12_wall_93 : decode cX12_wall 93 = .ok (.iload_n 3, 1) := by decide +kernel
theorem dX12_wall_94 : decode cX12_wall 94 = .ok (.iconst 2, 1) := by decide +kernel
theorem dX12_wall_95 : decode cX12_wall 95 = .ok (.idiv, 1) := by decide +kernel
theorem dX12_wall_96 : decode cX12_wall 96 = .ok (.bipush 9, 2) := by decide +kernel
theorem dX12_wall_98 : decode cX12_wall 98 = .ok (.idiv, 1) := by decide +kernel
theorem dX12_wall_99 : decode cX12_wall 99 = .ok (.ireturn, 1) := by decide +kernel
theorem dX12_wall_100 : decode cX12_wall 100 = .ok (.iload_n 3, 1) := by decide +kernel
theorem dX12_wall_101 : decode cX12_wall 101 = .ok (.iconst 2, 1) := by decide +kernel
theorem dX12_wall_102 : decode cX12_wall 102 = .ok (.irem, 1) := by decide +kernel
theorem dX12_wall_103 : decode cX12_wall 103 = .ok (.ireturn, 1) := by decide +kernel
theorem dX12_wall_104 : decode cX12_wall 104 = .ok (.aload_n 0, 1) := by decide +kernel
theorem dX12_wall_105 : decode cX12_wall 105 = .ok (.iload_n 3, 1) := by decide +kernel
theorem dX12_wall_106 : decode cX12_wall 106 = .ok (.invokevirtual 437, 3) := by decide +kernel
theorem dX12_wall_109 : decode cX12_wall 109 = .ok (.ireturn, 1) := by decide +kernel
