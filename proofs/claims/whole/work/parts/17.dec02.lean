theorem dX11_path_165 : decode cX11_path 165 = .ok (.istore_n 3, 1) := by decide +kernel
theorem dX11_path_166 : decode cX11_path 166 = .ok (.iload 4, 2) := by decide +kernel
theorem dX11_path_168 : decode cX11_path 168 = .ok (.getstatic 237, 3) := by decide +kernel
theorem dX11_path_171 : decode cX11_path 171 = .ok (.iload 8, 2) := by decide +kernel
theorem dX11_path_173 : decode cX11_path 173 = .ok (.iaload, 1) := by decide +kernel
theorem dX11_path_174 : decode cX11_path 174 = .ok (.iadd, 1) := by decide +kernel
theorem dX11_path_175 : decode cX11_path 175 = .ok (.istore 4, 2) := by decide +kernel
theorem dX11_path_177 : decode cX11_path 177 = .ok (.iinc 7 1, 3) := by decide +kernel
theorem dX11_path_180 : decode cX11_path 180 = .ok (.goto (-149), 3) := by decide +kernel
theorem dX11_path_183 : decode cX11_path 183 = .ok (.aload_n 0, 1) := by decide +kernel
theorem dX11_path_184 : decode cX11_path 184 = .ok (.getfield 60, 3) := by decide +kernel
theorem dX11_path_187 : decode cX11_path 187 = .ok (.iconst 0, 1) := by decide +kernel
theorem dX11_path_188 : decode cX11_path 188 = .ok (.iload 5, 2) := by decide +kernel
theorem dX11_path_190 : decode cX11_path 190 = .ok (.iastore, 1) := by decide +kernel
theorem dX11_path_191 : decode cX11_path 191 = .ok (.aload_n 0, 1) := by decide +kernel
theorem dX11_path_192 : decode cX11_path 192 = .ok (.getfield 60, 3) := by decide +kernel
theorem dX11_path_195 : decode cX11_path 195 = .ok (.iconst 1, 1) := by decide +kernel
theorem dX11_path_196 : decode cX11_path 196 = .ok (.iload 6, 2) := by decide +kernel
theorem dX11_path_198 : decode cX11_path 198 = .ok (.iastore, 1) := by decide +kernel
theorem dX11_path_199 : decode cX11_path 199 = .ok (.aload_n 0, 1) := by decide +kernel
theorem dX11_path_200 : decode cX11_path 200 = .ok (.getfield 60, 3) := by decide +kernel
theorem dX11_path_203 : decode cX11_path 203 = .ok (.iconst 2, 1) := by decide +kernel
theorem dX11_path_204 : decode cX11_path 204 = .ok (.aload_n 0, 1) := by decide +kernel
theorem dX11_path_205 : decode cX11_path 205 = .ok (.getfield 10, 3) := by decide +kernel
theorem dX11_path_208 : decode cX11_path 208 = .ok (.getfield 91, 3) := by decide +kernel
theorem dX11_path_211 : decode cX11_path 211 = .ok (.iastore, 1) := by decide +kernel
theorem dX11_path_212 : decode cX11_path 212 = .ok (.aload_n 0, 1) := by decide +kernel
theorem dX11_path_213 : decode cX11_path 213 = .ok (.getfield 60, 3) := by decide +kernel
theorem dX11_path_216 : decode cX11_path 216 = .ok (.iconst 3, 1) := by decide +kernel
theorem dX11_path_217 : decode cX11_path 217 = .ok (.iload_n 3, 1) := by decide +kernel
theorem dX11_path_218 : decode cX11_path 218 = .ok (.iastore, 1) := by decide +kernel
theorem dX11_path_219 : decode cX11_path 219 = .ok (.aload_n 0, 1) := by decide +kernel
theorem dX11_path_220 : decode cX11_path 220 = .ok (.getfield 60, 3) := by decide +kernel
theorem dX11_path_223 : decode cX11_path 223 = .ok (.iconst 4, 1) := by decide +kernel
theorem dX11_path_224 : decode cX11_path 224 = .ok (.iload 4, 2) := by decide +kernel
theorem dX11_path_226 : decode cX11_path 226 = .ok (.iastore, 1) := by decide +kernel
theorem dX11_path_227 : decode cX11_path 227 = .ok (.aload_n 0, 1) := by decide +kernel
theorem dX11_path_228 : decode cX11_path 228 = .ok (.iconst 1, 1) := by decide +kernel
theorem dX11_path_229 : decode cX11_path 229 = .ok (.putfield 124, 3) := by decide +kernel
theorem dX11_path_232 : decode cX11_path 232 = .ok (.aload_n 0, 1) := by decide +kernel
theorem dX11_path_233 : decode cX11_path 233 = .ok (.getfield 10, 3) := by decide +kernel
theorem dX11_path_236 : decode cX11_path 236 = .ok (.iconst 0, 1) := by decide +kernel
theorem dX11_path_237 : decode cX11_path 237 = .ok (.putfield 91, 3) := by decide +kernel
theorem dX11_path_240 : decode cX11_path 240 = .ok (.iload_n 3, 1) := by decide +kernel
theorem dX11_path_241 : decode cX11_path 241 = .ok (.iload_n 1, 1) := by decide +kernel
theorem dX11_path_242 : decode cX11_path 242 = .ok (.if_icmp .ne 13, 3) := by decide +kernel
theorem dX11_path_245 : decode cX11_path 245 = .ok (.iload 4, 2) := by decide +kernel
theorem dX11_path_247 : decode cX11_path 247 = .ok (.iload_n 2, 1) := by decide +kernel
theorem dX11_path_248 : decode cX11_path 248 = .ok (.if_icmp .ne 7, 3) := by decide +kernel
theorem dX11_path_251 : decode cX11_path 251 = .ok (.iconst 1, 1) := by decide +kernel
theorem dX11_path_252 : decode cX11_path 252 = .ok (.goto 4, 3) := by decide +kernel
theorem dX11_path_255 : decode cX11_path 255 = .ok (.iconst 0, 1) := by decide +kernel
theorem dX11_path_256 : decode cX11_path 256 = .ok (.ireturn, 1) := by decide +kernel
theorem dX11_rests_0 : decode cX11_rests 0 = .ok (.aload_n 0, 1) := by decide +kernel
theorem dX11_rests_1 : decode cX11_rests 1 = .ok (.invokevirtual 136, 3) := by decide +kernel
theorem dX11_rests_4 : decode cX11_rests 4 = .ok (.ifCond .eq 5, 3) := by decide +kernel
theorem dX11_rests_7 : decode cX11_rests 7 = .ok (.iconst (-1), 1) := by decide +kernel
theorem dX11_rests_8 : decode cX11_rests 8 = .ok (.ireturn, 1) := by decide +kernel
theorem dX11_rests_9 : decode cX11_rests 9 = .ok (.aload_n 0, 1) := by decide +kernel
theorem dX11_rests_10 : decode cX11_rests 10 = .ok (.getfield 32, 3) := by decide +kernel
theorem dX11_rests_13 : decode cX11_rests 13 = .ok (.aload_n 0, 1) := by decide +kernel
theorem dX11_rests_14 : decode cX11_rests 14 = .ok (.getfield 28, 3) := by decide +kernel
theorem dX11_rests_17 : decode cX11_rests 17 = .ok (.invokevirtual 325, 3) := by decide +kernel
theorem dX11_rests_20 : decode cX11_rests 20 = .ok (.iconst 0, 1) := by decide +kernel
theorem dX11_rests_21 : decode cX11_rests 21 = .ok (.istore_n 1, 1) := by decide +kernel
theorem dX11_rests_22 : decode cX11_rests 22 = .ok (.iload_n 1, 1) := by decide +kernel
theorem dX11_rests_23 : decode cX11_rests 23 = .ok (.bipush 40, 2) := by decide +kernel
theorem dX11_rests_25 : decode cX11_rests 25 = .ok (.if_icmp .gt 45, 3) := by decide +kernel
theorem dX11_rests_28 : decode cX11_rests 28 = .ok (.aload_n 0, 1) := by decide +kernel
theorem dX11_rests_29 : decode cX11_rests 29 = .ok (.getfield 32, 3) := by decide +kernel
theorem dX11_rests_32 : decode cX11_rests 32 = .ok (.getfield 127, 3) := by decide +kernel
theorem dX11_rests_35 : decode cX11_rests 35 = .ok (.aload_n 0, 1) := by decide +kernel
theorem dX11_rests_36 : decode cX11_rests 36 = .ok (.getfield 35, 3) := by decide +kernel
theorem dX11_rests_39 : decode cX11_rests 39 = .ok (.invokevirtual 329, 3) := by decide +kernel
theorem dX11_rests_42 : decode cX11_rests 42 = .ok (.aload_n 0, 1) := by decide +kernel
theorem dX11_rests_43 : decode cX11_rests 43 = .ok (.getfield 35, 3) := by decide +kernel
theorem dX11_rests_46 : decode cX11_rests 46 = .ok (.iconst 2, 1) := by decide +kernel
theorem dX11_rests_47 : decode cX11_rests 47 = .ok (.iaload, 1) := by decide +kernel
theorem dX11_rests_48 : decode cX11_rests 48 = .ok (.if_icmp .gt 5, 3) := by decide +kernel
theorem dX11_rests_51 : decode cX11_rests 51 = .ok (.iload_n 1, 1) := by decide +kernel
theorem dX11_rests_52 : decode cX11_rests 52 = .ok (.ireturn, 1) := by decide +kernel
theorem dX11_rests_53 : decode cX11_rests 53 = .ok (.aload_n 0, 1) := by decide +kernel
theorem dX11_rests_54 : decode cX11_rests 54 = .ok (.getfield 32, 3) := by decide +kernel
theorem dX11_rests_57 : decode cX11_rests 57 = .ok (.aload_n 0, 1) := by decide +kernel
theorem dX11_rests_58 : decode cX11_rests 58 = .ok (.getfield 35, 3) := by decide +kernel
theorem dX11_rests_61 : decode cX11_rests 61 = .ok (.invokevirtual 264, 3) := by decide +kernel
theorem dX11_rests_64 : decode cX11_rests 64 = .ok (.iinc 1 1, 3) := by decide +kernel
theorem dX11_rests_67 : decode cX11_rests 67 = .ok (.goto (-45), 3) := by decide +kernel
theorem dX11_rests_70 : decode cX11_rests 70 = .ok (.iconst (-1), 1) := by decide +kernel
theorem dX11_rests_71 : decode cX11_rests 71 = .ok (.ireturn, 1) := by decide +kernel
theorem dX7_sumRoundAll_0 : decode cX7_sumRoundAll 0 = .ok (.aload_n 0, 1) := by decide +kernel
theorem dX7_sumRoundAll_1 : decode cX7_sumRoundAll 1 = .ok (.iconst 0, 1) := by decide +kernel
theorem dX7_sumRoundAll_2 : decode cX7_sumRoundAll 2 = .ok (.iconst 0, 1) := by decide +kernel
theorem dX7_sumRoundAll_3 : decode cX7_sumRoundAll 3 = .ok (.aload_n 0, 1) := by decide +kernel
theorem dX7_sumRoundAll_4 : decode cX7_sumRoundAll 4 = .ok (.getfield 15, 3) := by decide +kernel
theorem dX7_sumRoundAll_7 : decode cX7_sumRoundAll 7 = .ok (.iconst 1, 1) := by decide +kernel
theorem dX7_sumRoundAll_8 : decode cX7_sumRoundAll 8 = .ok (.isub, 1) := by decide +kernel
theorem dX7_sumRoundAll_9 : decode cX7_sumRoundAll 9 = .ok (.aload_n 0, 1) := by decide +kernel
theorem dX7_sumRoundAll_10 : decode cX7_sumRoundAll 10 = .ok (.getfield 19, 3) := by decide +kernel
theorem dX7_sumRoundAll_13 : decode cX7_sumRoundAll 13 = .ok (.iconst 1, 1) := by decide +kernel
theorem dX7_sumRoundAll_14 : decode cX7_sumRoundAll 14 = .ok (.isub, 1) := by decide +kernel
theorem dX7_sumRoundAll_15 : decode cX7_sumRoundAll 15 = .ok (.iload_n 1, 1) := by decide +kernel
theorem dX7_sumRoundAll_16 : decode cX7_sumRoundAll 16 = .ok (.invokevirtual 47, 3) := by decide +kernel
theorem dX7_sumRoundAll_19 : decode cX7_sumRoundAll 19 = .ok (.ireturn, 1) := by decide +kernel
theorem dX10_size_0 : decode cX10_size 0 = .ok (.iconst 0, 1) := by decide +kernel
theorem dX10_size_1 : decode cX10_size 1 = .ok (.istore_n 1, 1) := by decide +kernel
theorem dX10_size_2 : decode cX10_size 2 = .ok (.iconst 0, 1) := by decide +kernel
theorem dX10_size_3 : decode cX10_size 3 = .ok (.istore_n 2, 1) := by decide +kernel
theorem dX10_size_4 : decode cX10_size 4 = .ok (.iload_n 2, 1) := by decide +kernel
theorem dX10_size_5 : decode cX10_size 5 = .ok (.sipush 162, 3) := by decide +kernel
theorem dX10_size_8 : decode cX10_size 8 = .ok (.if_icmp .ge 22, 3) := by decide +kernel
theorem dX10_size_11 : decode cX10_size 11 = .ok (.aload_n 0, 1) := by decide +kernel
theorem dX10_size_12 : decode cX10_size 12 = .ok (.getfield 11, 3) := by decide +kernel
theorem dX10_size_15 : decode cX10_size 15 = .ok (.iload_n 2, 1) := by decide +kernel
theorem dX10_size_16 : decode cX10_size 16 = .ok (.iaload, 1) := by decide +kernel
theorem dX10_size_17 : decode cX10_size 17 = .ok (.iload_n 2, 1) := by decide +kernel
theorem dX10_size_18 : decode cX10_size 18 = .ok (.if_icmp .ne 6, 3) := by decide +kernel
theorem dX10_size_21 : decode cX10_size 21 = .ok (.iinc 1 1, 3) := by decide +kernel
theorem dX10_size_24 : decode cX10_size 24 = .ok (.iinc 2 1, 3) := by decide +kernel
theorem dX10_size_27 : decode cX10_size 27 = .ok (.goto (-23), 3) := by decide +kernel
theorem dX10_size_30 : decode cX10_size 30 = .ok (.iload_n 1, 1) := by decide +kernel
theorem dX10_size_31 : decode cX10_size 31 = .ok (.ireturn, 1) := by decide +kernel
theorem dX0_withoutWay_0 : decode cX0_withoutWay 0 = .ok (.iconst 0, 1) := by decide +kernel
theorem dX0_withoutWay_1 : decode cX0_withoutWay 1 = .ok (.istore_n 1, 1) := by decide +kernel
theorem dX0_withoutWay_2 : decode cX0_withoutWay 2 = .ok (.iconst 0, 1) := by decide +kernel
theorem dX0_withoutWay_3 : decode cX0_withoutWay 3 = .ok (.istore_n 2, 1) := by decide +kernel
theorem dX0_withoutWay_4 : decode cX0_withoutWay 4 = .ok (.iload_n 2, 1) := by decide +kernel
theorem dX0_withoutWay_5 : decode cX0_withoutWay 5 = .ok (.aload_n 0, 1) := by decide +kernel
theorem dX0_withoutWay_6 : decode cX0_withoutWay 6 = .ok (.getfield 18, 3) := by decide +kernel
theorem dX0_withoutWay_9 : decode cX0_withoutWay 9 = .ok (.if_icmp .ge 21, 3) := by decide +kernel
theorem dX0_withoutWay_12 : decode cX0_withoutWay 12 = .ok (.aload_n 0, 1) := by decide +kernel
theorem dX0_withoutWay_13 : decode cX0_withoutWay 13 = .ok (.iload_n 2, 1) := by decide +kernel
theorem dX0_withoutWay_14 : decode cX0_withoutWay 14 = .ok (.invokevirtual 48, 3) := by decide +kernel
theorem dX0_withoutWay_17 : decode cX0_withoutWay 17 = .ok (.iconst (-1), 1) := by decide +kernel
theorem dX0_withoutWay_18 : decode cX0_withoutWay 18 = .ok (.if_icmp .ne 6, 3) := by decide +kernel
theorem dX0_withoutWay_21 : decode cX0_withoutWay 21 = .ok (.iinc 1 1, 3) := by decide +kernel
theorem dX0_withoutWay_24 : decode cX0_withoutWay 24 = .ok (.iinc 2 1, 3) := by decide +kernel
theorem dX0_withoutWay_27 : decode cX0_withoutWay 27 = .ok (.goto (-23), 3) := by decide +kernel
theorem dX0_withoutWay_30 : decode cX0_withoutWay 30 = .ok (.iload_n 1, 1) := by decide +kernel
theorem dX0_withoutWay_31 : decode cX0_withoutWay 31 = .ok (.ireturn, 1) := by decide +kernel
theorem dX11_rule_0 : decode cX11_rule 0 = .ok (.aload_n 0, 1) := by decide +kernel
theorem dX11_rule_1 : decode cX11_rule 1 = .ok (.invokevirtual 136, 3) := by decide +kernel
theorem dX11_rule_4 : decode cX11_rule 4 = .ok (.ifCond .eq 6, 3) := by decide +kernel
theorem dX11_rule_7 : decode cX11_rule 7 = .ok (.ldc 140, 2) := by decide +kernel
theorem dX11_rule_9 : decode cX11_rule 9 = .ok (.ireturn, 1) := by decide +kernel
theorem dX11_rule_10 : decode cX11_rule 10 = .ok (.iload_n 1, 1) := by decide +kernel
theorem dX11_rule_11 : decode cX11_rule 11 = .ok (.tableswitch 189 0 13 #[69, 80, 91, 91, 91, 91, 100, 111, 122, 130, 130, 145, 156, 178], 69) := by decide +kernel
theorem dX11_rule_80 : decode cX11_rule 80 = .ok (.aload_n 0, 1) := by decide +kernel
theorem dX11_rule_81 : decode cX11_rule 81 = .ok (.getfield 28, 3) := by decide +kernel
theorem dX11_rule_84 : decode cX11_rule 84 = .ok (.getfield 141, 3) := by decide +kernel
theorem dX11_rule_87 : decode cX11_rule 87 = .ok (.getfield 145, 3) := by decide +kernel
theorem dX11_rule_90 : decode cX11_rule 90 = .ok (.ireturn, 1) := by decide +kernel
theorem dX11_rule_91 : decode cX11_rule 91 = .ok (.aload_n 0, 1) := by decide +kernel
theorem dX11_rule_92 : decode cX11_rule 92 = .ok (.getfield 28, 3) := by decide +kernel
theorem dX11_rule_95 : decode cX11_rule 95 = .ok (.getfield 141, 3) := by decide +kernel
theorem dX11_rule_98 : decode cX11_rule 98 = .ok (.getfield 150, 3) := by decide +kernel
theorem dX11_rule_101 : decode cX11_rule 101 = .ok (.ireturn, 1) := by decide +kernel
theorem dX11_rule_102 : decode cX11_rule 102 = .ok (.aload_n 0, 1) := by decide +kernel
theorem dX11_rule_103 : decode cX11_rule 103 = .ok (.getfield 35, 3) := by decide +kernel
theorem dX11_rule_106 : decode cX11_rule 106 = .ok (.iload_n 1, 1) := by decide +kernel
theorem dX11_rule_107 : decode cX11_rule 107 = .ok (.iconst 2, 1) := by decide +kernel
theorem dX11_rule_108 : decode cX11_rule 108 = .ok (.isub, 1) := by decide +kernel
theorem dX11_rule_109 : decode cX11_rule 109 = .ok (.iaload, 1) := by decide +kernel
theorem dX11_rule_110 : decode cX11_rule 110 = .ok (.ireturn, 1) := by decide +kernel
theorem dX11_rule_111 : decode cX11_rule 111 = .ok (.aload_n 0, 1) := by decide +kernel
theorem dX11_rule_112 : decode cX11_rule 112 = .ok (.getfield 28, 3) := by decide +kernel
theorem dX11_rule_115 : decode cX11_rule 115 = .ok (.getfield 127, 3) := by decide +kernel
theorem dX11_rule_118 : decode cX11_rule 118 = .ok (.getfield 131, 3) := by decide +kernel
theorem dX11_rule_121 : decode cX11_rule 121 = .ok (.ireturn, 1) := by decide +kernel
theorem dX11_rule_122 : decode cX11_rule 122 = .ok (.aload_n 0, 1) := by decide +kernel
theorem dX11_rule_123 : decode cX11_rule 123 = .ok (.getfield 28, 3) := by decide +kernel
theorem dX11_rule_126 : decode cX11_rule 126 = .ok (.getfield 141, 3) := by decide +kernel
theorem dX11_rule_129 : decode cX11_rule 129 = .ok (.invokevirtual 153, 3) := by decide +kernel
theorem dX11_rule_132 : decode cX11_rule 132 = .ok (.ireturn, 1) := by decide +kernel
theorem dX11_rule_133 : decode cX11_rule 133 = .ok (.aload_n 0, 1) := by decide +kernel
theorem dX11_rule_134 : decode cX11_rule 134 = .ok (.getfield 42, 3) := by decide +kernel
theorem dX11_rule_137 : decode cX11_rule 137 = .ok (.getfield 114, 3) := by decide +kernel
theorem dX11_rule_140 : decode cX11_rule 140 = .ok (.ireturn, 1) := by decide +kernel
theorem dX11_rule_141 : decode cX11_rule 141 = .ok (.aload_n 0, 1) := by decide +kernel
theorem dX11_rule_142 : decode cX11_rule 142 = .ok (.getfield 28, 3) := by decide +kernel
theorem dX11_rule_145 : decode cX11_rule 145 = .ok (.getfield 141, 3) := by decide +kernel
theorem dX11_rule_148 : decode cX11_rule 148 = .ok (.iload_n 1, 1) := by decide +kernel
theorem dX11_rule_149 : decode cX11_rule 149 = .ok (.bipush 9, 2) := by decide +kernel
theorem dX11_rule_151 : decode cX11_rule 151 = .ok (.isub, 1) := by decide +kernel
theorem dX11_rule_152 : decode cX11_rule 152 = .ok (.invokevirtual 156, 3) := by decide +kernel
theorem dX11_rule_155 : decode cX11_rule 155 = .ok (.ireturn, 1) := by decide +kernel
theorem dX11_rule_156 : decode cX11_rule 156 = .ok (.aload_n 0, 1) := by decide +kernel
theorem dX11_rule_157 : decode cX11_rule 157 = .ok (.getfield 28, 3) := by decide +kernel
theorem dX11_rule_160 : decode cX11_rule 160 = .ok (.getfield 127, 3) := by decide +kernel
theorem dX11_rule_163 : decode cX11_rule 163 = .ok (.invokevirtual 159, 3) := by decide +kernel
theorem dX11_rule_166 : decode cX11_rule 166 = .ok (.ireturn, 1) := by decide +kernel
theorem dX11_rule_167 : decode cX11_rule 167 = .ok (.aload_n 0, 1) := by decide +kernel
theorem dX11_rule_168 : decode cX11_rule 168 = .ok (.getfield 76, 3) := by decide +kernel
theorem dX11_rule_171 : decode cX11_rule 171 = .ok (.aload_n 0, 1) := by decide +kernel
theorem dX11_rule_172 : decode cX11_rule 172 = .ok (.getfield 28, 3) := by decide +kernel
theorem dX11_rule_175 : decode cX11_rule 175 = .ok (.getfield 141, 3) := by decide +kernel
theorem dX11_rule_178 : decode cX11_rule 178 = .ok (.invokevirtual 162, 3) := by decide +kernel
theorem dX11_rule_181 : decode cX11_rule 181 = .ok (.aload_n 0, 1) := by decide +kernel
theorem dX11_rule_182 : decode cX11_rule 182 = .ok (.getfield 76, 3) := by decide +kernel
theorem dX11_rule_185 : decode cX11_rule 185 = .ok (.invokevirtual 166, 3) := by decide +kernel
theorem dX11_rule_188 : decode cX11_rule 188 = .ok (.ireturn, 1) := by decide +kernel
theorem dX11_rule_189 : decode cX11_rule 189 = .ok (.aload_n 0, 1) := by decide +kernel
theorem dX11_rule_190 : decode cX11_rule 190 = .ok (.getfield 28, 3) := by decide +kernel
theorem dX11_rule_193 : decode cX11_rule 193 = .ok (.getfield 127, 3) := by decide +kernel
theorem dX11_rule_196 : decode cX11_rule 196 = .ok (.invokevirtual 168, 3) := by decide +kernel
theorem dX11_rule_199 : decode cX11_rule 199 = .ok (.ireturn, 1) := by decide +kernel
theorem dX11_rule_200 : decode cX11_rule 200 = .ok (.ldc 140, 2) := by decide +kernel
theorem dX11_rule_202 : decode cX11_rule 202 = .ok (.ireturn, 1) := by decide +kernel
theorem dX11_set_0 : decode cX11_set 0 = .ok (.aload_n 0, 1) := by decide +kernel
theorem dX11_set_1 : decode cX11_set 1 = .ok (.invokevirtual 136, 3) := by decide +kernel
theorem dX11_set_4 : decode cX11_set 4 = .ok (.ifCond .eq 12, 3) := by decide +kernel
theorem dX11_set_7 : decode cX11_set 7 = .ok (.aload_n 0, 1) := by decide +kernel
theorem dX11_set_8 : decode cX11_set 8 = .ok (.iconst 0, 1) := by decide +kernel
theorem dX11_set_9 : decode cX11_set 9 = .ok (.invokevirtual 243, 3) := by decide +kernel
theorem dX11_set_12 : decode cX11_set 12 = .ok (.pop, 1) := by decide +kernel
theorem dX11_set_13 : decode cX11_set 13 = .ok (.ldc 140, 2) := by decide +kernel
theorem dX11_set_15 : decode cX11_set 15 = .ok (.ireturn, 1) := by decide +kernel
theorem dX11_set_16 : decode cX11_set 16 = .ok (.iload_n 1, 1) := by decide +kernel
theorem dX11_set_17 : decode cX11_set 17 = .ok (.ifCond .lt 30, 3) := by decide +kernel
theorem dX11_set_20 : decode cX11_set 20 = .ok (.iload_n 1, 1) := by decide +kernel
theorem dX11_set_21 : decode cX11_set 21 = .ok (.aload_n 0, 1) := by decide +kernel
theorem dX11_set_22 : decode cX11_set 22 = .ok (.getfield 35, 3) := by decide +kernel
theorem dX11_set_25 : decode cX11_set 25 = .ok (.arraylength, 1) := by decide +kernel
theorem dX11_set_26 : decode cX11_set 26 = .ok (.if_icmp .ge 21, 3) := by decide +kernel
theorem dX11_set_29 : decode cX11_set 29 = .ok (.iload_n 2, 1) := by decide +kernel
theorem dX11_set_30 : decode cX11_set 30 = .ok (.getstatic 299, 3) := by decide +kernel
theorem dX11_set_33 : decode cX11_set 33 = .ok (.iload_n 1, 1) := by decide +kernel
theorem dX11_set_34 : decode cX11_set 34 = .ok (.iaload, 1) := by decide +kernel
theorem dX11_set_35 : decode cX11_set 35 = .ok (.if_icmp .lt 12, 3) := by decide +kernel
theorem dX11_set_38 : decode cX11_set 38 = .ok (.iload_n 2, 1) := by decide +kernel
theorem dX11_set_39 : decode cX11_set 39 = .ok (.getstatic 302, 3) := by decide +kernel
theorem dX11_set_42 : decode cX11_set 42 = .ok (.iload_n 1, 1) := by decide +kernel
theorem dX11_set_43 : decode cX11_set 43 = .ok (.iaload, 1) := by decide +kernel
theorem dX11_set_44 : decode cX11_set 44 = .ok (.if_icmp .le 12, 3) := by decide +kernel
theorem dX11_set_47 : decode cX11_set 47 = .ok (.aload_n 0, 1) := by decide +kernel
theorem dX11_set_48 : decode cX11_set 48 = .ok (.iconst 2, 1) := by decide +kernel
theorem dX11_set_49 : decode cX11_set 49 = .ok (.invokevirtual 243, 3) := by decide +kernel
theorem dX11_set_52 : decode cX11_set 52 = .ok (.pop, 1) := by decide +kernel
theorem dX11_set_53 : decode cX11_set 53 = .ok (.ldc 140, 2) := by decide +kernel
theorem dX11_set_55 : decode cX11_set 55 = .ok (.ireturn, 1) := by decide +kernel
theorem dX11_set_56 : decode cX11_set 56 = .ok (.aload_n 0, 1) := by decide +kernel
theorem dX11_set_57 : decode cX11_set 57 = .ok (.getfield 35, 3) := by decide +kernel
theorem dX11_set_60 : decode cX11_set 60 = .ok (.iload_n 1, 1) := by decide +kernel
theorem dX11_set_61 : decode cX11_set 61 = .ok (.iaload, 1) := by decide +kernel
theorem dX11_set_62 : decode cX11_set 62 = .ok (.istore_n 3, 1) := by decide +kernel
theorem dX11_set_63 : decode cX11_set 63 = .ok (.aload_n 0, 1) := by decide +kernel
theorem dX11_set_64 : decode cX11_set 64 = .ok (.getfield 35, 3) := by decide +kernel
theorem dX11_set_67 : decode cX11_set 67 = .ok (.iload_n 1, 1) := by decide +kernel
theorem dX11_set_68 : decode cX11_set 68 = .ok (.iload_n 2, 1) := by decide +kernel
theorem dX11_set_69 : decode cX11_set 69 = .ok (.iastore, 1) := by decide +kernel
theorem dX11_set_70 : decode cX11_set 70 = .ok (.iload_n 3, 1) := by decide +kernel
theorem dX11_set_71 : decode cX11_set 71 = .ok (.ireturn, 1) := by decide +kernel
theorem dX11_status_0 : decode cX11_status 0 = .ok (.iload_n 1, 1) := by decide +kernel
theorem dX11_status_1 : decode cX11_status 1 = .ok (.ifCond .lt 21, 3) := by decide +kernel
theorem dX11_status_4 : decode cX11_status 4 = .ok (.iload_n 1, 1) := by decide +kernel
theorem dX11_status_5 : decode cX11_status 5 = .ok (.aload_n 0, 1) := by decide +kernel
theorem dX11_status_6 : decode cX11_status 6 = .ok (.getfield 63, 3) := by decide +kernel
theorem dX11_status_9 : decode cX11_status 9 = .ok (.arraylength, 1) := by decide +kernel
theorem dX11_status_10 : decode cX11_status 10 = .ok (.if_icmp .ge 12, 3) := by decide +kernel
theorem dX11_status_13 : decode cX11_status 13 = .ok (.aload_n 0, 1) := by decide +kernel
theorem dX11_status_14 : decode cX11_status 14 = .ok (.getfield 63, 3) := by decide +kernel
theorem dX11_status_17 : decode cX11_status 17 = .ok (.iload_n 1, 1) := by decide +kernel
theorem dX11_status_18 : decode cX11_status 18 = .ok (.iaload, 1) := by decide +kernel
theorem dX11_status_19 : decode cX11_status 19 = .ok (.goto 4, 3) := by decide +kernel
theorem dX11_status_22 : decode cX11_status 22 = .ok (.iconst (-1), 1) := by decide +kernel
theorem dX11_status_23 : decode cX11_status 23 = .ok (.ireturn, 1) := by decide +kernel
theorem dX11_stills_0 : decode cX11_stills 0 = .ok (.aload_n 0, 1) := by decide +kernel
theorem dX11_stills_1 : decode cX11_stills 1 = .ok (.invokevirtual 136, 3) := by decide +kernel
theorem dX11_stills_4 : decode cX11_stills 4 = .ok (.ifCond .eq 5, 3) := by decide +kernel
theorem dX11_stills_7 : decode cX11_stills 7 = .ok (.iconst (-1), 1) := by decide +kernel
theorem dX11_stills_8 : decode cX11_stills 8 = .ok (.ireturn, 1) := by decide +kernel
theorem dX11_stills_9 : decode cX11_stills 9 = .ok (.aload_n 0, 1) := by decide +kernel
theorem dX11_stills_10 : decode cX11_stills 10 = .ok (.getfield 28, 3) := by decide +kernel
theorem dX11_stills_13 : decode cX11_stills 13 = .ok (.getfield 127, 3) := by decide +kernel
theorem dX11_stills_16 : decode cX11_stills 16 = .ok (.aload_n 0, 1) := by decide +kernel
theorem dX11_stills_17 : decode cX11_stills 17 = .ok (.getfield 35, 3) := by decide +kernel
theorem dX11_stills_20 : decode cX11_stills 20 = .ok (.invokevirtual 329, 3) := by decide +kernel
theorem dX11_stills_23 : decode cX11_stills 23 = .ok (.istore_n 1, 1) := by decide +kernel
theorem dX11_stills_24 : decode cX11_stills 24 = .ok (.iload_n 1, 1) := by decide +kernel
theorem dX11_stills_25 : decode cX11_stills 25 = .ok (.bipush 99, 2) := by decide +kernel
theorem dX11_stills_27 : decode cX11_stills 27 = .ok (.if_icmp .le 7, 3) := by decide +kernel
theorem dX11_stills_30 : decode cX11_stills 30 = .ok (.iconst (-1), 1) := by decide +kernel
theorem dX11_stills_31 : decode cX11_stills 31 = .ok (.goto 4, 3) := by decide +kernel
theorem dX11_stills_34 : decode cX11_stills 34 = .ok (.iload_n 1, 1) := by decide +kernel
theorem dX11_stills_35 : decode cX11_stills 35 = .ok (.ireturn, 1) := by decide +kernel
theorem dX10_firstLinkOf_0 : decode cX10_firstLinkOf 0 = .ok (.iload_n 1, 1) := by decide +kernel
theorem dX10_firstLinkOf_1 : decode cX10_firstLinkOf 1 = .ok (.istore_n 2, 1) := by decide +kernel
theorem dX10_firstLinkOf_2 : decode cX10_firstLinkOf 2 = .ok (.iconst 0, 1) := by decide +kernel
theorem dX10_firstLinkOf_3 : decode cX10_firstLinkOf 3 = .ok (.istore_n 3, 1) := by decide +kernel
theorem dX10_firstLinkOf_4 : decode cX10_firstLinkOf 4 = .ok (.iload_n 3, 1) := by decide +kernel
theorem dX10_firstLinkOf_5 : decode cX10_firstLinkOf 5 = .ok (.sipush 162, 3) := by decide +kernel
theorem dX10_firstLinkOf_8 : decode cX10_firstLinkOf 8 = .ok (.if_icmp .ge 32, 3) := by decide +kernel
theorem dX10_firstLinkOf_11 : decode cX10_firstLinkOf 11 = .ok (.iload_n 2, 1) := by decide +kernel
theorem dX10_firstLinkOf_12 : decode cX10_firstLinkOf 12 = .ok (.ifCond .lt 28, 3) := by decide +kernel
theorem dX10_firstLinkOf_15 : decode cX10_firstLinkOf 15 = .ok (.aload_n 0, 1) := by decide +kernel
theorem dX10_firstLinkOf_16 : decode cX10_firstLinkOf 16 = .ok (.getfield 11, 3) := by decide +kernel
theorem dX10_firstLinkOf_19 : decode cX10_firstLinkOf 19 = .ok (.iload_n 3, 1) := by decide +kernel
theorem dX10_firstLinkOf_20 : decode cX10_firstLinkOf 20 = .ok (.iaload, 1) := by decide +kernel
theorem dX10_firstLinkOf_21 : decode cX10_firstLinkOf 21 = .ok (.iload_n 3, 1) := by decide +kernel
theorem dX10_firstLinkOf_22 : decode cX10_firstLinkOf 22 = .ok (.if_icmp .ne 12, 3) := by decide +kernel
theorem dX10_firstLinkOf_25 : decode cX10_firstLinkOf 25 = .ok (.iload_n 2, 1) := by decide +kernel
theorem dX10_firstLinkOf_26 : decode cX10_firstLinkOf 26 = .ok (.ifCond .ne 5, 3) := by decide +kernel
theorem dX10_firstLinkOf_29 : decode cX10_firstLinkOf 29 = .ok (.iload_n 3, 1) := by decide +kernel
theorem dX10_firstLinkOf_30 : decode cX10_firstLinkOf 30 = .ok (.ireturn, 1) := by decide +kernel
theorem dX10_firstLinkOf_31 : decode cX10_firstLinkOf 31 = .ok (.iinc 2 (-1), 3) := by decide +kernel
theorem dX10_firstLinkOf_34 : decode cX10_firstLinkOf 34 = .ok (.iinc 3 1, 3) := by decide +kernel
theorem dX10_firstLinkOf_37 : decode cX10_firstLinkOf 37 = .ok (.goto (-33), 3) := by decide +kernel
theorem dX10_firstLinkOf_40 : decode cX10_firstLinkOf 40 = .ok (.iconst (-1), 1) := by decide +kernel
theorem dX10_firstLinkOf_41 : decode cX10_firstLinkOf 41 = .ok (.ireturn, 1) := by decide +kernel
theorem dX10_isBeside_0 : decode cX10_isBeside 0 = .ok (.iconst 0, 1) := by decide +kernel
theorem dX10_isBeside_1 : decode cX10_isBeside 1 = .ok (.istore 4, 2) := by decide +kernel
theorem dX10_isBeside_3 : decode cX10_isBeside 3 = .ok (.iload 4, 2) := by decide +kernel
theorem dX10_isBeside_5 : decode cX10_isBeside 5 = .ok (.iconst 4, 1) := by decide +kernel
theorem dX10_isBeside_6 : decode cX10_isBeside 6 = .ok (.if_icmp .ge 26, 3) := by decide +kernel
theorem dX10_isBeside_9 : decode cX10_isBeside 9 = .ok (.aload_n 0, 1) := by decide +kernel
theorem dX10_isBeside_10 : decode cX10_isBeside 10 = .ok (.iload_n 2, 1) := by decide +kernel
theorem dX10_isBeside_11 : decode cX10_isBeside 11 = .ok (.iload_n 3, 1) := by decide +kernel
theorem dX10_isBeside_12 : decode cX10_isBeside 12 = .ok (.iload 4, 2) := by decide +kernel
theorem dX10_isBeside_14 : decode cX10_isBeside 14 = .ok (.invokestatic 36, 3) := by decide +kernel
theorem dX10_isBeside_17 : decode cX10_isBeside 17 = .ok (.invokevirtual 39, 3) := by decide +kernel
theorem dX10_isBeside_20 : decode cX10_isBeside 20 = .ok (.iload_n 1, 1) := by decide +kernel
theorem dX10_isBeside_21 : decode cX10_isBeside 21 = .ok (.if_icmp .ne 5, 3) := by decide +kernel
theorem dX10_isBeside_24 : decode cX10_isBeside 24 = .ok (.iconst 1, 1) := by decide +kernel
theorem dX10_isBeside_25 : decode cX10_isBeside 25 = .ok (.ireturn, 1) := by decide +kernel
theorem dX10_isBeside_26 : decode cX10_isBeside 26 = .ok (.iinc 4 1, 3) := by decide +kernel
theorem dX10_isBeside_29 : decode cX10_isBeside 29 = .ok (.goto (-26), 3) := by decide +kernel
theorem dX10_isBeside_32 : decode cX10_isBeside 32 = .ok (.iconst 0, 1) := by decide +kernel
theorem dX10_isBeside_33 : decode cX10_isBeside 33 = .ok (.ireturn, 1) := by decide +kernel
theorem dX10_coresBeside_0 : decode cX10_coresBeside 0 = .ok (.iconst 0, 1) := by decide +kernel
theorem dX10_coresBeside_1 : decode cX10_coresBeside 1 = .ok (.istore_n 3, 1) := by decide +kernel
theorem dX10_coresBeside_2 : decode cX10_coresBeside 2 = .ok (.iconst 0, 1) := by decide +kernel
theorem dX10_coresBeside_3 : decode cX10_coresBeside 3 = .ok (.istore 4, 2) := by decide +kernel
theorem dX10_coresBeside_5 : decode cX10_coresBeside 5 = .ok (.iload 4, 2) := by decide +kernel
theorem dX10_coresBeside_7 : decode cX10_coresBeside 7 = .ok (.aload_n 2, 1) := by decide +kernel
theorem dX10_coresBeside_8 : decode cX10_coresBeside 8 = .ok (.getfield 55, 3) := by decide +kernel
theorem dX10_coresBeside_11 : decode cX10_coresBeside 11 = .ok (.if_icmp .ge 34, 3) := by decide +kernel
theorem dX10_coresBeside_14 : decode cX10_coresBeside 14 = .ok (.aload_n 0, 1) := by decide +kernel
theorem dX10_coresBeside_15 : decode cX10_coresBeside 15 = .ok (.iload_n 1, 1) := by decide +kernel
theorem dX10_coresBeside_16 : decode cX10_coresBeside 16 = .ok (.aload_n 2, 1) := by decide +kernel
theorem dX10_coresBeside_17 : decode cX10_coresBeside 17 = .ok (.iload 4, 2) := by decide +kernel
theorem dX10_coresBeside_19 : decode cX10_coresBeside 19 = .ok (.iconst 0, 1) := by decide +kernel
theorem dX10_coresBeside_20 : decode cX10_coresBeside 20 = .ok (.invokevirtual 60, 3) := by decide +kernel
theorem dX10_coresBeside_23 : decode cX10_coresBeside 23 = .ok (.aload_n 2, 1) := by decide +kernel
theorem dX10_coresBeside_24 : decode cX10_coresBeside 24 = .ok (.iload 4, 2) := by decide +kernel
theorem dX10_coresBeside_26 : decode cX10_coresBeside 26 = .ok (.iconst 1, 1) := by decide +kernel
theorem dX10_coresBeside_27 : decode cX10_coresBeside 27 = .ok (.invokevirtual 60, 3) := by decide +kernel
theorem dX10_coresBeside_30 : decode cX10_coresBeside 30 = .ok (.invokevirtual 63, 3) := by decide +kernel
theorem dX10_coresBeside_33 : decode cX10_coresBeside 33 = .ok (.ifCond .eq 6, 3) := by decide +kernel
theorem dX10_coresBeside_36 : decode cX10_coresBeside 36 = .ok (.iinc 3 1, 3) := by decide +kernel
theorem dX10_coresBeside_39 : decode cX10_coresBeside 39 = .ok (.iinc 4 1, 3) := by decide +kernel
theorem dX10_coresBeside_42 : decode cX10_coresBeside 42 = .ok (.goto (-37), 3) := by decide +kernel
theorem dX10_coresBeside_45 : decode cX10_coresBeside 45 = .ok (.iload_n 3, 1) := by decide +kernel
theorem dX10_coresBeside_46 : decode cX10_coresBeside 46 = .ok (.ireturn, 1) := by decide +kernel
theorem dX11_wall_0 : decode cX11_wall 0 = .ok (.aload_n 0, 1) := by decide +kernel
theorem dX11_wall_1 : decode cX11_wall 1 = .ok (.invokevirtual 136, 3) := by decide +kernel
theorem dX11_wall_4 : decode cX11_wall 4 = .ok (.ifCond .ne 12, 3) := by decide +kernel
theorem dX11_wall_7 : decode cX11_wall 7 = .ok (.iload_n 2, 1) := by decide +kernel
theorem dX11_wall_8 : decode cX11_wall 8 = .ok (.ifCond .lt 8, 3) := by decide +kernel
theorem dX11_wall_11 : decode cX11_wall 11 = .ok (.iload_n 2, 1) := by decide +kernel
theorem dX11_wall_12 : decode cX11_wall 12 = .ok (.iconst 4, 1) := by decide +kernel
theorem dX11_wall_13 : decode cX11_wall 13 = .ok (.if_icmp .le 5, 3) := by decide +kernel
theorem dX11_wall_16 : decode cX11_wall 16 = .ok (.iconst (-1), 1) := by decide +kernel
theorem dX11_wall_17 : decode cX11_wall 17 = .ok (.ireturn, 1) := by decide +kernel
theorem dX11_wall_18 : decode cX11_wall 18 = .ok (.aload_n 0, 1) := by decide +kernel
theorem dX11_wall_19 : decode cX11_wall 19 = .ok (.getfield 76, 3) := by decide +kernel
theorem dX11_wall_22 : decode cX11_wall 22 = .ok (.aload_n 0, 1) := by decide +kernel
theorem dX11_wall_23 : decode cX11_wall 23 = .ok (.getfield 28, 3) := by decide +kernel
theorem dX11_wall_26 : decode cX11_wall 26 = .ok (.getfield 141, 3) := by decide +kernel
theorem dX11_wall_29 : decode cX11_wall 29 = .ok (.invokevirtual 162, 3) := by decide +kernel
theorem dX11_wall_32 : decode cX11_wall 32 = .ok (.aload_n 0, 1) := by decide +kernel
theorem dX11_wall_33 : decode cX11_wall 33 = .ok (.getfield 76, 3) := by decide +kernel
theorem dX11_wall_36 : decode cX11_wall 36 = .ok (.iload_n 1, 1) := by decide +kernel
theorem dX11_wall_37 : decode cX11_wall 37 = .ok (.invokevirtual 305, 3) := by decide +kernel
theorem dX11_wall_40 : decode cX11_wall 40 = .ok (.istore_n 3, 1) := by decide +kernel
theorem dX11_wall_41 : decode cX11_wall 41 = .ok (.iload_n 3, 1) := by decide +kernel
theorem dX11_wall_42 : decode cX11_wall 42 = .ok (.iconst (-1), 1) := by decide +kernel
theorem dX11_wall_43 : decode cX11_wall 43 = .ok (.if_icmp .ne 5, 3) := by decide +kernel
theorem dX11_wall_46 : decode cX11_wall 46 = .ok (.iconst (-1), 1) := by decide +kernel
theorem dX11_wall_47 : decode cX11_wall 47 = .ok (.ireturn, 1) := by decide +kernel
theorem dX11_wall_48 : decode cX11_wall 48 = .ok (.iload_n 2, 1) := by decide +kernel
theorem dX11_wall_49 : decode cX11_wall 49 = .ok (.tableswitch 58 0 3 #[31, 40, 47, 54], 31) := by decide +kernel
theorem dX11_wall_80 : decode cX11_wall 80 = .ok (.aload_n 0, 1) := by decide +kernel
theorem dX11_wall_81 : decode cX11_wall 81 = .ok (.getfield 76, 3) := by decide +kernel
theorem dX11_wall_84 : decode cX11_wall 84 = .ok (.iload_n 3, 1) := by decide +kernel
theorem dX11_wall_85 : decode cX11_wall 85 = .ok (.invokevirtual 308, 3) := by decide +kernel
theorem dX11_wall_88 : decode cX11_wall 88 = .ok (.ireturn, 1) := by decide +kernel
theorem dX11_wall_89 : decode cX11_wall 89 = .ok (.iload_n 3, 1) := by decide +kernel
theorem dX11_wall_90 : decode cX11_wall 90 = .ok (.iconst 2, 1) := by decide +kernel
theorem dX11_wall_91 : decode cX11_wall 91 = .ok (.idiv, 1) := by decide +kernel
theorem dX11_wall_92 : decode cX11_wall 92 = .ok (.bipush 9, 2) := by decide +kernel
theorem dX11_wall_94 : decode cX11_wall 94 = .ok (.irem, 1) := by decide +kernel
theorem dX11_wall_95 : decode cX11_wall 95 = .ok (.ireturn, 1) := by decide +kernel
theorem dX11_wall_96 : decode cX11_wall 96 = .ok (.iload_n 3, 1) := by decide +kernel
theorem dX11_wall_97 : decode cX11_wall 97 = .ok (.iconst 2, 1) := by decide +kernel
theorem dX11_wall_98 : decode cX11_wall 98 = .ok (.idiv, 1) := by decide +kernel
theorem dX11_wall_99 : decode cX11_wall 99 = .ok (.bipush 9, 2) := by decide +kernel
theorem dX11_wall_101 : decode cX11_wall 101 = .ok (.idiv, 1) := by decide +kernel
theorem dX11_wall_102 : decode cX11_wall 102 = .ok (.ireturn, 1) := by decide +kernel
theorem dX11_wall_103 : decode cX11_wall 103 = .ok (.iload_n 3, 1) := by decide +kernel
theorem dX11_wall_104 : decode cX11_wall 104 = .ok (.iconst 2, 1) := by decide +kernel
theorem dX11_wall_105 : decode cX11_wall 105 = .ok (.irem, 1) := by decide +kernel
theorem dX11_wall_106 : decode cX11_wall 106 = .ok (.ireturn, 1) := by decide +kernel
theorem dX11_wall_107 : decode cX11_wall 107 = .ok (.aload_n 0, 1) := by decide +kernel
theorem dX11_wall_108 : decode cX11_wall 108 = .ok (.getfield 76, 3) := by decide +kernel
theorem dX11_wall_111 : decode cX11_wall 111 = .ok (.iload_n 3, 1) := by decide +kernel
theorem dX11_wall_112 : decode cX11_wall 112 = .ok (.aload_n 0, 1) := by decide +kernel
theorem dX11_wall_113 : decode cX11_wall 113 = .ok (.getfield 28, 3) := by decide +kernel
theorem dX11_wall_116 : decode cX11_wall 116 = .ok (.getfield 127, 3) := by decide +kernel
theorem dX11_wall_119 : decode cX11_wall 119 = .ok (.invokevirtual 311, 3) := by decide +kernel
theorem dX11_wall_122 : decode cX11_wall 122 = .ok (.ireturn, 1) := by decide +kernel
theorem dX11_wouldSplit_0 : decode cX11_wouldSplit 0 = .ok (.iload 5, 2) := by decide +kernel
theorem dX11_wouldSplit_2 : decode cX11_wouldSplit 2 = .ok (.ifCond .lt 9, 3) := by decide +kernel
theorem dX11_wouldSplit_5 : decode cX11_wouldSplit 5 = .ok (.iload 5, 2) := by decide +kernel
theorem dX11_wouldSplit_7 : decode cX11_wouldSplit 7 = .ok (.iconst 3, 1) := by decide +kernel
theorem dX11_wouldSplit_8 : decode cX11_wouldSplit 8 = .ok (.if_icmp .le 5, 3) := by decide +kernel
theorem dX11_wouldSplit_11 : decode cX11_wouldSplit 11 = .ok (.iconst 0, 1) := by decide +kernel
theorem dX11_wouldSplit_12 : decode cX11_wouldSplit 12 = .ok (.ireturn, 1) := by decide +kernel
theorem dX11_wouldSplit_13 : decode cX11_wouldSplit 13 = .ok (.iload_n 1, 1) := by decide +kernel
theorem dX11_wouldSplit_14 : decode cX11_wouldSplit 14 = .ok (.getstatic 234, 3) := by decide +kernel
theorem dX11_wouldSplit_17 : decode cX11_wouldSplit 17 = .ok (.iload 5, 2) := by decide +kernel
theorem dX11_wouldSplit_19 : decode cX11_wouldSplit 19 = .ok (.iaload, 1) := by decide +kernel
theorem dX11_wouldSplit_20 : decode cX11_wouldSplit 20 = .ok (.iadd, 1) := by decide +kernel
theorem dX11_wouldSplit_21 : decode cX11_wouldSplit 21 = .ok (.istore 6, 2) := by decide +kernel
theorem dX11_wouldSplit_23 : decode cX11_wouldSplit 23 = .ok (.iload_n 2, 1) := by decide +kernel
theorem dX11_wouldSplit_24 : decode cX11_wouldSplit 24 = .ok (.getstatic 237, 3) := by decide +kernel
theorem dX11_wouldSplit_27 : decode cX11_wouldSplit 27 = .ok (.iload 5, 2) := by decide +kernel
theorem dX11_wouldSplit_29 : decode cX11_wouldSplit 29 = .ok (.iaload, 1) := by decide +kernel
theorem dX11_wouldSplit_30 : decode cX11_wouldSplit 30 = .ok (.iadd, 1) := by decide +kernel
theorem dX11_wouldSplit_31 : decode cX11_wouldSplit 31 = .ok (.istore 7, 2) := by decide +kernel
theorem dX11_wouldSplit_33 : decode cX11_wouldSplit 33 = .ok (.aload_n 0, 1) := by decide +kernel
theorem dX11_wouldSplit_34 : decode cX11_wouldSplit 34 = .ok (.getfield 28, 3) := by decide +kernel
theorem dX11_wouldSplit_37 : decode cX11_wouldSplit 37 = .ok (.getfield 141, 3) := by decide +kernel
theorem dX11_wouldSplit_40 : decode cX11_wouldSplit 40 = .ok (.iload_n 1, 1) := by decide +kernel
theorem dX11_wouldSplit_41 : decode cX11_wouldSplit 41 = .ok (.iload_n 2, 1) := by decide +kernel
theorem dX11_wouldSplit_42 : decode cX11_wouldSplit 42 = .ok (.iconst 0, 1) := by decide +kernel
theorem dX11_wouldSplit_43 : decode cX11_wouldSplit 43 = .ok (.invokevirtual 195, 3) := by decide +kernel
theorem dX11_wouldSplit_46 : decode cX11_wouldSplit 46 = .ok (.iload_n 3, 1) := by decide +kernel
theorem dX11_wouldSplit_47 : decode cX11_wouldSplit 47 = .ok (.if_icmp .ne 21, 3) := by decide +kernel
theorem dX11_wouldSplit_50 : decode cX11_wouldSplit 50 = .ok (.aload_n 0, 1) := by decide +kernel
theorem dX11_wouldSplit_51 : decode cX11_wouldSplit 51 = .ok (.getfield 28, 3) := by decide +kernel
theorem dX11_wouldSplit_54 : decode cX11_wouldSplit 54 = .ok (.getfield 141, 3) := by decide +kernel
theorem dX11_wouldSplit_57 : decode cX11_wouldSplit 57 = .ok (.iload_n 1, 1) := by decide +kernel
theorem dX11_wouldSplit_58 : decode cX11_wouldSplit 58 = .ok (.iload_n 2, 1) := by decide +kernel
theorem dX11_wouldSplit_59 : decode cX11_wouldSplit 59 = .ok (.iconst 1, 1) := by decide +kernel
theorem dX11_wouldSplit_60 : decode cX11_wouldSplit 60 = .ok (.invokevirtual 195, 3) := by decide +kernel
theorem dX11_wouldSplit_63 : decode cX11_wouldSplit 63 = .ok (.iload 4, 2) := by decide +kernel
theorem dX11_wouldSplit_65 : decode cX11_wouldSplit 65 = .ok (.if_icmp .eq 7, 3) := by decide +kernel
theorem dX11_wouldSplit_68 : decode cX11_wouldSplit 68 = .ok (.iconst 1, 1) := by decide +kernel
theorem dX11_wouldSplit_69 : decode cX11_wouldSplit 69 = .ok (.goto 4, 3) := by decide +kernel
theorem dX11_wouldSplit_72 : decode cX11_wouldSplit 72 = .ok (.iconst 0, 1) := by decide +kernel
theorem dX11_wouldSplit_73 : decode cX11_wouldSplit 73 = .ok (.istore 8, 2) := by decide +kernel
theorem dX11_wouldSplit_75 : decode cX11_wouldSplit 75 = .ok (.iload 8, 2) := by decide +kernel
theorem dX11_wouldSplit_77 : decode cX11_wouldSplit 77 = .ok (.ifCond .eq 41, 3) := by decide +kernel
theorem dX11_wouldSplit_80 : decode cX11_wouldSplit 80 = .ok (.aload_n 0, 1) := by decide +kernel
theorem dX11_wouldSplit_81 : decode cX11_wouldSplit 81 = .ok (.getfield 28, 3) := by decide +kernel
theorem dX11_wouldSplit_84 : decode cX11_wouldSplit 84 = .ok (.getfield 141, 3) := by decide +kernel
theorem dX11_wouldSplit_87 : decode cX11_wouldSplit 87 = .ok (.iload 6, 2) := by decide +kernel
theorem dX11_wouldSplit_89 : decode cX11_wouldSplit 89 = .ok (.iload 7, 2) := by decide +kernel
theorem dX11_wouldSplit_91 : decode cX11_wouldSplit 91 = .ok (.invokevirtual 188, 3) := by decide +kernel
theorem dX11_wouldSplit_94 : decode cX11_wouldSplit 94 = .ok (.ifCond .eq 24, 3) := by decide +kernel
theorem dX11_wouldSplit_97 : decode cX11_wouldSplit 97 = .ok (.aload_n 0, 1) := by decide +kernel
theorem dX11_wouldSplit_98 : decode cX11_wouldSplit 98 = .ok (.getfield 28, 3) := by decide +kernel
theorem dX11_wouldSplit_101 : decode cX11_wouldSplit 101 = .ok (.getfield 141, 3) := by decide +kernel
theorem dX11_wouldSplit_104 : decode cX11_wouldSplit 104 = .ok (.iload 6, 2) := by decide +kernel
theorem dX11_wouldSplit_106 : decode cX11_wouldSplit 106 = .ok (.iload 7, 2) := by decide +kernel
theorem dX11_wouldSplit_108 : decode cX11_wouldSplit 108 = .ok (.invokevirtual 385, 3) := by decide +kernel
theorem dX11_wouldSplit_111 : decode cX11_wouldSplit 111 = .ok (.ifCond .eq 7, 3) := by decide +kernel
theorem dX11_wouldSplit_114 : decode cX11_wouldSplit 114 = .ok (.iconst 1, 1) := by decide +kernel
theorem dX11_wouldSplit_115 : decode cX11_wouldSplit 115 = .ok (.goto 4, 3) := by decide +kernel
theorem dX11_wouldSplit_118 : decode cX11_wouldSplit 118 = .ok (.iconst 0, 1) := by decide +kernel
theorem dX11_wouldSplit_119 : decode cX11_wouldSplit 119 = .ok (.ireturn, 1) := by decide +kernel
theorem dX12_isCrystal_0 : decode cX12_isCrystal 0 = .ok (.aload_n 0, 1) := by decide +kernel
theorem dX12_isCrystal_1 : decode cX12_isCrystal 1 = .ok (.getfield 205, 3) := by decide +kernel
theorem dX12_isCrystal_4 : decode cX12_isCrystal 4 = .ok (.ifCond .le 7, 3) := by decide +kernel
theorem dX12_isCrystal_7 : decode cX12_isCrystal 7 = .ok (.iconst 1, 1) := by decide +kernel
theorem dX12_isCrystal_8 : decode cX12_isCrystal 8 = .ok (.goto 4, 3) := by decide +kernel
theorem dX12_isCrystal_11 : decode cX12_isCrystal 11 = .ok (.iconst 0, 1) := by decide +kernel
theorem dX12_isCrystal_12 : decode cX12_isCrystal 12 = .ok (.ireturn, 1) := by decide +kernel
theorem dX12_in_0 : decode cX12_in 0 = .ok (.lload_n 0, 1) := by decide +kernel
theorem dX12_in_1 : decode cX12_in 1 = .ok (.lload_n 2, 1) := by decide +kernel
theorem dX12_in_2 : decode cX12_in 2 = .ok (.lcmp, 1) := by decide +kernel
theorem dX12_in_3 : decode cX12_in 3 = .ok (.ifCond .lt 14, 3) := by decide +kernel
theorem dX12_in_6 : decode cX12_in 6 = .ok (.lload_n 0, 1) := by decide +kernel
theorem dX12_in_7 : decode cX12_in 7 = .ok (.lload 4, 2) := by decide +kernel
theorem dX12_in_9 : decode cX12_in 9 = .ok (.lcmp, 1) := by decide +kernel
theorem dX12_in_10 : decode cX12_in 10 = .ok (.ifCond .gt 7, 3) := by decide +kernel
theorem dX12_in_13 : decode cX12_in 13 = .ok (.iconst 1, 1) := by decide +kernel
theorem dX12_in_14 : decode cX12_in 14 = .ok (.goto 4, 3) := by decide +kernel
theorem dX12_in_17 : decode cX12_in 17 = .ok (.iconst 0, 1) := by decide +kernel
theorem dX12_in_18 : decode cX12_in 18 = .ok (.ireturn, 1) := by decide +kernel
theorem dX12_putAside_0 : decode cX12_putAside 0 = .ok (.iconst 0, 1) := by decide +kernel
theorem dX12_putAside_1 : decode cX12_putAside 1 = .ok (.istore_n 1, 1) := by decide +kernel
theorem dX12_putAside_2 : decode cX12_putAside 2 = .ok (.iload_n 1, 1) := by decide +kernel
theorem dX12_putAside_3 : decode cX12_putAside 3 = .ok (.sipush 486, 3) := by decide +kernel
theorem dX12_putAside_6 : decode cX12_putAside 6 = .ok (.if_icmp .ge 21, 3) := by decide +kernel
theorem dX12_putAside_9 : decode cX12_putAside 9 = .ok (.aload_n 0, 1) := by decide +kernel
theorem dX12_putAside_10 : decode cX12_putAside 10 = .ok (.getfield 80, 3) := by decide +kernel
theorem dX12_putAside_13 : decode cX12_putAside 13 = .ok (.iload_n 1, 1) := by decide +kernel
theorem dX12_putAside_14 : decode cX12_putAside 14 = .ok (.aload_n 0, 1) := by decide +kernel
theorem dX12_putAside_15 : decode cX12_putAside 15 = .ok (.getfield 28, 3) := by decide +kernel
theorem dX12_putAside_18 : decode cX12_putAside 18 = .ok (.iload_n 1, 1) := by decide +kernel
theorem dX12_putAside_19 : decode cX12_putAside 19 = .ok (.iaload, 1) := by decide +kernel
theorem dX12_putAside_20 : decode cX12_putAside 20 = .ok (.iastore, 1) := by decide +kernel
theorem dX12_putAside_21 : decode cX12_putAside 21 = .ok (.iinc 1 1, 3) := by decide +kernel
theorem dX12_putAside_24 : decode cX12_putAside 24 = .ok (.goto (-22), 3) := by decide +kernel
theorem dX12_putAside_27 : decode cX12_putAside 27 = .ok (.return_, 1) := by decide +kernel
theorem dX12_counts_0 : decode cX12_counts 0 = .ok (.aload_n 0, 1) := by decide +kernel
theorem dX12_counts_1 : decode cX12_counts 1 = .ok (.iconst 0, 1) := by decide +kernel
theorem dX12_counts_2 : decode cX12_counts 2 = .ok (.putfield 376, 3) := by decide +kernel
theorem dX12_counts_5 : decode cX12_counts 5 = .ok (.aload_n 0, 1) := by decide +kernel
theorem dX12_counts_6 : decode cX12_counts 6 = .ok (.iconst 0, 1) := by decide +kernel
theorem dX12_counts_7 : decode cX12_counts 7 = .ok (.putfield 379, 3) := by decide +kernel
theorem dX12_counts_10 : decode cX12_counts 10 = .ok (.aload_n 0, 1) := by decide +kernel
theorem dX12_counts_11 : decode cX12_counts 11 = .ok (.iconst 0, 1) := by decide +kernel
theorem dX12_counts_12 : decode cX12_counts 12 = .ok (.putfield 382, 3) := by decide +kernel
theorem dX12_counts_15 : decode cX12_counts 15 = .ok (.return_, 1) := by decide +kernel
theorem dX12_linkAt_0 : decode cX12_linkAt 0 = .ok (.iconst 4, 1) := by decide +kernel
theorem dX12_linkAt_1 : decode cX12_linkAt 1 = .ok (.bipush 9, 2) := by decide +kernel
theorem dX12_linkAt_3 : decode cX12_linkAt 3 = .ok (.iload_n 1, 1) := by decide +kernel
theorem dX12_linkAt_4 : decode cX12_linkAt 4 = .ok (.imul, 1) := by decide +kernel
theorem dX12_linkAt_5 : decode cX12_linkAt 5 = .ok (.iload_n 0, 1) := by decide +kernel
theorem dX12_linkAt_6 : decode cX12_linkAt 6 = .ok (.iadd, 1) := by decide +kernel
theorem dX12_linkAt_7 : decode cX12_linkAt 7 = .ok (.imul, 1) := by decide +kernel
theorem dX12_linkAt_8 : decode cX12_linkAt 8 = .ok (.iload_n 2, 1) := by decide +kernel
theorem dX12_linkAt_9 : decode cX12_linkAt 9 = .ok (.ifCond .eq 7, 3) := by decide +kernel
theorem dX12_linkAt_12 : decode cX12_linkAt 12 = .ok (.iconst 2, 1) := by decide +kernel
theorem dX12_linkAt_13 : decode cX12_linkAt 13 = .ok (.goto 4, 3) := by decide +kernel
theorem dX12_linkAt_16 : decode cX12_linkAt 16 = .ok (.iconst 0, 1) := by decide +kernel
theorem dX12_linkAt_17 : decode cX12_linkAt 17 = .ok (.iadd, 1) := by decide +kernel
theorem dX12_linkAt_18 : decode cX12_linkAt 18 = .ok (.iload_n 3, 1) := by decide +kernel
theorem dX12_linkAt_19 : decode cX12_linkAt 19 = .ok (.iadd, 1) := by decide +kernel
theorem dX12_linkAt_20 : decode cX12_linkAt 20 = .ok (.ireturn, 1) := by decide +kernel
theorem dX12_step_0 : decode cX12_step 0 = .ok (.aload_n 0, 1) := by decide +kernel
theorem dX12_step_1 : decode cX12_step 1 = .ok (.getfield 28, 3) := by decide +kernel
theorem dX12_step_4 : decode cX12_step 4 = .ok (.iload_n 1, 1) := by decide +kernel
theorem dX12_step_5 : decode cX12_step 5 = .ok (.iload_n 2, 1) := by decide +kernel
theorem dX12_step_6 : decode cX12_step 6 = .ok (.iload_n 3, 1) := by decide +kernel
theorem dX12_step_7 : decode cX12_step 7 = .ok (.iload 4, 2) := by decide +kernel
theorem dX12_step_9 : decode cX12_step 9 = .ok (.invokestatic 211, 3) := by decide +kernel
theorem dX12_step_12 : decode cX12_step 12 = .ok (.iaload, 1) := by decide +kernel
theorem dX12_step_13 : decode cX12_step 13 = .ok (.ireturn, 1) := by decide +kernel
theorem dX12_vector_0 : decode cX12_vector 0 = .ok (.aload_n 0, 1) := by decide +kernel
theorem dX12_vector_1 : decode cX12_vector 1 = .ok (.iload_n 1, 1) := by decide +kernel
theorem dX12_vector_2 : decode cX12_vector 2 = .ok (.iload_n 2, 1) := by decide +kernel
theorem dX12_vector_3 : decode cX12_vector 3 = .ok (.iconst 0, 1) := by decide +kernel
theorem dX12_vector_4 : decode cX12_vector 4 = .ok (.iload_n 3, 1) := by decide +kernel
theorem dX12_vector_5 : decode cX12_vector 5 = .ok (.invokevirtual 218, 3) := by decide +kernel
theorem dX12_vector_8 : decode cX12_vector 8 = .ok (.aload_n 0, 1) := by decide +kernel
theorem dX12_vector_9 : decode cX12_vector 9 = .ok (.iload_n 1, 1) := by decide +kernel
theorem dX12_vector_10 : decode cX12_vector 10 = .ok (.iconst 1, 1) := by decide +kernel
theorem dX12_vector_11 : decode cX12_vector 11 = .ok (.iadd, 1) := by decide +kernel
theorem dX12_vector_12 : decode cX12_vector 12 = .ok (.iload_n 2, 1) := by decide +kernel
theorem dX12_vector_13 : decode cX12_vector 13 = .ok (.iconst 1, 1) := by decide +kernel
theorem dX12_vector_14 : decode cX12_vector 14 = .ok (.iload_n 3, 1) := by decide +kernel
theorem dX12_vector_15 : decode cX12_vector 15 = .ok (.invokevirtual 218, 3) := by decide +kernel
theorem dX12_vector_18 : decode cX12_vector 18 = .ok (.iadd, 1) := by decide +kernel
theorem dX12_vector_19 : decode cX12_vector 19 = .ok (.aload_n 0, 1) := by decide +kernel
theorem dX12_vector_20 : decode cX12_vector 20 = .ok (.iload_n 1, 1) := by decide +kernel
theorem dX12_vector_21 : decode cX12_vector 21 = .ok (.iload_n 2, 1) := by decide +kernel
theorem dX12_vector_22 : decode cX12_vector 22 = .ok (.iconst 1, 1) := by decide +kernel
theorem dX12_vector_23 : decode cX12_vector 23 = .ok (.iadd, 1) := by decide +kernel
theorem dX12_vector_24 : decode cX12_vector 24 = .ok (.iconst 0, 1) := by decide +kernel
theorem dX12_vector_25 : decode cX12_vector 25 = .ok (.iload_n 3, 1) := by decide +kernel
theorem dX12_vector_26 : decode cX12_vector 26 = .ok (.invokevirtual 218, 3) := by decide +kernel
theorem dX12_vector_29 : decode cX12_vector 29 = .ok (.isub, 1) := by decide +kernel
theorem dX12_vector_30 : decode cX12_vector 30 = .ok (.aload_n 0, 1) := by decide +kernel
theorem dX12_vector_31 : decode cX12_vector 31 = .ok (.iload_n 1, 1) := by decide +kernel
theorem dX12_vector_32 : decode cX12_vector 32 = .ok (.iload_n 2, 1) := by decide +kernel
theorem dX12_vector_33 : decode cX12_vector 33 = .ok (.iconst 1, 1) := by decide +kernel
theorem dX12_vector_34 : decode cX12_vector 34 = .ok (.iload_n 3, 1) := by decide +kernel
theorem dX12_vector_35 : decode cX12_vector 35 = .ok (.invokevirtual 218, 3) := by decide +kernel
theorem dX12_vector_38 : decode cX12_vector 38 = .ok (.isub, 1) := by decide +kernel
theorem dX12_vector_39 : decode cX12_vector 39 = .ok (.ireturn, 1) := by decide +kernel
theorem dX12_isCore_0 : decode cX12_isCore 0 = .ok (.aload_n 0, 1) := by decide +kernel
theorem dX12_isCore_1 : decode cX12_isCore 1 = .ok (.iload_n 1, 1) := by decide +kernel
theorem dX12_isCore_2 : decode cX12_isCore 2 = .ok (.iload_n 2, 1) := by decide +kernel
theorem dX12_isCore_3 : decode cX12_isCore 3 = .ok (.iconst 0, 1) := by decide +kernel
theorem dX12_isCore_4 : decode cX12_isCore 4 = .ok (.invokevirtual 221, 3) := by decide +kernel
theorem dX12_isCore_7 : decode cX12_isCore 7 = .ok (.ifCond .ne 13, 3) := by decide +kernel
theorem dX12_isCore_10 : decode cX12_isCore 10 = .ok (.aload_n 0, 1) := by decide +kernel
theorem dX12_isCore_11 : decode cX12_isCore 11 = .ok (.iload_n 1, 1) := by decide +kernel
theorem dX12_isCore_12 : decode cX12_isCore 12 = .ok (.iload_n 2, 1) := by decide +kernel
theorem dX12_isCore_13 : decode cX12_isCore 13 = .ok (.iconst 1, 1) := by decide +kernel
theorem dX12_isCore_14 : decode cX12_isCore 14 = .ok (.invokevirtual 221, 3) := by decide +kernel
theorem dX12_isCore_17 : decode cX12_isCore 17 = .ok (.ifCond .eq 7, 3) := by decide +kernel
theorem dX12_isCore_20 : decode cX12_isCore 20 = .ok (.iconst 1, 1) := by decide +kernel
theorem dX12_isCore_21 : decode cX12_isCore 21 = .ok (.goto 4, 3) := by decide +kernel
theorem dX12_isCore_24 : decode cX12_isCore 24 = .ok (.iconst 0, 1) := by decide +kernel
theorem dX12_isCore_25 : decode cX12_isCore 25 = .ok (.ireturn, 1) := by decide +kernel
theorem dX12_wayOf_0 : decode cX12_wayOf 0 = .ok (.iload_n 1, 1) := by decide +kernel
theorem dX12_wayOf_1 : decode cX12_wayOf 1 = .ok (.ifCond .ne 7, 3) := by decide +kernel
theorem dX12_wayOf_4 : decode cX12_wayOf 4 = .ok (.iconst 0, 1) := by decide +kernel
theorem dX12_wayOf_5 : decode cX12_wayOf 5 = .ok (.goto 12, 3) := by decide +kernel
theorem dX12_wayOf_8 : decode cX12_wayOf 8 = .ok (.iload_n 0, 1) := by decide +kernel
theorem dX12_wayOf_9 : decode cX12_wayOf 9 = .ok (.ifCond .ne 7, 3) := by decide +kernel
theorem dX12_wayOf_12 : decode cX12_wayOf 12 = .ok (.iconst 1, 1) := by decide +kernel
theorem dX12_wayOf_13 : decode cX12_wayOf 13 = .ok (.goto 4, 3) := by decide +kernel
theorem dX12_wayOf_16 : decode cX12_wayOf 16 = .ok (.iconst (-1), 1) := by decide +kernel
theorem dX12_wayOf_17 : decode cX12_wayOf 17 = .ok (.ireturn, 1) := by decide +kernel
theorem dX12_way_0 : decode cX12_way 0 = .ok (.aload_n 0, 1) := by decide +kernel
theorem dX12_way_1 : decode cX12_way 1 = .ok (.getfield 40, 3) := by decide +kernel
theorem dX12_way_4 : decode cX12_way 4 = .ok (.iload_n 1, 1) := by decide +kernel
theorem dX12_way_5 : decode cX12_way 5 = .ok (.iaload, 1) := by decide +kernel
theorem dX12_way_6 : decode cX12_way 6 = .ok (.aload_n 0, 1) := by decide +kernel
theorem dX12_way_7 : decode cX12_way 7 = .ok (.getfield 43, 3) := by decide +kernel
theorem dX12_way_10 : decode cX12_way 10 = .ok (.iload_n 1, 1) := by decide +kernel
theorem dX12_way_11 : decode cX12_way 11 = .ok (.iaload, 1) := by decide +kernel
theorem dX12_way_12 : decode cX12_way 12 = .ok (.invokestatic 250, 3) := by decide +kernel
theorem dX12_way_15 : decode cX12_way 15 = .ok (.ireturn, 1) := by decide +kernel
theorem dX12_along_0 : decode cX12_along 0 = .ok (.iload_n 2, 1) := by decide +kernel
theorem dX12_along_1 : decode cX12_along 1 = .ok (.ifCond .ne 12, 3) := by decide +kernel
theorem dX12_along_4 : decode cX12_along 4 = .ok (.aload_n 0, 1) := by decide +kernel
theorem dX12_along_5 : decode cX12_along 5 = .ok (.getfield 40, 3) := by decide +kernel
theorem dX12_along_8 : decode cX12_along 8 = .ok (.iload_n 1, 1) := by decide +kernel
theorem dX12_along_9 : decode cX12_along 9 = .ok (.iaload, 1) := by decide +kernel
theorem dX12_along_10 : decode cX12_along 10 = .ok (.goto 9, 3) := by decide +kernel
theorem dX12_along_13 : decode cX12_along 13 = .ok (.aload_n 0, 1) := by decide +kernel
theorem dX12_along_14 : decode cX12_along 14 = .ok (.getfield 43, 3) := by decide +kernel
theorem dX12_along_17 : decode cX12_along 17 = .ok (.iload_n 1, 1) := by decide +kernel
theorem dX12_along_18 : decode cX12_along 18 = .ok (.iaload, 1) := by decide +kernel
theorem dX12_along_19 : decode cX12_along 19 = .ok (.ireturn, 1) := by decide +kernel
theorem dX12_placeAlong_0 : decode cX12_placeAlong 0 = .ok (.iload_n 2, 1) := by decide +kernel
theorem dX12_placeAlong_1 : decode cX12_placeAlong 1 = .ok (.ifCond .ne 12, 3) := by decide +kernel
theorem dX12_placeAlong_4 : decode cX12_placeAlong 4 = .ok (.aload_n 0, 1) := by decide +kernel
theorem dX12_placeAlong_5 : decode cX12_placeAlong 5 = .ok (.getfield 34, 3) := by decide +kernel
theorem dX12_placeAlong_8 : decode cX12_placeAlong 8 = .ok (.iload_n 1, 1) := by decide +kernel
theorem dX12_placeAlong_9 : decode cX12_placeAlong 9 = .ok (.iaload, 1) := by decide +kernel
theorem dX12_placeAlong_10 : decode cX12_placeAlong 10 = .ok (.goto 9, 3) := by decide +kernel
theorem dX12_placeAlong_13 : decode cX12_placeAlong 13 = .ok (.aload_n 0, 1) := by decide +kernel
theorem dX12_placeAlong_14 : decode cX12_placeAlong 14 = .ok (.getfield 37, 3) := by decide +kernel
theorem dX12_placeAlong_17 : decode cX12_placeAlong 17 = .ok (.iload_n 1, 1) := by decide +kernel
theorem dX12_placeAlong_18 : decode cX12_placeAlong 18 = .ok (.iaload, 1) := by decide +kernel
theorem dX12_placeAlong_19 : decode cX12_placeAlong 19 = .ok (.ireturn, 1) := by decide +kernel
theorem dJ13_signum_95d88_0 : decode cJ13_signum_95d88 0 = .ok (.lload_n 0, 1) := by decide +kernel
theorem dJ13_signum_95d88_1 : decode cJ13_signum_95d88 1 = .ok (.bipush 63, 2) := by decide +kernel
theorem dJ13_signum_95d88_3 : decode cJ13_signum_95d88 3 = .ok (.lshr, 1) := by decide +kernel
theorem dJ13_signum_95d88_4 : decode cJ13_signum_95d88 4 = .ok (.lload_n 0, 1) := by decide +kernel
theorem dJ13_signum_95d88_5 : decode cJ13_signum_95d88 5 = .ok (.lneg, 1) := by decide +kernel
theorem dJ13_signum_95d88_6 : decode cJ13_signum_95d88 6 = .ok (.bipush 63, 2) := by decide +kernel
theorem dJ13_signum_95d88_8 : decode cJ13_signum_95d88 8 = .ok (.lushr, 1) := by decide +kernel
theorem dJ13_signum_95d88_9 : decode cJ13_signum_95d88 9 = .ok (.lor, 1) := by decide +kernel
theorem dJ13_signum_95d88_10 : decode cJ13_signum_95d88 10 = .ok (.l2i, 1) := by decide +kernel
theorem dJ13_signum_95d88_11 : decode cJ13_signum_95d88 11 = .ok (.ireturn, 1) := by decide +kernel
theorem dJ9_abs_067f4_0 : decode cJ9_abs_067f4 0 = .ok (.lload_n 0, 1) := by decide +kernel
theorem dJ9_abs_067f4_1 : decode cJ9_abs_067f4 1 = .ok (.lconst 0, 1) := by decide +kernel
theorem dJ9_abs_067f4_2 : decode cJ9_abs_067f4 2 = .ok (.lcmp, 1) := by decide +kernel
theorem dJ9_abs_067f4_3 : decode cJ9_abs_067f4 3 = .ok (.ifCond .ge 8, 3) := by decide +kernel
theorem dJ9_abs_067f4_6 : decode cJ9_abs_067f4 6 = .ok (.lload_n 0, 1) := by decide +kernel
theorem dJ9_abs_067f4_7 : decode cJ9_abs_067f4 7 = .ok (.lneg, 1) := by decide +kernel
theorem dJ9_abs_067f4_8 : decode cJ9_abs_067f4 8 = .ok (.goto 4, 3) := by decide +kernel
theorem dJ9_abs_067f4_11 : decode cJ9_abs_067f4 11 = .ok (.lload_n 0, 1) := by decide +kernel
theorem dJ9_abs_067f4_12 : decode cJ9_abs_067f4 12 = .ok (.lreturn, 1) := by decide +kernel
theorem dX12_forceBy_0 : decode cX12_forceBy 0 = .ok (.aload_n 0, 1) := by decide +kernel
theorem dX12_forceBy_1 : decode cX12_forceBy 1 = .ok (.getfield 31, 3) := by decide +kernel
theorem dX12_forceBy_4 : decode cX12_forceBy 4 = .ok (.iconst 3, 1) := by decide +kernel
theorem dX12_forceBy_5 : decode cX12_forceBy 5 = .ok (.iaload, 1) := by decide +kernel
theorem dX12_forceBy_6 : decode cX12_forceBy 6 = .ok (.ifCond .ne 42, 3) := by decide +kernel
theorem dX12_forceBy_9 : decode cX12_forceBy 9 = .ok (.ldc2_w 253, 3) := by decide +kernel
theorem dX12_forceBy_12 : decode cX12_forceBy 12 = .ok (.lload_n 1, 1) := by decide +kernel
theorem dX12_forceBy_13 : decode cX12_forceBy 13 = .ok (.lmul, 1) := by decide +kernel
theorem dX12_forceBy_14 : decode cX12_forceBy 14 = .ok (.lload_n 3, 1) := by decide +kernel
theorem dX12_forceBy_15 : decode cX12_forceBy 15 = .ok (.lmul, 1) := by decide +kernel
theorem dX12_forceBy_16 : decode cX12_forceBy 16 = .ok (.lload_n 3, 1) := by decide +kernel
theorem dX12_forceBy_17 : decode cX12_forceBy 17 = .ok (.lload_n 3, 1) := by decide +kernel
theorem dX12_forceBy_18 : decode cX12_forceBy 18 = .ok (.lmul, 1) := by decide +kernel
theorem dX12_forceBy_19 : decode cX12_forceBy 19 = .ok (.lload 5, 2) := by decide +kernel
theorem dX12_forceBy_21 : decode cX12_forceBy 21 = .ok (.lload 5, 2) := by decide +kernel
theorem dX12_forceBy_23 : decode cX12_forceBy 23 = .ok (.lmul, 1) := by decide +kernel
theorem dX12_forceBy_24 : decode cX12_forceBy 24 = .ok (.lsub, 1) := by decide +kernel
theorem dX12_forceBy_25 : decode cX12_forceBy 25 = .ok (.lmul, 1) := by decide +kernel
theorem dX12_forceBy_26 : decode cX12_forceBy 26 = .ok (.lload_n 3, 1) := by decide +kernel
theorem dX12_forceBy_27 : decode cX12_forceBy 27 = .ok (.lload_n 3, 1) := by decide +kernel
theorem dX12_forceBy_28 : decode cX12_forceBy 28 = .ok (.lmul, 1) := by decide +kernel
theorem dX12_forceBy_29 : decode cX12_forceBy 29 = .ok (.lload 5, 2) := by decide +kernel
theorem dX12_forceBy_31 : decode cX12_forceBy 31 = .ok (.lload 5, 2) := by decide +kernel
theorem dX12_forceBy_33 : decode cX12_forceBy 33 = .ok (.lmul, 1) := by decide +kernel
theorem dX12_forceBy_34 : decode cX12_forceBy 34 = .ok (.ladd, 1) := by decide +kernel
theorem dX12_forceBy_35 : decode cX12_forceBy 35 = .ok (.lload_n 3, 1) := by decide +kernel
theorem dX12_forceBy_36 : decode cX12_forceBy 36 = .ok (.lload_n 3, 1) := by decide +kernel
theorem dX12_forceBy_37 : decode cX12_forceBy 37 = .ok (.lmul, 1) := by decide +kernel
theorem dX12_forceBy_38 : decode cX12_forceBy 38 = .ok (.lload 5, 2) := by decide +kernel
theorem dX12_forceBy_40 : decode cX12_forceBy 40 = .ok (.lload 5, 2) := by decide +kernel
theorem dX12_forceBy_42 : decode cX12_forceBy 42 = .ok (.lmul, 1) := by decide +kernel
theorem dX12_forceBy_43 : decode cX12_forceBy 43 = .ok (.ladd, 1) := by decide +kernel
theorem dX12_forceBy_44 : decode cX12_forceBy 44 = .ok (.lmul, 1) := by decide +kernel
theorem dX12_forceBy_45 : decode cX12_forceBy 45 = .ok (.ldiv, 1) := by decide +kernel
theorem dX12_forceBy_46 : decode cX12_forceBy 46 = .ok (.l2i, 1) := by decide +kernel
theorem dX12_forceBy_47 : decode cX12_forceBy 47 = .ok (.ireturn, 1) := by decide +kernel
theorem dX12_forceBy_48 : decode cX12_forceBy 48 = .ok (.aload_n 0, 1) := by decide +kernel
theorem dX12_forceBy_49 : decode cX12_forceBy 49 = .ok (.getfield 31, 3) := by decide +kernel
theorem dX12_forceBy_52 : decode cX12_forceBy 52 = .ok (.iconst 3, 1) := by decide +kernel
theorem dX12_forceBy_53 : decode cX12_forceBy 53 = .ok (.iaload, 1) := by decide +kernel
theorem dX12_forceBy_54 : decode cX12_forceBy 54 = .ok (.iconst 1, 1) := by decide +kernel
theorem dX12_forceBy_55 : decode cX12_forceBy 55 = .ok (.if_icmp .ne 27, 3) := by decide +kernel
theorem dX12_forceBy_58 : decode cX12_forceBy 58 = .ok (.ldc2_w 255, 3) := by decide +kernel
theorem dX12_forceBy_61 : decode cX12_forceBy 61 = .ok (.lload_n 1, 1) := by decide +kernel
theorem dX12_forceBy_62 : decode cX12_forceBy 62 = .ok (.lmul, 1) := by decide +kernel
theorem dX12_forceBy_63 : decode cX12_forceBy 63 = .ok (.lload_n 3, 1) := by decide +kernel
theorem dX12_forceBy_64 : decode cX12_forceBy 64 = .ok (.invokestatic 257, 3) := by decide +kernel
theorem dX12_forceBy_67 : decode cX12_forceBy 67 = .ok (.i2l, 1) := by decide +kernel
theorem dX12_forceBy_68 : decode cX12_forceBy 68 = .ok (.lmul, 1) := by decide +kernel
theorem dX12_forceBy_69 : decode cX12_forceBy 69 = .ok (.lload_n 3, 1) := by decide +kernel
theorem dX12_forceBy_70 : decode cX12_forceBy 70 = .ok (.invokestatic 263, 3) := by decide +kernel
theorem dX12_forceBy_73 : decode cX12_forceBy 73 = .ok (.lload 5, 2) := by decide +kernel
theorem dX12_forceBy_75 : decode cX12_forceBy 75 = .ok (.invokestatic 263, 3) := by decide +kernel
theorem dX12_forceBy_78 : decode cX12_forceBy 78 = .ok (.ladd, 1) := by decide +kernel
theorem dX12_forceBy_79 : decode cX12_forceBy 79 = .ok (.ldiv, 1) := by decide +kernel
theorem dX12_forceBy_80 : decode cX12_forceBy 80 = .ok (.l2i, 1) := by decide +kernel
theorem dX12_forceBy_81 : decode cX12_forceBy 81 = .ok (.ireturn, 1) := by decide +kernel
theorem dX12_forceBy_82 : decode cX12_forceBy 82 = .ok (.ldc2_w 267, 3) := by decide +kernel
theorem dX12_forceBy_85 : decode cX12_forceBy 85 = .ok (.lload_n 1, 1) := by decide +kernel
theorem dX12_forceBy_86 : decode cX12_forceBy 86 = .ok (.lmul, 1) := by decide +kernel
theorem dX12_forceBy_87 : decode cX12_forceBy 87 = .ok (.lload_n 3, 1) := by decide +kernel
theorem dX12_forceBy_88 : decode cX12_forceBy 88 = .ok (.lmul, 1) := by decide +kernel
theorem dX12_forceBy_89 : decode cX12_forceBy 89 = .ok (.lload_n 3, 1) := by decide +kernel
theorem dX12_forceBy_90 : decode cX12_forceBy 90 = .ok (.lload_n 3, 1) := by decide +kernel
theorem dX12_forceBy_91 : decode cX12_forceBy 91 = .ok (.lmul, 1) := by decide +kernel
theorem dX12_forceBy_92 : decode cX12_forceBy 92 = .ok (.lload 5, 2) := by decide +kernel
theorem dX12_forceBy_94 : decode cX12_forceBy 94 = .ok (.lload 5, 2) := by decide +kernel
theorem dX12_forceBy_96 : decode cX12_forceBy 96 = .ok (.lmul, 1) := by decide +kernel
theorem dX12_forceBy_97 : decode cX12_forceBy 97 = .ok (.ladd, 1) := by decide +kernel
theorem dX12_forceBy_98 : decode cX12_forceBy 98 = .ok (.ldiv, 1) := by decide +kernel
theorem dX12_forceBy_99 : decode cX12_forceBy 99 = .ok (.l2i, 1) := by decide +kernel
theorem dX12_forceBy_100 : decode cX12_forceBy 100 = .ok (.ireturn, 1) := by decide +kernel
theorem dX12_forceOn_0 : decode cX12_forceOn 0 = .ok (.aload_n 0, 1) := by decide +kernel
theorem dX12_forceOn_1 : decode cX12_forceOn 1 = .ok (.iload_n 1, 1) := by decide +kernel
theorem dX12_forceOn_2 : decode cX12_forceOn 2 = .ok (.invokevirtual 269, 3) := by decide +kernel
theorem dX12_forceOn_5 : decode cX12_forceOn 5 = .ok (.istore_n 2, 1) := by decide +kernel
theorem dX12_forceOn_6 : decode cX12_forceOn 6 = .ok (.iload_n 2, 1) := by decide +kernel
theorem dX12_forceOn_7 : decode cX12_forceOn 7 = .ok (.iconst (-1), 1) := by decide +kernel
theorem dX12_forceOn_8 : decode cX12_forceOn 8 = .ok (.if_icmp .ne 5, 3) := by decide +kernel
theorem dX12_forceOn_11 : decode cX12_forceOn 11 = .ok (.iconst 0, 1) := by decide +kernel
theorem dX12_forceOn_12 : decode cX12_forceOn 12 = .ok (.ireturn, 1) := by decide +kernel
theorem dX12_forceOn_13 : decode cX12_forceOn 13 = .ok (.aload_n 0, 1) := by decide +kernel
theorem dX12_forceOn_14 : decode cX12_forceOn 14 = .ok (.getfield 31, 3) := by decide +kernel
theorem dX12_forceOn_17 : decode cX12_forceOn 17 = .ok (.iload_n 2, 1) := by decide +kernel
theorem dX12_forceOn_18 : decode cX12_forceOn 18 = .ok (.ifCond .ne 7, 3) := by decide +kernel
theorem dX12_forceOn_21 : decode cX12_forceOn 21 = .ok (.iconst 0, 1) := by decide +kernel
theorem dX12_forceOn_22 : decode cX12_forceOn 22 = .ok (.goto 4, 3) := by decide +kernel
theorem dX12_forceOn_25 : decode cX12_forceOn 25 = .ok (.iconst 1, 1) := by decide +kernel
theorem dX12_forceOn_26 : decode cX12_forceOn 26 = .ok (.iaload, 1) := by decide +kernel
theorem dX12_forceOn_27 : decode cX12_forceOn 27 = .ok (.aload_n 0, 1) := by decide +kernel
theorem dX12_forceOn_28 : decode cX12_forceOn 28 = .ok (.iload_n 1, 1) := by decide +kernel
theorem dX12_forceOn_29 : decode cX12_forceOn 29 = .ok (.iload_n 2, 1) := by decide +kernel
theorem dX12_forceOn_30 : decode cX12_forceOn 30 = .ok (.invokevirtual 272, 3) := by decide +kernel
theorem dX12_forceOn_33 : decode cX12_forceOn 33 = .ok (.imul, 1) := by decide +kernel
theorem dX12_forceOn_34 : decode cX12_forceOn 34 = .ok (.istore_n 3, 1) := by decide +kernel
theorem dX12_forceOn_35 : decode cX12_forceOn 35 = .ok (.iconst 0, 1) := by decide +kernel
theorem dX12_forceOn_36 : decode cX12_forceOn 36 = .ok (.istore 4, 2) := by decide +kernel
theorem dX12_forceOn_38 : decode cX12_forceOn 38 = .ok (.iload 4, 2) := by decide +kernel
theorem dX12_forceOn_40 : decode cX12_forceOn 40 = .ok (.aload_n 0, 1) := by decide +kernel
theorem dX12_forceOn_41 : decode cX12_forceOn 41 = .ok (.getfield 241, 3) := by decide +kernel
theorem dX12_forceOn_44 : decode cX12_forceOn 44 = .ok (.if_icmp .ge 80, 3) := by decide +kernel
theorem dX12_forceOn_47 : decode cX12_forceOn 47 = .ok (.iload 4, 2) := by decide +kernel
theorem dX12_forceOn_49 : decode cX12_forceOn 49 = .ok (.iload_n 1, 1) := by decide +kernel
theorem dX12_forceOn_50 : decode cX12_forceOn 50 = .ok (.if_icmp .eq 68, 3) := by decide +kernel
theorem dX12_forceOn_53 : decode cX12_forceOn 53 = .ok (.aload_n 0, 1) := by decide +kernel
theorem dX12_forceOn_54 : decode cX12_forceOn 54 = .ok (.iload_n 1, 1) := by decide +kernel
theorem dX12_forceOn_55 : decode cX12_forceOn 55 = .ok (.iload_n 2, 1) := by decide +kernel
theorem dX12_forceOn_56 : decode cX12_forceOn 56 = .ok (.invokevirtual 275, 3) := by decide +kernel
theorem dX12_forceOn_59 : decode cX12_forceOn 59 = .ok (.aload_n 0, 1) := by decide +kernel
theorem dX12_forceOn_60 : decode cX12_forceOn 60 = .ok (.iload 4, 2) := by decide +kernel
theorem dX12_forceOn_62 : decode cX12_forceOn 62 = .ok (.iload_n 2, 1) := by decide +kernel
theorem dX12_forceOn_63 : decode cX12_forceOn 63 = .ok (.invokevirtual 275, 3) := by decide +kernel
theorem dX12_forceOn_66 : decode cX12_forceOn 66 = .ok (.isub, 1) := by decide +kernel
theorem dX12_forceOn_67 : decode cX12_forceOn 67 = .ok (.istore 5, 2) := by decide +kernel
theorem dX12_forceOn_69 : decode cX12_forceOn 69 = .ok (.aload_n 0, 1) := by decide +kernel
theorem dX12_forceOn_70 : decode cX12_forceOn 70 = .ok (.iload_n 1, 1) := by decide +kernel
theorem dX12_forceOn_71 : decode cX12_forceOn 71 = .ok (.iconst 1, 1) := by decide +kernel
theorem dX12_forceOn_72 : decode cX12_forceOn 72 = .ok (.iload_n 2, 1) := by decide +kernel
theorem dX12_forceOn_73 : decode cX12_forceOn 73 = .ok (.isub, 1) := by decide +kernel
theorem dX12_forceOn_74 : decode cX12_forceOn 74 = .ok (.invokevirtual 275, 3) := by decide +kernel
theorem dX12_forceOn_77 : decode cX12_forceOn 77 = .ok (.aload_n 0, 1) := by decide +kernel
theorem dX12_forceOn_78 : decode cX12_forceOn 78 = .ok (.iload 4, 2) := by decide +kernel
theorem dX12_forceOn_80 : decode cX12_forceOn 80 = .ok (.iconst 1, 1) := by decide +kernel
theorem dX12_forceOn_81 : decode cX12_forceOn 81 = .ok (.iload_n 2, 1) := by decide +kernel
theorem dX12_forceOn_82 : decode cX12_forceOn 82 = .ok (.isub, 1) := by decide +kernel
theorem dX12_forceOn_83 : decode cX12_forceOn 83 = .ok (.invokevirtual 275, 3) := by decide +kernel
theorem dX12_forceOn_86 : decode cX12_forceOn 86 = .ok (.isub, 1) := by decide +kernel
theorem dX12_forceOn_87 : decode cX12_forceOn 87 = .ok (.istore 6, 2) := by decide +kernel
theorem dX12_forceOn_89 : decode cX12_forceOn 89 = .ok (.iload_n 3, 1) := by decide +kernel
theorem dX12_forceOn_90 : decode cX12_forceOn 90 = .ok (.aload_n 0, 1) := by decide +kernel
theorem dX12_forceOn_91 : decode cX12_forceOn 91 = .ok (.aload_n 0, 1) := by decide +kernel
theorem dX12_forceOn_92 : decode cX12_forceOn 92 = .ok (.iload_n 1, 1) := by decide +kernel
theorem dX12_forceOn_93 : decode cX12_forceOn 93 = .ok (.iload_n 2, 1) := by decide +kernel
theorem dX12_forceOn_94 : decode cX12_forceOn 94 = .ok (.invokevirtual 272, 3) := by decide +kernel
theorem dX12_forceOn_97 : decode cX12_forceOn 97 = .ok (.i2l, 1) := by decide +kernel
theorem dX12_forceOn_98 : decode cX12_forceOn 98 = .ok (.aload_n 0, 1) := by decide +kernel
theorem dX12_forceOn_99 : decode cX12_forceOn 99 = .ok (.iload 4, 2) := by decide +kernel
theorem dX12_forceOn_101 : decode cX12_forceOn 101 = .ok (.iload_n 2, 1) := by decide +kernel
theorem dX12_forceOn_102 : decode cX12_forceOn 102 = .ok (.invokevirtual 272, 3) := by decide +kernel
theorem dX12_forceOn_105 : decode cX12_forceOn 105 = .ok (.i2l, 1) := by decide +kernel
theorem dX12_forceOn_106 : decode cX12_forceOn 106 = .ok (.lmul, 1) := by decide +kernel
theorem dX12_forceOn_107 : decode cX12_forceOn 107 = .ok (.iload 5, 2) := by decide +kernel
theorem dX12_forceOn_109 : decode cX12_forceOn 109 = .ok (.i2l, 1) := by decide +kernel
theorem dX12_forceOn_110 : decode cX12_forceOn 110 = .ok (.iload 6, 2) := by decide +kernel
theorem dX12_forceOn_112 : decode cX12_forceOn 112 = .ok (.i2l, 1) := by decide +kernel
theorem dX12_forceOn_113 : decode cX12_forceOn 113 = .ok (.invokevirtual 278, 3) := by decide +kernel
theorem dX12_forceOn_116 : decode cX12_forceOn 116 = .ok (.iadd, 1) := by decide +kernel
theorem dX12_forceOn_117 : decode cX12_forceOn 117 = .ok (.istore_n 3, 1) := by decide +kernel
theorem dX12_forceOn_118 : decode cX12_forceOn 118 = .ok (.iinc 4 1, 3) := by decide +kernel
theorem dX12_forceOn_121 : decode cX12_forceOn 121 = .ok (.goto (-83), 3) := by decide +kernel
theorem dX12_forceOn_124 : decode cX12_forceOn 124 = .ok (.iload_n 3, 1) := by decide +kernel
theorem dX12_forceOn_125 : decode cX12_forceOn 125 = .ok (.ireturn, 1) := by decide +kernel
theorem dX12_laysCores_0 : decode cX12_laysCores 0 = .ok (.aload_n 0, 1) := by decide +kernel
theorem dX12_laysCores_1 : decode cX12_laysCores 1 = .ok (.iconst 0, 1) := by decide +kernel
theorem dX12_laysCores_2 : decode cX12_laysCores 2 = .ok (.putfield 241, 3) := by decide +kernel
theorem dX12_laysCores_5 : decode cX12_laysCores 5 = .ok (.iconst 0, 1) := by decide +kernel
theorem dX12_laysCores_6 : decode cX12_laysCores 6 = .ok (.istore_n 1, 1) := by decide +kernel
theorem dX12_laysCores_7 : decode cX12_laysCores 7 = .ok (.iload_n 1, 1) := by decide +kernel
theorem dX12_laysCores_8 : decode cX12_laysCores 8 = .ok (.aload_n 0, 1) := by decide +kernel
theorem dX12_laysCores_9 : decode cX12_laysCores 9 = .ok (.getfield 208, 3) := by decide +kernel
theorem dX12_laysCores_12 : decode cX12_laysCores 12 = .ok (.iconst 1, 1) := by decide +kernel
theorem dX12_laysCores_13 : decode cX12_laysCores 13 = .ok (.isub, 1) := by decide +kernel
theorem dX12_laysCores_14 : decode cX12_laysCores 14 = .ok (.if_icmp .ge 98, 3) := by decide +kernel
theorem dX12_laysCores_17 : decode cX12_laysCores 17 = .ok (.iconst 0, 1) := by decide +kernel
theorem dX12_laysCores_18 : decode cX12_laysCores 18 = .ok (.istore_n 2, 1) := by decide +kernel
theorem dX12_laysCores_19 : decode cX12_laysCores 19 = .ok (.iload_n 2, 1) := by decide +kernel
theorem dX12_laysCores_20 : decode cX12_laysCores 20 = .ok (.aload_n 0, 1) := by decide +kernel
theorem dX12_laysCores_21 : decode cX12_laysCores 21 = .ok (.getfield 205, 3) := by decide +kernel
theorem dX12_laysCores_24 : decode cX12_laysCores 24 = .ok (.iconst 1, 1) := by decide +kernel
theorem dX12_laysCores_25 : decode cX12_laysCores 25 = .ok (.isub, 1) := by decide +kernel
theorem dX12_laysCores_26 : decode cX12_laysCores 26 = .ok (.if_icmp .ge 80, 3) := by decide +kernel
theorem dX12_laysCores_29 : decode cX12_laysCores 29 = .ok (.aload_n 0, 1) := by decide +kernel
theorem dX12_laysCores_30 : decode cX12_laysCores 30 = .ok (.iload_n 2, 1) := by decide +kernel
theorem dX12_laysCores_31 : decode cX12_laysCores 31 = .ok (.iload_n 1, 1) := by decide +kernel
theorem dX12_laysCores_32 : decode cX12_laysCores 32 = .ok (.invokevirtual 244, 3) := by decide +kernel
theorem dX12_laysCores_35 : decode cX12_laysCores 35 = .ok (.ifCond .eq 65, 3) := by decide +kernel
theorem dX12_laysCores_38 : decode cX12_laysCores 38 = .ok (.aload_n 0, 1) := by decide +kernel
theorem dX12_laysCores_39 : decode cX12_laysCores 39 = .ok (.getfield 34, 3) := by decide +kernel
theorem dX12_laysCores_42 : decode cX12_laysCores 42 = .ok (.aload_n 0, 1) := by decide +kernel
theorem dX12_laysCores_43 : decode cX12_laysCores 43 = .ok (.getfield 241, 3) := by decide +kernel
theorem dX12_laysCores_46 : decode cX12_laysCores 46 = .ok (.iload_n 2, 1) := by decide +kernel
theorem dX12_laysCores_47 : decode cX12_laysCores 47 = .ok (.iastore, 1) := by decide +kernel
theorem dX12_laysCores_48 : decode cX12_laysCores 48 = .ok (.aload_n 0, 1) := by decide +kernel
theorem dX12_laysCores_49 : decode cX12_laysCores 49 = .ok (.getfield 37, 3) := by decide +kernel
theorem dX12_laysCores_52 : decode cX12_laysCores 52 = .ok (.aload_n 0, 1) := by decide +kernel
theorem dX12_laysCores_53 : decode cX12_laysCores 53 = .ok (.getfield 241, 3) := by decide +kernel
theorem dX12_laysCores_56 : decode cX12_laysCores 56 = .ok (.iload_n 1, 1) := by decide +kernel
theorem dX12_laysCores_57 : decode cX12_laysCores 57 = .ok (.iastore, 1) := by decide +kernel
theorem dX12_laysCores_58 : decode cX12_laysCores 58 = .ok (.aload_n 0, 1) := by decide +kernel
theorem dX12_laysCores_59 : decode cX12_laysCores 59 = .ok (.getfield 40, 3) := by decide +kernel
theorem dX12_laysCores_62 : decode cX12_laysCores 62 = .ok (.aload_n 0, 1) := by decide +kernel
theorem dX12_laysCores_63 : decode cX12_laysCores 63 = .ok (.getfield 241, 3) := by decide +kernel
theorem dX12_laysCores_66 : decode cX12_laysCores 66 = .ok (.aload_n 0, 1) := by decide +kernel
theorem dX12_laysCores_67 : decode cX12_laysCores 67 = .ok (.iload_n 2, 1) := by decide +kernel
theorem dX12_laysCores_68 : decode cX12_laysCores 68 = .ok (.iload_n 1, 1) := by decide +kernel
theorem dX12_laysCores_69 : decode cX12_laysCores 69 = .ok (.iconst 0, 1) := by decide +kernel
theorem dX12_laysCores_70 : decode cX12_laysCores 70 = .ok (.invokevirtual 221, 3) := by decide +kernel
theorem dX12_laysCores_73 : decode cX12_laysCores 73 = .ok (.iastore, 1) := by decide +kernel
theorem dX12_laysCores_74 : decode cX12_laysCores 74 = .ok (.aload_n 0, 1) := by decide +kernel
theorem dX12_laysCores_75 : decode cX12_laysCores 75 = .ok (.getfield 43, 3) := by decide +kernel
theorem dX12_laysCores_78 : decode cX12_laysCores 78 = .ok (.aload_n 0, 1) := by decide +kernel
theorem dX12_laysCores_79 : decode cX12_laysCores 79 = .ok (.getfield 241, 3) := by decide +kernel
theorem dX12_laysCores_82 : decode cX12_laysCores 82 = .ok (.aload_n 0, 1) := by decide +kernel
theorem dX12_laysCores_83 : decode cX12_laysCores 83 = .ok (.iload_n 2, 1) := by decide +kernel
theorem dX12_laysCores_84 : decode cX12_laysCores 84 = .ok (.iload_n 1, 1) := by decide +kernel
theorem dX12_laysCores_85 : decode cX12_laysCores 85 = .ok (.iconst 1, 1) := by decide +kernel
theorem dX12_laysCores_86 : decode cX12_laysCores 86 = .ok (.invokevirtual 221, 3) := by decide +kernel
theorem dX12_laysCores_89 : decode cX12_laysCores 89 = .ok (.iastore, 1) := by decide +kernel
theorem dX12_laysCores_90 : decode cX12_laysCores 90 = .ok (.aload_n 0, 1) := by decide +kernel
theorem dX12_laysCores_91 : decode cX12_laysCores 91 = .ok (.dup, 1) := by decide +kernel
theorem dX12_laysCores_92 : decode cX12_laysCores 92 = .ok (.getfield 241, 3) := by decide +kernel
theorem dX12_laysCores_95 : decode cX12_laysCores 95 = .ok (.iconst 1, 1) := by decide +kernel
theorem dX12_laysCores_96 : decode cX12_laysCores 96 = .ok (.iadd, 1) := by decide +kernel
theorem dX12_laysCores_97 : decode cX12_laysCores 97 = .ok (.putfield 241, 3) := by decide +kernel
theorem dX12_laysCores_100 : decode cX12_laysCores 100 = .ok (.iinc 2 1, 3) := by decide +kernel
theorem dX12_laysCores_103 : decode cX12_laysCores 103 = .ok (.goto (-84), 3) := by decide +kernel
theorem dX12_laysCores_106 : decode cX12_laysCores 106 = .ok (.iinc 1 1, 3) := by decide +kernel
theorem dX12_laysCores_109 : decode cX12_laysCores 109 = .ok (.goto (-102), 3) := by decide +kernel
theorem dX12_laysCores_112 : decode cX12_laysCores 112 = .ok (.iconst 0, 1) := by decide +kernel
theorem dX12_laysCores_113 : decode cX12_laysCores 113 = .ok (.istore_n 1, 1) := by decide +kernel
theorem dX12_laysCores_114 : decode cX12_laysCores 114 = .ok (.iload_n 1, 1) := by decide +kernel
theorem dX12_laysCores_115 : decode cX12_laysCores 115 = .ok (.aload_n 0, 1) := by decide +kernel
theorem dX12_laysCores_116 : decode cX12_laysCores 116 = .ok (.getfield 241, 3) := by decide +kernel
theorem dX12_laysCores_119 : decode cX12_laysCores 119 = .ok (.if_icmp .ge 20, 3) := by decide +kernel
theorem dX12_laysCores_122 : decode cX12_laysCores 122 = .ok (.aload_n 0, 1) := by decide +kernel
theorem dX12_laysCores_123 : decode cX12_laysCores 123 = .ok (.getfield 46, 3) := by decide +kernel
theorem dX12_laysCores_126 : decode cX12_laysCores 126 = .ok (.iload_n 1, 1) := by decide +kernel
theorem dX12_laysCores_127 : decode cX12_laysCores 127 = .ok (.aload_n 0, 1) := by decide +kernel
theorem dX12_laysCores_128 : decode cX12_laysCores 128 = .ok (.iload_n 1, 1) := by decide +kernel
theorem dX12_laysCores_129 : decode cX12_laysCores 129 = .ok (.invokevirtual 247, 3) := by decide +kernel
theorem dX12_laysCores_132 : decode cX12_laysCores 132 = .ok (.iastore, 1) := by decide +kernel
theorem dX12_laysCores_133 : decode cX12_laysCores 133 = .ok (.iinc 1 1, 3) := by decide +kernel
theorem dX12_laysCores_136 : decode cX12_laysCores 136 = .ok (.goto (-22), 3) := by decide +kernel
theorem dX12_laysCores_139 : decode cX12_laysCores 139 = .ok (.aload_n 0, 1) := by decide +kernel
theorem dX12_laysCores_140 : decode cX12_laysCores 140 = .ok (.getfield 241, 3) := by decide +kernel
theorem dX12_laysCores_143 : decode cX12_laysCores 143 = .ok (.ireturn, 1) := by decide +kernel
theorem dX12_directionOf_0 : decode cX12_directionOf 0 = .ok (.iload_n 0, 1) := by decide +kernel
theorem dX12_directionOf_1 : decode cX12_directionOf 1 = .ok (.ifCond .ne 15, 3) := by decide +kernel
theorem dX12_directionOf_4 : decode cX12_directionOf 4 = .ok (.iload_n 1, 1) := by decide +kernel
theorem dX12_directionOf_5 : decode cX12_directionOf 5 = .ok (.ifCond .eq 7, 3) := by decide +kernel
theorem dX12_directionOf_8 : decode cX12_directionOf 8 = .ok (.iconst 0, 1) := by decide +kernel
theorem dX12_directionOf_9 : decode cX12_directionOf 9 = .ok (.goto 16, 3) := by decide +kernel
theorem dX12_directionOf_12 : decode cX12_directionOf 12 = .ok (.iconst 2, 1) := by decide +kernel
theorem dX12_directionOf_13 : decode cX12_directionOf 13 = .ok (.goto 12, 3) := by decide +kernel
theorem dX12_directionOf_16 : decode cX12_directionOf 16 = .ok (.iload_n 1, 1) := by decide +kernel
theorem dX12_directionOf_17 : decode cX12_directionOf 17 = .ok (.ifCond .eq 7, 3) := by decide +kernel
theorem dX12_directionOf_20 : decode cX12_directionOf 20 = .ok (.iconst 1, 1) := by decide +kernel
theorem dX12_directionOf_21 : decode cX12_directionOf 21 = .ok (.goto 4, 3) := by decide +kernel
theorem dX12_directionOf_24 : decode cX12_directionOf 24 = .ok (.iconst 3, 1) := by decide +kernel
theorem dX12_directionOf_25 : decode cX12_directionOf 25 = .ok (.ireturn, 1) := by decide +kernel
theorem dX12_changes_0 : decode cX12_changes 0 = .ok (.aload_n 0, 1) := by decide +kernel
theorem dX12_changes_1 : decode cX12_changes 1 = .ok (.getfield 28, 3) := by decide +kernel
theorem dX12_changes_4 : decode cX12_changes 4 = .ok (.iload_n 1, 1) := by decide +kernel
theorem dX12_changes_5 : decode cX12_changes 5 = .ok (.iload_n 2, 1) := by decide +kernel
theorem dX12_changes_6 : decode cX12_changes 6 = .ok (.iload_n 3, 1) := by decide +kernel
theorem dX12_changes_7 : decode cX12_changes 7 = .ok (.iconst 0, 1) := by decide +kernel
theorem dX12_changes_8 : decode cX12_changes 8 = .ok (.invokestatic 211, 3) := by decide +kernel
theorem dX12_changes_11 : decode cX12_changes 11 = .ok (.dup2, 1) := by decide +kernel
theorem dX12_changes_12 : decode cX12_changes 12 = .ok (.iaload, 1) := by decide +kernel
theorem dX12_changes_13 : decode cX12_changes 13 = .ok (.iload 4, 2) := by decide +kernel
theorem dX12_changes_15 : decode cX12_changes 15 = .ok (.iadd, 1) := by decide +kernel
theorem dX12_changes_16 : decode cX12_changes 16 = .ok (.iastore, 1) := by decide +kernel
theorem dX12_changes_17 : decode cX12_changes 17 = .ok (.aload_n 0, 1) := by decide +kernel
theorem dX12_changes_18 : decode cX12_changes 18 = .ok (.getfield 28, 3) := by decide +kernel
theorem dX12_changes_21 : decode cX12_changes 21 = .ok (.iload_n 1, 1) := by decide +kernel
theorem dX12_changes_22 : decode cX12_changes 22 = .ok (.iload_n 2, 1) := by decide +kernel
theorem dX12_changes_23 : decode cX12_changes 23 = .ok (.iload_n 3, 1) := by decide +kernel
theorem dX12_changes_24 : decode cX12_changes 24 = .ok (.iconst 1, 1) := by decide +kernel
theorem dX12_changes_25 : decode cX12_changes 25 = .ok (.invokestatic 211, 3) := by decide +kernel
theorem dX12_changes_28 : decode cX12_changes 28 = .ok (.dup2, 1) := by decide +kernel
theorem dX12_changes_29 : decode cX12_changes 29 = .ok (.iaload, 1) := by decide +kernel
theorem dX12_changes_30 : decode cX12_changes 30 = .ok (.iload 5, 2) := by decide +kernel
theorem dX12_changes_32 : decode cX12_changes 32 = .ok (.iadd, 1) := by decide +kernel
theorem dX12_changes_33 : decode cX12_changes 33 = .ok (.iastore, 1) := by decide +kernel
theorem dX12_changes_34 : decode cX12_changes 34 = .ok (.return_, 1) := by decide +kernel
theorem dX12_toX_0 : decode cX12_toX 0 = .ok (.iload_n 1, 1) := by decide +kernel
theorem dX12_toX_1 : decode cX12_toX 1 = .ok (.ifCond .ne 9, 3) := by decide +kernel
theorem dX12_toX_4 : decode cX12_toX 4 = .ok (.iload_n 0, 1) := by decide +kernel
theorem dX12_toX_5 : decode cX12_toX 5 = .ok (.iconst 1, 1) := by decide +kernel
theorem dX12_toX_6 : decode cX12_toX 6 = .ok (.iadd, 1) := by decide +kernel
theorem dX12_toX_7 : decode cX12_toX 7 = .ok (.goto 15, 3) := by decide +kernel
theorem dX12_toX_10 : decode cX12_toX 10 = .ok (.iload_n 1, 1) := by decide +kernel
theorem dX12_toX_11 : decode cX12_toX 11 = .ok (.iconst 2, 1) := by decide +kernel
theorem dX12_toX_12 : decode cX12_toX 12 = .ok (.if_icmp .ne 9, 3) := by decide +kernel
theorem dX12_toX_15 : decode cX12_toX 15 = .ok (.iload_n 0, 1) := by decide +kernel
theorem dX12_toX_16 : decode cX12_toX 16 = .ok (.iconst 1, 1) := by decide +kernel
theorem dX12_toX_17 : decode cX12_toX 17 = .ok (.isub, 1) := by decide +kernel
theorem dX12_toX_18 : decode cX12_toX 18 = .ok (.goto 4, 3) := by decide +kernel
theorem dX12_toX_21 : decode cX12_toX 21 = .ok (.iload_n 0, 1) := by decide +kernel
theorem dX12_toX_22 : decode cX12_toX 22 = .ok (.ireturn, 1) := by decide +kernel
theorem dX12_toY_0 : decode cX12_toY 0 = .ok (.iload_n 1, 1) := by decide +kernel
theorem dX12_toY_1 : decode cX12_toY 1 = .ok (.iconst 1, 1) := by decide +kernel
theorem dX12_toY_2 : decode cX12_toY 2 = .ok (.if_icmp .ne 9, 3) := by decide +kernel
theorem dX12_toY_5 : decode cX12_toY 5 = .ok (.iload_n 0, 1) := by decide +kernel
theorem dX12_toY_6 : decode cX12_toY 6 = .ok (.iconst 1, 1) := by decide +kernel
theorem dX12_toY_7 : decode cX12_toY 7 = .ok (.iadd, 1) := by decide +kernel
theorem dX12_toY_8 : decode cX12_toY 8 = .ok (.goto 15, 3) := by decide +kernel
theorem dX12_toY_11 : decode cX12_toY 11 = .ok (.iload_n 1, 1) := by decide +kernel
theorem dX12_toY_12 : decode cX12_toY 12 = .ok (.iconst 3, 1) := by decide +kernel
theorem dX12_toY_13 : decode cX12_toY 13 = .ok (.if_icmp .ne 9, 3) := by decide +kernel
theorem dX12_toY_16 : decode cX12_toY 16 = .ok (.iload_n 0, 1) := by decide +kernel
theorem dX12_toY_17 : decode cX12_toY 17 = .ok (.iconst 1, 1) := by decide +kernel
theorem dX12_toY_18 : decode cX12_toY 18 = .ok (.isub, 1) := by decide +kernel
theorem dX12_toY_19 : decode cX12_toY 19 = .ok (.goto 4, 3) := by decide +kernel
theorem dX12_toY_22 : decode cX12_toY 22 = .ok (.iload_n 0, 1) := by decide +kernel
theorem dX12_toY_23 : decode cX12_toY 23 = .ok (.ireturn, 1) := by decide +kernel
theorem dX12_isFace_0 : decode cX12_isFace 0 = .ok (.iload_n 1, 1) := by decide +kernel
theorem dX12_isFace_1 : decode cX12_isFace 1 = .ok (.i2l, 1) := by decide +kernel
theorem dX12_isFace_2 : decode cX12_isFace 2 = .ok (.lconst 0, 1) := by decide +kernel
theorem dX12_isFace_3 : decode cX12_isFace 3 = .ok (.aload_n 0, 1) := by decide +kernel
theorem dX12_isFace_4 : decode cX12_isFace 4 = .ok (.getfield 205, 3) := by decide +kernel
theorem dX12_isFace_7 : decode cX12_isFace 7 = .ok (.iconst 2, 1) := by decide +kernel
theorem dX12_isFace_8 : decode cX12_isFace 8 = .ok (.isub, 1) := by decide +kernel
theorem dX12_isFace_9 : decode cX12_isFace 9 = .ok (.i2l, 1) := by decide +kernel
theorem dX12_isFace_10 : decode cX12_isFace 10 = .ok (.invokestatic 97, 3) := by decide +kernel
theorem dX12_isFace_13 : decode cX12_isFace 13 = .ok (.ifCond .eq 23, 3) := by decide +kernel
theorem dX12_isFace_16 : decode cX12_isFace 16 = .ok (.iload_n 2, 1) := by decide +kernel
theorem dX12_isFace_17 : decode cX12_isFace 17 = .ok (.i2l, 1) := by decide +kernel
theorem dX12_isFace_18 : decode cX12_isFace 18 = .ok (.lconst 0, 1) := by decide +kernel
theorem dX12_isFace_19 : decode cX12_isFace 19 = .ok (.aload_n 0, 1) := by decide +kernel
theorem dX12_isFace_20 : decode cX12_isFace 20 = .ok (.getfield 208, 3) := by decide +kernel
theorem dX12_isFace_23 : decode cX12_isFace 23 = .ok (.iconst 2, 1) := by decide +kernel
theorem dX12_isFace_24 : decode cX12_isFace 24 = .ok (.isub, 1) := by decide +kernel
theorem dX12_isFace_25 : decode cX12_isFace 25 = .ok (.i2l, 1) := by decide +kernel
theorem dX12_isFace_26 : decode cX12_isFace 26 = .ok (.invokestatic 97, 3) := by decide +kernel
theorem dX12_isFace_29 : decode cX12_isFace 29 = .ok (.ifCond .eq 7, 3) := by decide +kernel
theorem dX12_isFace_32 : decode cX12_isFace 32 = .ok (.iconst 1, 1) := by decide +kernel
theorem dX12_isFace_33 : decode cX12_isFace 33 = .ok (.goto 4, 3) := by decide +kernel
theorem dX12_isFace_36 : decode cX12_isFace 36 = .ok (.iconst 0, 1) := by decide +kernel
theorem dX12_isFace_37 : decode cX12_isFace 37 = .ok (.ireturn, 1) := by decide +kernel
theorem dX12_moves_0 : decode cX12_moves 0 = .ok (.iload_n 3, 1) := by decide +kernel
theorem dX12_moves_1 : decode cX12_moves 1 = .ok (.tableswitch 75 0 2 #[27, 45, 61], 27) := by decide +kernel
theorem dX12_moves_28 : decode cX12_moves 28 = .ok (.aload_n 0, 1) := by decide +kernel
theorem dX12_moves_29 : decode cX12_moves 29 = .ok (.iload_n 1, 1) := by decide +kernel
theorem dX12_moves_30 : decode cX12_moves 30 = .ok (.iconst 1, 1) := by decide +kernel
theorem dX12_moves_31 : decode cX12_moves 31 = .ok (.iadd, 1) := by decide +kernel
theorem dX12_moves_32 : decode cX12_moves 32 = .ok (.iload_n 2, 1) := by decide +kernel
theorem dX12_moves_33 : decode cX12_moves 33 = .ok (.iconst 1, 1) := by decide +kernel
theorem dX12_moves_34 : decode cX12_moves 34 = .ok (.iload 4, 2) := by decide +kernel
theorem dX12_moves_36 : decode cX12_moves 36 = .ok (.ineg, 1) := by decide +kernel
theorem dX12_moves_37 : decode cX12_moves 37 = .ok (.iload 5, 2) := by decide +kernel
theorem dX12_moves_39 : decode cX12_moves 39 = .ok (.ineg, 1) := by decide +kernel
theorem dX12_moves_40 : decode cX12_moves 40 = .ok (.invokevirtual 225, 3) := by decide +kernel
theorem dX12_moves_43 : decode cX12_moves 43 = .ok (.goto 46, 3) := by decide +kernel
theorem dX12_moves_46 : decode cX12_moves 46 = .ok (.aload_n 0, 1) := by decide +kernel
theorem dX12_moves_47 : decode cX12_moves 47 = .ok (.iload_n 1, 1) := by decide +kernel
theorem dX12_moves_48 : decode cX12_moves 48 = .ok (.iload_n 2, 1) := by decide +kernel
theorem dX12_moves_49 : decode cX12_moves 49 = .ok (.iconst 1, 1) := by decide +kernel
theorem dX12_moves_50 : decode cX12_moves 50 = .ok (.iadd, 1) := by decide +kernel
theorem dX12_moves_51 : decode cX12_moves 51 = .ok (.iconst 0, 1) := by decide +kernel
theorem dX12_moves_52 : decode cX12_moves 52 = .ok (.iload 4, 2) := by decide +kernel
theorem dX12_moves_54 : decode cX12_moves 54 = .ok (.iload 5, 2) := by decide +kernel
theorem dX12_moves_56 : decode cX12_moves 56 = .ok (.invokevirtual 225, 3) := by decide +kernel
theorem dX12_moves_59 : decode cX12_moves 59 = .ok (.goto 30, 3) := by decide +kernel
theorem dX12_moves_62 : decode cX12_moves 62 = .ok (.aload_n 0, 1) := by decide +kernel
theorem dX12_moves_63 : decode cX12_moves 63 = .ok (.iload_n 1, 1) := by decide +kernel
theorem dX12_moves_64 : decode cX12_moves 64 = .ok (.iload_n 2, 1) := by decide +kernel
theorem dX12_moves_65 : decode cX12_moves 65 = .ok (.iconst 1, 1) := by decide +kernel
theorem dX12_moves_66 : decode cX12_moves 66 = .ok (.iload 4, 2) := by decide +kernel
theorem dX12_moves_68 : decode cX12_moves 68 = .ok (.iload 5, 2) := by decide +kernel
theorem dX12_moves_70 : decode cX12_moves 70 = .ok (.invokevirtual 225, 3) := by decide +kernel
theorem dX12_moves_73 : decode cX12_moves 73 = .ok (.goto 16, 3) := by decide +kernel
theorem dX12_moves_76 : decode cX12_moves 76 = .ok (.aload_n 0, 1) := by decide +kernel
theorem dX12_moves_77 : decode cX12_moves 77 = .ok (.iload_n 1, 1) := by decide +kernel
theorem dX12_moves_78 : decode cX12_moves 78 = .ok (.iload_n 2, 1) := by decide +kernel
theorem dX12_moves_79 : decode cX12_moves 79 = .ok (.iconst 0, 1) := by decide +kernel
theorem dX12_moves_80 : decode cX12_moves 80 = .ok (.iload 4, 2) := by decide +kernel
theorem dX12_moves_82 : decode cX12_moves 82 = .ok (.ineg, 1) := by decide +kernel
theorem dX12_moves_83 : decode cX12_moves 83 = .ok (.iload 5, 2) := by decide +kernel
theorem dX12_moves_85 : decode cX12_moves 85 = .ok (.ineg, 1) := by decide +kernel
theorem dX12_moves_86 : decode cX12_moves 86 = .ok (.invokevirtual 225, 3) := by decide +kernel
theorem dX12_moves_89 : decode cX12_moves 89 = .ok (.iload_n 1, 1) := by decide +kernel
theorem dX12_moves_90 : decode cX12_moves 90 = .ok (.iload_n 3, 1) := by decide +kernel
theorem dX12_moves_91 : decode cX12_moves 91 = .ok (.invokestatic 282, 3) := by decide +kernel
theorem dX12_moves_94 : decode cX12_moves 94 = .ok (.istore 6, 2) := by decide +kernel
theorem dX12_moves_96 : decode cX12_moves 96 = .ok (.iload_n 2, 1) := by decide +kernel
theorem dX12_moves_97 : decode cX12_moves 97 = .ok (.iload_n 3, 1) := by decide +kernel
theorem dX12_moves_98 : decode cX12_moves 98 = .ok (.invokestatic 285, 3) := by decide +kernel
theorem dX12_moves_101 : decode cX12_moves 101 = .ok (.istore 7, 2) := by decide +kernel
theorem dX12_moves_103 : decode cX12_moves 103 = .ok (.aload_n 0, 1) := by decide +kernel
theorem dX12_moves_104 : decode cX12_moves 104 = .ok (.iload 6, 2) := by decide +kernel
theorem dX12_moves_106 : decode cX12_moves 106 = .ok (.iload 7, 2) := by decide +kernel
theorem dX12_moves_108 : decode cX12_moves 108 = .ok (.invokevirtual 288, 3) := by decide +kernel
theorem dX12_moves_111 : decode cX12_moves 111 = .ok (.ifCond .ne 7, 3) := by decide +kernel
theorem dX12_moves_114 : decode cX12_moves 114 = .ok (.iconst 3, 1) := by decide +kernel
theorem dX12_moves_115 : decode cX12_moves 115 = .ok (.goto 19, 3) := by decide +kernel
theorem dX12_moves_118 : decode cX12_moves 118 = .ok (.aload_n 0, 1) := by decide +kernel
theorem dX12_moves_119 : decode cX12_moves 119 = .ok (.iload 6, 2) := by decide +kernel
theorem dX12_moves_121 : decode cX12_moves 121 = .ok (.iload 7, 2) := by decide +kernel
theorem dX12_moves_123 : decode cX12_moves 123 = .ok (.invokevirtual 244, 3) := by decide +kernel
theorem dX12_moves_126 : decode cX12_moves 126 = .ok (.ifCond .eq 7, 3) := by decide +kernel
theorem dX12_moves_129 : decode cX12_moves 129 = .ok (.iconst 0, 1) := by decide +kernel
theorem dX12_moves_130 : decode cX12_moves 130 = .ok (.goto 4, 3) := by decide +kernel
theorem dX12_moves_133 : decode cX12_moves 133 = .ok (.iconst 2, 1) := by decide +kernel
theorem dX12_moves_134 : decode cX12_moves 134 = .ok (.ireturn, 1) := by decide +kernel
theorem dX12_round_0 : decode cX12_round 0 = .ok (.aload_n 0, 1) := by decide +kernel
theorem dX12_round_1 : decode cX12_round 1 = .ok (.invokevirtual 238, 3) := by decide +kernel
theorem dX12_round_4 : decode cX12_round 4 = .ok (.pop, 1) := by decide +kernel
theorem dX12_round_5 : decode cX12_round 5 = .ok (.aload_n 0, 1) := by decide +kernel
theorem dX12_round_6 : decode cX12_round 6 = .ok (.getfield 241, 3) := by decide +kernel
theorem dX12_round_9 : decode cX12_round 9 = .ok (.istore_n 1, 1) := by decide +kernel
theorem dX12_round_10 : decode cX12_round 10 = .ok (.iconst 0, 1) := by decide +kernel
theorem dX12_round_11 : decode cX12_round 11 = .ok (.istore_n 2, 1) := by decide +kernel
theorem dX12_round_12 : decode cX12_round 12 = .ok (.iload_n 2, 1) := by decide +kernel
theorem dX12_round_13 : decode cX12_round 13 = .ok (.iload_n 1, 1) := by decide +kernel
theorem dX12_round_14 : decode cX12_round 14 = .ok (.if_icmp .ge 181, 3) := by decide +kernel
theorem dX12_round_17 : decode cX12_round 17 = .ok (.aload_n 0, 1) := by decide +kernel
theorem dX12_round_18 : decode cX12_round 18 = .ok (.getfield 34, 3) := by decide +kernel
theorem dX12_round_21 : decode cX12_round 21 = .ok (.iload_n 2, 1) := by decide +kernel
theorem dX12_round_22 : decode cX12_round 22 = .ok (.iaload, 1) := by decide +kernel
theorem dX12_round_23 : decode cX12_round 23 = .ok (.istore_n 3, 1) := by decide +kernel
theorem dX12_round_24 : decode cX12_round 24 = .ok (.aload_n 0, 1) := by decide +kernel
theorem dX12_round_25 : decode cX12_round 25 = .ok (.getfield 37, 3) := by decide +kernel
theorem dX12_round_28 : decode cX12_round 28 = .ok (.iload_n 2, 1) := by decide +kernel
theorem dX12_round_29 : decode cX12_round 29 = .ok (.iaload, 1) := by decide +kernel
theorem dX12_round_30 : decode cX12_round 30 = .ok (.istore 4, 2) := by decide +kernel
theorem dX12_round_32 : decode cX12_round 32 = .ok (.aload_n 0, 1) := by decide +kernel
theorem dX12_round_33 : decode cX12_round 33 = .ok (.getfield 46, 3) := by decide +kernel
theorem dX12_round_36 : decode cX12_round 36 = .ok (.iload_n 2, 1) := by decide +kernel
theorem dX12_round_37 : decode cX12_round 37 = .ok (.iaload, 1) := by decide +kernel
theorem dX12_round_38 : decode cX12_round 38 = .ok (.invokestatic 370, 3) := by decide +kernel
theorem dX12_round_41 : decode cX12_round 41 = .ok (.aload_n 0, 1) := by decide +kernel
theorem dX12_round_42 : decode cX12_round 42 = .ok (.getfield 31, 3) := by decide +kernel
theorem dX12_round_45 : decode cX12_round 45 = .ok (.iconst 2, 1) := by decide +kernel
theorem dX12_round_46 : decode cX12_round 46 = .ok (.iaload, 1) := by decide +kernel
theorem dX12_round_47 : decode cX12_round 47 = .ok (.if_icmp .le 41, 3) := by decide +kernel
theorem dX12_round_50 : decode cX12_round 50 = .ok (.aload_n 0, 1) := by decide +kernel
theorem dX12_round_51 : decode cX12_round 51 = .ok (.iload_n 3, 1) := by decide +kernel
theorem dX12_round_52 : decode cX12_round 52 = .ok (.iload 4, 2) := by decide +kernel
theorem dX12_round_54 : decode cX12_round 54 = .ok (.iconst 0, 1) := by decide +kernel
theorem dX12_round_55 : decode cX12_round 55 = .ok (.invokevirtual 221, 3) := by decide +kernel
theorem dX12_round_58 : decode cX12_round 58 = .ok (.aload_n 0, 1) := by decide +kernel
theorem dX12_round_59 : decode cX12_round 59 = .ok (.getfield 40, 3) := by decide +kernel
theorem dX12_round_62 : decode cX12_round 62 = .ok (.iload_n 2, 1) := by decide +kernel
theorem dX12_round_63 : decode cX12_round 63 = .ok (.iaload, 1) := by decide +kernel
theorem dX12_round_64 : decode cX12_round 64 = .ok (.if_icmp .ne 24, 3) := by decide +kernel
theorem dX12_round_67 : decode cX12_round 67 = .ok (.aload_n 0, 1) := by decide +kernel
theorem dX12_round_68 : decode cX12_round 68 = .ok (.iload_n 3, 1) := by decide +kernel
theorem dX12_round_69 : decode cX12_round 69 = .ok (.iload 4, 2) := by decide +kernel
theorem dX12_round_71 : decode cX12_round 71 = .ok (.iconst 1, 1) := by decide +kernel
theorem dX12_round_72 : decode cX12_round 72 = .ok (.invokevirtual 221, 3) := by decide +kernel
theorem dX12_round_75 : decode cX12_round 75 = .ok (.aload_n 0, 1) := by decide +kernel
theorem dX12_round_76 : decode cX12_round 76 = .ok (.getfield 43, 3) := by decide +kernel
theorem dX12_round_79 : decode cX12_round 79 = .ok (.iload_n 2, 1) := by decide +kernel
theorem dX12_round_80 : decode cX12_round 80 = .ok (.iaload, 1) := by decide +kernel
theorem dX12_round_81 : decode cX12_round 81 = .ok (.if_icmp .ne 7, 3) := by decide +kernel
theorem dX12_round_84 : decode cX12_round 84 = .ok (.iconst 1, 1) := by decide +kernel
theorem dX12_round_85 : decode cX12_round 85 = .ok (.goto 4, 3) := by decide +kernel
theorem dX12_round_88 : decode cX12_round 88 = .ok (.iconst 0, 1) := by decide +kernel
theorem dX12_round_89 : decode cX12_round 89 = .ok (.istore 5, 2) := by decide +kernel
theorem dX12_round_91 : decode cX12_round 91 = .ok (.iload 5, 2) := by decide +kernel
theorem dX12_round_93 : decode cX12_round 93 = .ok (.ifCond .eq 96, 3) := by decide +kernel
theorem dX12_round_96 : decode cX12_round 96 = .ok (.aload_n 0, 1) := by decide +kernel
theorem dX12_round_97 : decode cX12_round 97 = .ok (.iload_n 3, 1) := by decide +kernel
theorem dX12_round_98 : decode cX12_round 98 = .ok (.iload 4, 2) := by decide +kernel
theorem dX12_round_100 : decode cX12_round 100 = .ok (.aload_n 0, 1) := by decide +kernel
theorem dX12_round_101 : decode cX12_round 101 = .ok (.iload_n 2, 1) := by decide +kernel
theorem dX12_round_102 : decode cX12_round 102 = .ok (.invokevirtual 269, 3) := by decide +kernel
theorem dX12_round_105 : decode cX12_round 105 = .ok (.aload_n 0, 1) := by decide +kernel
theorem dX12_round_106 : decode cX12_round 106 = .ok (.getfield 46, 3) := by decide +kernel
theorem dX12_round_109 : decode cX12_round 109 = .ok (.iload_n 2, 1) := by decide +kernel
theorem dX12_round_110 : decode cX12_round 110 = .ok (.iaload, 1) := by decide +kernel
theorem dX12_round_111 : decode cX12_round 111 = .ok (.ifCond .le 7, 3) := by decide +kernel
theorem dX12_round_114 : decode cX12_round 114 = .ok (.iconst 1, 1) := by decide +kernel
theorem dX12_round_115 : decode cX12_round 115 = .ok (.goto 4, 3) := by decide +kernel
theorem dX12_round_118 : decode cX12_round 118 = .ok (.iconst 0, 1) := by decide +kernel
theorem dX12_round_119 : decode cX12_round 119 = .ok (.invokestatic 372, 3) := by decide +kernel
theorem dX12_round_122 : decode cX12_round 122 = .ok (.aload_n 0, 1) := by decide +kernel
theorem dX12_round_123 : decode cX12_round 123 = .ok (.getfield 40, 3) := by decide +kernel
theorem dX12_round_126 : decode cX12_round 126 = .ok (.iload_n 2, 1) := by decide +kernel
theorem dX12_round_127 : decode cX12_round 127 = .ok (.iaload, 1) := by decide +kernel
theorem dX12_round_128 : decode cX12_round 128 = .ok (.aload_n 0, 1) := by decide +kernel
theorem dX12_round_129 : decode cX12_round 129 = .ok (.getfield 43, 3) := by decide +kernel
theorem dX12_round_132 : decode cX12_round 132 = .ok (.iload_n 2, 1) := by decide +kernel
theorem dX12_round_133 : decode cX12_round 133 = .ok (.iaload, 1) := by decide +kernel
theorem dX12_round_134 : decode cX12_round 134 = .ok (.invokevirtual 367, 3) := by decide +kernel
theorem dX12_round_137 : decode cX12_round 137 = .ok (.istore 6, 2) := by decide +kernel
theorem dX12_round_139 : decode cX12_round 139 = .ok (.aload_n 0, 1) := by decide +kernel
theorem dX12_round_140 : decode cX12_round 140 = .ok (.dup, 1) := by decide +kernel
theorem dX12_round_141 : decode cX12_round 141 = .ok (.getfield 376, 3) := by decide +kernel
theorem dX12_round_144 : decode cX12_round 144 = .ok (.iconst 1, 1) := by decide +kernel
theorem dX12_round_145 : decode cX12_round 145 = .ok (.iadd, 1) := by decide +kernel
theorem dX12_round_146 : decode cX12_round 146 = .ok (.putfield 376, 3) := by decide +kernel
theorem dX12_round_149 : decode cX12_round 149 = .ok (.aload_n 0, 1) := by decide +kernel
theorem dX12_round_150 : decode cX12_round 150 = .ok (.dup, 1) := by decide +kernel
theorem dX12_round_151 : decode cX12_round 151 = .ok (.getfield 379, 3) := by decide +kernel
theorem dX12_round_154 : decode cX12_round 154 = .ok (.iload 6, 2) := by decide +kernel
theorem dX12_round_156 : decode cX12_round 156 = .ok (.iconst 2, 1) := by decide +kernel
theorem dX12_round_157 : decode cX12_round 157 = .ok (.if_icmp .ne 7, 3) := by decide +kernel
theorem dX12_round_160 : decode cX12_round 160 = .ok (.iconst 1, 1) := by decide +kernel
theorem dX12_round_161 : decode cX12_round 161 = .ok (.goto 4, 3) := by decide +kernel
theorem dX12_round_164 : decode cX12_round 164 = .ok (.iconst 0, 1) := by decide +kernel
theorem dX12_round_165 : decode cX12_round 165 = .ok (.iadd, 1) := by decide +kernel
theorem dX12_round_166 : decode cX12_round 166 = .ok (.putfield 379, 3) := by decide +kernel
theorem dX12_round_169 : decode cX12_round 169 = .ok (.aload_n 0, 1) := by decide +kernel
theorem dX12_round_170 : decode cX12_round 170 = .ok (.dup, 1) := by decide +kernel
theorem dX12_round_171 : decode cX12_round 171 = .ok (.getfield 382, 3) := by decide +kernel
theorem dX12_round_174 : decode cX12_round 174 = .ok (.iload 6, 2) := by decide +kernel
theorem dX12_round_176 : decode cX12_round 176 = .ok (.iconst 3, 1) := by decide +kernel
theorem dX12_round_177 : decode cX12_round 177 = .ok (.if_icmp .ne 7, 3) := by decide +kernel
theorem dX12_round_180 : decode cX12_round 180 = .ok (.iconst 1, 1) := by decide +kernel
theorem dX12_round_181 : decode cX12_round 181 = .ok (.goto 4, 3) := by decide +kernel
theorem dX12_round_184 : decode cX12_round 184 = .ok (.iconst 0, 1) := by decide +kernel
theorem dX12_round_185 : decode cX12_round 185 = .ok (.iadd, 1) := by decide +kernel
theorem dX12_round_186 : decode cX12_round 186 = .ok (.putfield 382, 3) := by decide +kernel
theorem dX12_round_189 : decode cX12_round 189 = .ok (.iinc 2 1, 3) := by decide +kernel
theorem dX12_round_192 : decode cX12_round 192 = .ok (.goto (-180), 3) := by decide +kernel
theorem dX12_round_195 : decode cX12_round 195 = .ok (.aload_n 0, 1) := by decide +kernel
theorem dX12_round_196 : decode cX12_round 196 = .ok (.getfield 28, 3) := by decide +kernel
theorem dX12_round_199 : decode cX12_round 199 = .ok (.sipush 325, 3) := by decide +kernel
theorem dX12_round_202 : decode cX12_round 202 = .ok (.dup2, 1) := by decide +kernel
theorem dX12_round_203 : decode cX12_round 203 = .ok (.iaload, 1) := by decide +kernel
theorem dX12_round_204 : decode cX12_round 204 = .ok (.iconst 1, 1) := by decide +kernel
theorem dX12_round_205 : decode cX12_round 205 = .ok (.iadd, 1) := by decide +kernel
theorem dX12_round_206 : decode cX12_round 206 = .ok (.iastore, 1) := by decide +kernel
theorem dX12_round_207 : decode cX12_round 207 = .ok (.return_, 1) := by decide +kernel
theorem dX12_squareApart_0 : decode cX12_squareApart 0 = .ok (.aload_n 0, 1) := by decide +kernel
theorem dX12_squareApart_1 : decode cX12_squareApart 1 = .ok (.getfield 34, 3) := by decide +kernel
theorem dX12_squareApart_4 : decode cX12_squareApart 4 = .ok (.iload_n 1, 1) := by decide +kernel
theorem dX12_squareApart_5 : decode cX12_squareApart 5 = .ok (.iaload, 1) := by decide +kernel
theorem dX12_squareApart_6 : decode cX12_squareApart 6 = .ok (.aload_n 0, 1) := by decide +kernel
theorem dX12_squareApart_7 : decode cX12_squareApart 7 = .ok (.getfield 34, 3) := by decide +kernel
theorem dX12_squareApart_10 : decode cX12_squareApart 10 = .ok (.iload_n 2, 1) := by decide +kernel
theorem dX12_squareApart_11 : decode cX12_squareApart 11 = .ok (.iaload, 1) := by decide +kernel
theorem dX12_squareApart_12 : decode cX12_squareApart 12 = .ok (.isub, 1) := by decide +kernel
theorem dX12_squareApart_13 : decode cX12_squareApart 13 = .ok (.istore_n 3, 1) := by decide +kernel
theorem dX12_squareApart_14 : decode cX12_squareApart 14 = .ok (.aload_n 0, 1) := by decide +kernel
theorem dX12_squareApart_15 : decode cX12_squareApart 15 = .ok (.getfield 37, 3) := by decide +kernel
theorem dX12_squareApart_18 : decode cX12_squareApart 18 = .ok (.iload_n 1, 1) := by decide +kernel
theorem dX12_squareApart_19 : decode cX12_squareApart 19 = .ok (.iaload, 1) := by decide +kernel
theorem dX12_squareApart_20 : decode cX12_squareApart 20 = .ok (.aload_n 0, 1) := by decide +kernel
theorem dX12_squareApart_21 : decode cX12_squareApart 21 = .ok (.getfield 37, 3) := by decide +kernel
theorem dX12_squareApart_24 : decode cX12_squareApart 24 = .ok (.iload_n 2, 1) := by decide +kernel
theorem dX12_squareApart_25 : decode cX12_squareApart 25 = .ok (.iaload, 1) := by decide +kernel
theorem dX12_squareApart_26 : decode cX12_squareApart 26 = .ok (.isub, 1) := by decide +kernel
theorem dX12_squareApart_27 : decode cX12_squareApart 27 = .ok (.istore 4, 2) := by decide +kernel
theorem dX12_squareApart_29 : decode cX12_squareApart 29 = .ok (.iload_n 3, 1) := by decide +kernel
theorem dX12_squareApart_30 : decode cX12_squareApart 30 = .ok (.iload_n 3, 1) := by decide +kernel
theorem dX12_squareApart_31 : decode cX12_squareApart 31 = .ok (.imul, 1) := by decide +kernel
theorem dX12_squareApart_32 : decode cX12_squareApart 32 = .ok (.iload 4, 2) := by decide +kernel
theorem dX12_squareApart_34 : decode cX12_squareApart 34 = .ok (.iload 4, 2) := by decide +kernel
theorem dX12_squareApart_36 : decode cX12_squareApart 36 = .ok (.imul, 1) := by decide +kernel
theorem dX12_squareApart_37 : decode cX12_squareApart 37 = .ok (.iadd, 1) := by decide +kernel
theorem dX12_squareApart_38 : decode cX12_squareApart 38 = .ok (.ireturn, 1) := by decide +kernel
theorem dX12_energy_0 : decode cX12_energy 0 = .ok (.iconst 0, 1) := by decide +kernel
theorem dX12_energy_1 : decode cX12_energy 1 = .ok (.istore_n 1, 1) := by decide +kernel
theorem dX12_energy_2 : decode cX12_energy 2 = .ok (.iconst 0, 1) := by decide +kernel
theorem dX12_energy_3 : decode cX12_energy 3 = .ok (.istore_n 2, 1) := by decide +kernel
theorem dX12_energy_4 : decode cX12_energy 4 = .ok (.iload_n 2, 1) := by decide +kernel
theorem dX12_energy_5 : decode cX12_energy 5 = .ok (.aload_n 0, 1) := by decide +kernel
theorem dX12_energy_6 : decode cX12_energy 6 = .ok (.getfield 241, 3) := by decide +kernel
theorem dX12_energy_9 : decode cX12_energy 9 = .ok (.if_icmp .ge 100, 3) := by decide +kernel
theorem dX12_energy_12 : decode cX12_energy 12 = .ok (.iload_n 1, 1) := by decide +kernel
theorem dX12_energy_13 : decode cX12_energy 13 = .ok (.bipush 50, 2) := by decide +kernel
theorem dX12_energy_15 : decode cX12_energy 15 = .ok (.aload_n 0, 1) := by decide +kernel
theorem dX12_energy_16 : decode cX12_energy 16 = .ok (.getfield 40, 3) := by decide +kernel
theorem dX12_energy_19 : decode cX12_energy 19 = .ok (.iload_n 2, 1) := by decide +kernel
theorem dX12_energy_20 : decode cX12_energy 20 = .ok (.iaload, 1) := by decide +kernel
theorem dX12_energy_21 : decode cX12_energy 21 = .ok (.aload_n 0, 1) := by decide +kernel
theorem dX12_energy_22 : decode cX12_energy 22 = .ok (.getfield 40, 3) := by decide +kernel
theorem dX12_energy_25 : decode cX12_energy 25 = .ok (.iload_n 2, 1) := by decide +kernel
theorem dX12_energy_26 : decode cX12_energy 26 = .ok (.iaload, 1) := by decide +kernel
theorem dX12_energy_27 : decode cX12_energy 27 = .ok (.imul, 1) := by decide +kernel
theorem dX12_energy_28 : decode cX12_energy 28 = .ok (.aload_n 0, 1) := by decide +kernel
theorem dX12_energy_29 : decode cX12_energy 29 = .ok (.getfield 43, 3) := by decide +kernel
theorem dX12_energy_32 : decode cX12_energy 32 = .ok (.iload_n 2, 1) := by decide +kernel
theorem dX12_energy_33 : decode cX12_energy 33 = .ok (.iaload, 1) := by decide +kernel
theorem dX12_energy_34 : decode cX12_energy 34 = .ok (.aload_n 0, 1) := by decide +kernel
theorem dX12_energy_35 : decode cX12_energy 35 = .ok (.getfield 43, 3) := by decide +kernel
theorem dX12_energy_38 : decode cX12_energy 38 = .ok (.iload_n 2, 1) := by decide +kernel
theorem dX12_energy_39 : decode cX12_energy 39 = .ok (.iaload, 1) := by decide +kernel
theorem dX12_energy_40 : decode cX12_energy 40 = .ok (.imul, 1) := by decide +kernel
theorem dX12_energy_41 : decode cX12_energy 41 = .ok (.iadd, 1) := by decide +kernel
theorem dX12_energy_42 : decode cX12_energy 42 = .ok (.imul, 1) := by decide +kernel
theorem dX12_energy_43 : decode cX12_energy 43 = .ok (.iadd, 1) := by decide +kernel
theorem dX12_energy_44 : decode cX12_energy 44 = .ok (.istore_n 1, 1) := by decide +kernel
theorem dX12_energy_45 : decode cX12_energy 45 = .ok (.iload_n 2, 1) := by decide +kernel
theorem dX12_energy_46 : decode cX12_energy 46 = .ok (.iconst 1, 1) := by decide +kernel
theorem dX12_energy_47 : decode cX12_energy 47 = .ok (.iadd, 1) := by decide +kernel
theorem dX12_energy_48 : decode cX12_energy 48 = .ok (.istore_n 3, 1) := by decide +kernel
theorem dX12_energy_49 : decode cX12_energy 49 = .ok (.iload_n 3, 1) := by decide +kernel
theorem dX12_energy_50 : decode cX12_energy 50 = .ok (.aload_n 0, 1) := by decide +kernel
theorem dX12_energy_51 : decode cX12_energy 51 = .ok (.getfield 241, 3) := by decide +kernel
theorem dX12_energy_54 : decode cX12_energy 54 = .ok (.if_icmp .ge 49, 3) := by decide +kernel
theorem dX12_energy_57 : decode cX12_energy 57 = .ok (.iload_n 1, 1) := by decide +kernel
theorem dX12_energy_58 : decode cX12_energy 58 = .ok (.bipush 100, 2) := by decide +kernel
theorem dX12_energy_60 : decode cX12_energy 60 = .ok (.aload_n 0, 1) := by decide +kernel
theorem dX12_energy_61 : decode cX12_energy 61 = .ok (.getfield 40, 3) := by decide +kernel
theorem dX12_energy_64 : decode cX12_energy 64 = .ok (.iload_n 2, 1) := by decide +kernel
theorem dX12_energy_65 : decode cX12_energy 65 = .ok (.iaload, 1) := by decide +kernel
theorem dX12_energy_66 : decode cX12_energy 66 = .ok (.aload_n 0, 1) := by decide +kernel
theorem dX12_energy_67 : decode cX12_energy 67 = .ok (.getfield 40, 3) := by decide +kernel
theorem dX12_energy_70 : decode cX12_energy 70 = .ok (.iload_n 3, 1) := by decide +kernel
theorem dX12_energy_71 : decode cX12_energy 71 = .ok (.iaload, 1) := by decide +kernel
theorem dX12_energy_72 : decode cX12_energy 72 = .ok (.imul, 1) := by decide +kernel
theorem dX12_energy_73 : decode cX12_energy 73 = .ok (.aload_n 0, 1) := by decide +kernel
theorem dX12_energy_74 : decode cX12_energy 74 = .ok (.getfield 43, 3) := by decide +kernel
theorem dX12_energy_77 : decode cX12_energy 77 = .ok (.iload_n 2, 1) := by decide +kernel
theorem dX12_energy_78 : decode cX12_energy 78 = .ok (.iaload, 1) := by decide +kernel
theorem dX12_energy_79 : decode cX12_energy 79 = .ok (.aload_n 0, 1) := by decide +kernel
theorem dX12_energy_80 : decode cX12_energy 80 = .ok (.getfield 43, 3) := by decide +kernel
theorem dX12_energy_83 : decode cX12_energy 83 = .ok (.iload_n 3, 1) := by decide +kernel
theorem dX12_energy_84 : decode cX12_energy 84 = .ok (.iaload, 1) := by decide +kernel
theorem dX12_energy_85 : decode cX12_energy 85 = .ok (.imul, 1) := by decide +kernel
theorem dX12_energy_86 : decode cX12_energy 86 = .ok (.iadd, 1) := by decide +kernel
theorem dX12_energy_87 : decode cX12_energy 87 = .ok (.imul, 1) := by decide +kernel
theorem dX12_energy_88 : decode cX12_energy 88 = .ok (.aload_n 0, 1) := by decide +kernel
theorem dX12_energy_89 : decode cX12_energy 89 = .ok (.iload_n 2, 1) := by decide +kernel
theorem dX12_energy_90 : decode cX12_energy 90 = .ok (.iload_n 3, 1) := by decide +kernel
theorem dX12_energy_91 : decode cX12_energy 91 = .ok (.invokevirtual 303, 3) := by decide +kernel
theorem dX12_energy_94 : decode cX12_energy 94 = .ok (.idiv, 1) := by decide +kernel
theorem dX12_energy_95 : decode cX12_energy 95 = .ok (.iadd, 1) := by decide +kernel
theorem dX12_energy_96 : decode cX12_energy 96 = .ok (.istore_n 1, 1) := by decide +kernel
theorem dX12_energy_97 : decode cX12_energy 97 = .ok (.iinc 3 1, 3) := by decide +kernel
theorem dX12_energy_100 : decode cX12_energy 100 = .ok (.goto (-51), 3) := by decide +kernel
theorem dX12_energy_103 : decode cX12_energy 103 = .ok (.iinc 2 1, 3) := by decide +kernel
theorem dX12_energy_106 : decode cX12_energy 106 = .ok (.goto (-102), 3) := by decide +kernel
theorem dX12_energy_109 : decode cX12_energy 109 = .ok (.iload_n 1, 1) := by decide +kernel
theorem dX12_energy_110 : decode cX12_energy 110 = .ok (.ireturn, 1) := by decide +kernel
theorem dX12_isSite_0 : decode cX12_isSite 0 = .ok (.iload_n 1, 1) := by decide +kernel
theorem dX12_isSite_1 : decode cX12_isSite 1 = .ok (.i2l, 1) := by decide +kernel
theorem dX12_isSite_2 : decode cX12_isSite 2 = .ok (.lconst 0, 1) := by decide +kernel
theorem dX12_isSite_3 : decode cX12_isSite 3 = .ok (.aload_n 0, 1) := by decide +kernel
theorem dX12_isSite_4 : decode cX12_isSite 4 = .ok (.getfield 205, 3) := by decide +kernel
theorem dX12_isSite_7 : decode cX12_isSite 7 = .ok (.iconst 1, 1) := by decide +kernel
theorem dX12_isSite_8 : decode cX12_isSite 8 = .ok (.isub, 1) := by decide +kernel
theorem dX12_isSite_9 : decode cX12_isSite 9 = .ok (.i2l, 1) := by decide +kernel
theorem dX12_isSite_10 : decode cX12_isSite 10 = .ok (.invokestatic 97, 3) := by decide +kernel
theorem dX12_isSite_13 : decode cX12_isSite 13 = .ok (.ifCond .eq 23, 3) := by decide +kernel
theorem dX12_isSite_16 : decode cX12_isSite 16 = .ok (.iload_n 2, 1) := by decide +kernel
theorem dX12_isSite_17 : decode cX12_isSite 17 = .ok (.i2l, 1) := by decide +kernel
theorem dX12_isSite_18 : decode cX12_isSite 18 = .ok (.lconst 0, 1) := by decide +kernel
theorem dX12_isSite_19 : decode cX12_isSite 19 = .ok (.aload_n 0, 1) := by decide +kernel
theorem dX12_isSite_20 : decode cX12_isSite 20 = .ok (.getfield 208, 3) := by decide +kernel
theorem dX12_isSite_23 : decode cX12_isSite 23 = .ok (.iconst 1, 1) := by decide +kernel
theorem dX12_isSite_24 : decode cX12_isSite 24 = .ok (.isub, 1) := by decide +kernel
theorem dX12_isSite_25 : decode cX12_isSite 25 = .ok (.i2l, 1) := by decide +kernel
theorem dX12_isSite_26 : decode cX12_isSite 26 = .ok (.invokestatic 97, 3) := by decide +kernel
theorem dX12_isSite_29 : decode cX12_isSite 29 = .ok (.ifCond .eq 7, 3) := by decide +kernel
theorem dX12_isSite_32 : decode cX12_isSite 32 = .ok (.iconst 1, 1) := by decide +kernel
theorem dX12_isSite_33 : decode cX12_isSite 33 = .ok (.goto 4, 3) := by decide +kernel
theorem dX12_isSite_36 : decode cX12_isSite 36 = .ok (.iconst 0, 1) := by decide +kernel
theorem dX12_isSite_37 : decode cX12_isSite 37 = .ok (.ireturn, 1) := by decide +kernel
theorem dX12_isLink_0 : decode cX12_isLink 0 = .ok (.iload_n 3, 1) := by decide +kernel
theorem dX12_isLink_1 : decode cX12_isLink 1 = .ok (.ifCond .eq 30, 3) := by decide +kernel
theorem dX12_isLink_4 : decode cX12_isLink 4 = .ok (.aload_n 0, 1) := by decide +kernel
theorem dX12_isLink_5 : decode cX12_isLink 5 = .ok (.iload_n 1, 1) := by decide +kernel
theorem dX12_isLink_6 : decode cX12_isLink 6 = .ok (.iload_n 2, 1) := by decide +kernel
theorem dX12_isLink_7 : decode cX12_isLink 7 = .ok (.invokevirtual 215, 3) := by decide +kernel
theorem dX12_isLink_10 : decode cX12_isLink 10 = .ok (.ifCond .eq 17, 3) := by decide +kernel
theorem dX12_isLink_13 : decode cX12_isLink 13 = .ok (.iload_n 2, 1) := by decide +kernel
theorem dX12_isLink_14 : decode cX12_isLink 14 = .ok (.aload_n 0, 1) := by decide +kernel
theorem dX12_isLink_15 : decode cX12_isLink 15 = .ok (.getfield 208, 3) := by decide +kernel
theorem dX12_isLink_18 : decode cX12_isLink 18 = .ok (.iconst 1, 1) := by decide +kernel
theorem dX12_isLink_19 : decode cX12_isLink 19 = .ok (.isub, 1) := by decide +kernel
theorem dX12_isLink_20 : decode cX12_isLink 20 = .ok (.if_icmp .ge 7, 3) := by decide +kernel
theorem dX12_isLink_23 : decode cX12_isLink 23 = .ok (.iconst 1, 1) := by decide +kernel
theorem dX12_isLink_24 : decode cX12_isLink 24 = .ok (.goto 31, 3) := by decide +kernel
theorem dX12_isLink_27 : decode cX12_isLink 27 = .ok (.iconst 0, 1) := by decide +kernel
theorem dX12_isLink_28 : decode cX12_isLink 28 = .ok (.goto 27, 3) := by decide +kernel
theorem dX12_isLink_31 : decode cX12_isLink 31 = .ok (.aload_n 0, 1) := by decide +kernel
theorem dX12_isLink_32 : decode cX12_isLink 32 = .ok (.iload_n 1, 1) := by decide +kernel
theorem dX12_isLink_33 : decode cX12_isLink 33 = .ok (.iload_n 2, 1) := by decide +kernel
theorem dX12_isLink_34 : decode cX12_isLink 34 = .ok (.invokevirtual 215, 3) := by decide +kernel
theorem dX12_isLink_37 : decode cX12_isLink 37 = .ok (.ifCond .eq 17, 3) := by decide +kernel
theorem dX12_isLink_40 : decode cX12_isLink 40 = .ok (.iload_n 1, 1) := by decide +kernel
theorem dX12_isLink_41 : decode cX12_isLink 41 = .ok (.aload_n 0, 1) := by decide +kernel
theorem dX12_isLink_42 : decode cX12_isLink 42 = .ok (.getfield 205, 3) := by decide +kernel
theorem dX12_isLink_45 : decode cX12_isLink 45 = .ok (.iconst 1, 1) := by decide +kernel
theorem dX12_isLink_46 : decode cX12_isLink 46 = .ok (.isub, 1) := by decide +kernel
theorem dX12_isLink_47 : decode cX12_isLink 47 = .ok (.if_icmp .ge 7, 3) := by decide +kernel
theorem dX12_isLink_50 : decode cX12_isLink 50 = .ok (.iconst 1, 1) := by decide +kernel
theorem dX12_isLink_51 : decode cX12_isLink 51 = .ok (.goto 4, 3) := by decide +kernel
theorem dX12_isLink_54 : decode cX12_isLink 54 = .ok (.iconst 0, 1) := by decide +kernel
theorem dX12_isLink_55 : decode cX12_isLink 55 = .ok (.ireturn, 1) := by decide +kernel
theorem dX12_isSlipped_0 : decode cX12_isSlipped 0 = .ok (.aload_n 0, 1) := by decide +kernel
theorem dX12_isSlipped_1 : decode cX12_isSlipped 1 = .ok (.iload_n 1, 1) := by decide +kernel
theorem dX12_isSlipped_2 : decode cX12_isSlipped 2 = .ok (.iload_n 2, 1) := by decide +kernel
theorem dX12_isSlipped_3 : decode cX12_isSlipped 3 = .ok (.iload_n 3, 1) := by decide +kernel
theorem dX12_isSlipped_4 : decode cX12_isSlipped 4 = .ok (.iconst 0, 1) := by decide +kernel
theorem dX12_isSlipped_5 : decode cX12_isSlipped 5 = .ok (.invokevirtual 218, 3) := by decide +kernel
theorem dX12_isSlipped_8 : decode cX12_isSlipped 8 = .ok (.iload_n 3, 1) := by decide +kernel
theorem dX12_isSlipped_9 : decode cX12_isSlipped 9 = .ok (.ifCond .eq 7, 3) := by decide +kernel
theorem dX12_isSlipped_12 : decode cX12_isSlipped 12 = .ok (.iconst 0, 1) := by decide +kernel
theorem dX12_isSlipped_13 : decode cX12_isSlipped 13 = .ok (.goto 4, 3) := by decide +kernel
theorem dX12_isSlipped_16 : decode cX12_isSlipped 16 = .ok (.iconst 1, 1) := by decide +kernel
theorem dX12_isSlipped_17 : decode cX12_isSlipped 17 = .ok (.if_icmp .ne 23, 3) := by decide +kernel
theorem dX12_isSlipped_20 : decode cX12_isSlipped 20 = .ok (.aload_n 0, 1) := by decide +kernel
theorem dX12_isSlipped_21 : decode cX12_isSlipped 21 = .ok (.iload_n 1, 1) := by decide +kernel
theorem dX12_isSlipped_22 : decode cX12_isSlipped 22 = .ok (.iload_n 2, 1) := by decide +kernel
theorem dX12_isSlipped_23 : decode cX12_isSlipped 23 = .ok (.iload_n 3, 1) := by decide +kernel
theorem dX12_isSlipped_24 : decode cX12_isSlipped 24 = .ok (.iconst 1, 1) := by decide +kernel
theorem dX12_isSlipped_25 : decode cX12_isSlipped 25 = .ok (.invokevirtual 218, 3) := by decide +kernel
theorem dX12_isSlipped_28 : decode cX12_isSlipped 28 = .ok (.iload_n 3, 1) := by decide +kernel
theorem dX12_isSlipped_29 : decode cX12_isSlipped 29 = .ok (.ifCond .eq 7, 3) := by decide +kernel
theorem dX12_isSlipped_32 : decode cX12_isSlipped 32 = .ok (.iconst 1, 1) := by decide +kernel
theorem dX12_isSlipped_33 : decode cX12_isSlipped 33 = .ok (.goto 4, 3) := by decide +kernel
theorem dX12_isSlipped_36 : decode cX12_isSlipped 36 = .ok (.iconst 0, 1) := by decide +kernel
theorem dX12_isSlipped_37 : decode cX12_isSlipped 37 = .ok (.if_icmp .eq 7, 3) := by decide +kernel
theorem dX12_isSlipped_40 : decode cX12_isSlipped 40 = .ok (.iconst 1, 1) := by decide +kernel
theorem dX12_isSlipped_41 : decode cX12_isSlipped 41 = .ok (.goto 4, 3) := by decide +kernel
theorem dX12_isSlipped_44 : decode cX12_isSlipped 44 = .ok (.iconst 0, 1) := by decide +kernel
theorem dX12_isSlipped_45 : decode cX12_isSlipped 45 = .ok (.ireturn, 1) := by decide +kernel
theorem dX12_isSlippedAt_0 : decode cX12_isSlippedAt 0 = .ok (.iload_n 1, 1) := by decide +kernel
theorem dX12_isSlippedAt_1 : decode cX12_isSlippedAt 1 = .ok (.iconst 2, 1) := by decide +kernel
theorem dX12_isSlippedAt_2 : decode cX12_isSlippedAt 2 = .ok (.idiv, 1) := by decide +kernel
theorem dX12_isSlippedAt_3 : decode cX12_isSlippedAt 3 = .ok (.bipush 9, 2) := by decide +kernel
theorem dX12_isSlippedAt_5 : decode cX12_isSlippedAt 5 = .ok (.irem, 1) := by decide +kernel
theorem dX12_isSlippedAt_6 : decode cX12_isSlippedAt 6 = .ok (.istore_n 2, 1) := by decide +kernel
theorem dX12_isSlippedAt_7 : decode cX12_isSlippedAt 7 = .ok (.iload_n 1, 1) := by decide +kernel
theorem dX12_isSlippedAt_8 : decode cX12_isSlippedAt 8 = .ok (.iconst 2, 1) := by decide +kernel
theorem dX12_isSlippedAt_9 : decode cX12_isSlippedAt 9 = .ok (.idiv, 1) := by decide +kernel
theorem dX12_isSlippedAt_10 : decode cX12_isSlippedAt 10 = .ok (.bipush 9, 2) := by decide +kernel
theorem dX12_isSlippedAt_12 : decode cX12_isSlippedAt 12 = .ok (.idiv, 1) := by decide +kernel
theorem dX12_isSlippedAt_13 : decode cX12_isSlippedAt 13 = .ok (.istore_n 3, 1) := by decide +kernel
theorem dX12_isSlippedAt_14 : decode cX12_isSlippedAt 14 = .ok (.iload_n 1, 1) := by decide +kernel
theorem dX12_isSlippedAt_15 : decode cX12_isSlippedAt 15 = .ok (.iconst 2, 1) := by decide +kernel
theorem dX12_isSlippedAt_16 : decode cX12_isSlippedAt 16 = .ok (.irem, 1) := by decide +kernel
theorem dX12_isSlippedAt_17 : decode cX12_isSlippedAt 17 = .ok (.iconst 1, 1) := by decide +kernel
theorem dX12_isSlippedAt_18 : decode cX12_isSlippedAt 18 = .ok (.if_icmp .ne 7, 3) := by decide +kernel
theorem dX12_isSlippedAt_21 : decode cX12_isSlippedAt 21 = .ok (.iconst 1, 1) := by decide +kernel
theorem dX12_isSlippedAt_22 : decode cX12_isSlippedAt 22 = .ok (.goto 4, 3) := by decide +kernel
theorem dX12_isSlippedAt_25 : decode cX12_isSlippedAt 25 = .ok (.iconst 0, 1) := by decide +kernel
theorem dX12_isSlippedAt_26 : decode cX12_isSlippedAt 26 = .ok (.istore 4, 2) := by decide +kernel
theorem dX12_isSlippedAt_28 : decode cX12_isSlippedAt 28 = .ok (.aload_n 0, 1) := by decide +kernel
theorem dX12_isSlippedAt_29 : decode cX12_isSlippedAt 29 = .ok (.iload_n 2, 1) := by decide +kernel
theorem dX12_isSlippedAt_30 : decode cX12_isSlippedAt 30 = .ok (.iload_n 3, 1) := by decide +kernel
theorem dX12_isSlippedAt_31 : decode cX12_isSlippedAt 31 = .ok (.iload 4, 2) := by decide +kernel
theorem dX12_isSlippedAt_33 : decode cX12_isSlippedAt 33 = .ok (.invokevirtual 296, 3) := by decide +kernel
theorem dX12_isSlippedAt_36 : decode cX12_isSlippedAt 36 = .ok (.ifCond .eq 18, 3) := by decide +kernel
theorem dX12_isSlippedAt_39 : decode cX12_isSlippedAt 39 = .ok (.aload_n 0, 1) := by decide +kernel
theorem dX12_isSlippedAt_40 : decode cX12_isSlippedAt 40 = .ok (.iload_n 2, 1) := by decide +kernel
theorem dX12_isSlippedAt_41 : decode cX12_isSlippedAt 41 = .ok (.iload_n 3, 1) := by decide +kernel
theorem dX12_isSlippedAt_42 : decode cX12_isSlippedAt 42 = .ok (.iload 4, 2) := by decide +kernel
theorem dX12_isSlippedAt_44 : decode cX12_isSlippedAt 44 = .ok (.invokevirtual 300, 3) := by decide +kernel
theorem dX12_isSlippedAt_47 : decode cX12_isSlippedAt 47 = .ok (.ifCond .eq 7, 3) := by decide +kernel
theorem dX12_isSlippedAt_50 : decode cX12_isSlippedAt 50 = .ok (.iconst 1, 1) := by decide +kernel
theorem dX12_isSlippedAt_51 : decode cX12_isSlippedAt 51 = .ok (.goto 4, 3) := by decide +kernel
theorem dX12_isSlippedAt_54 : decode cX12_isSlippedAt 54 = .ok (.iconst 0, 1) := by decide +kernel
theorem dX12_isSlippedAt_55 : decode cX12_isSlippedAt 55 = .ok (.ireturn, 1) := by decide +kernel
theorem dX12_slipped_0 : decode cX12_slipped 0 = .ok (.iconst 0, 1) := by decide +kernel
theorem dX12_slipped_1 : decode cX12_slipped 1 = .ok (.istore_n 1, 1) := by decide +kernel
theorem dX12_slipped_2 : decode cX12_slipped 2 = .ok (.iconst 0, 1) := by decide +kernel
theorem dX12_slipped_3 : decode cX12_slipped 3 = .ok (.istore_n 2, 1) := by decide +kernel
theorem dX12_slipped_4 : decode cX12_slipped 4 = .ok (.iload_n 2, 1) := by decide +kernel
theorem dX12_slipped_5 : decode cX12_slipped 5 = .ok (.sipush 162, 3) := by decide +kernel
theorem dX12_slipped_8 : decode cX12_slipped 8 = .ok (.if_icmp .ge 25, 3) := by decide +kernel
theorem dX12_slipped_11 : decode cX12_slipped 11 = .ok (.iload_n 1, 1) := by decide +kernel
theorem dX12_slipped_12 : decode cX12_slipped 12 = .ok (.aload_n 0, 1) := by decide +kernel
theorem dX12_slipped_13 : decode cX12_slipped 13 = .ok (.iload_n 2, 1) := by decide +kernel
theorem dX12_slipped_14 : decode cX12_slipped 14 = .ok (.invokevirtual 293, 3) := by decide +kernel
theorem dX12_slipped_17 : decode cX12_slipped 17 = .ok (.ifCond .eq 7, 3) := by decide +kernel
theorem dX12_slipped_20 : decode cX12_slipped 20 = .ok (.iconst 1, 1) := by decide +kernel
theorem dX12_slipped_21 : decode cX12_slipped 21 = .ok (.goto 4, 3) := by decide +kernel
theorem dX12_slipped_24 : decode cX12_slipped 24 = .ok (.iconst 0, 1) := by decide +kernel
theorem dX12_slipped_25 : decode cX12_slipped 25 = .ok (.iadd, 1) := by decide +kernel
theorem dX12_slipped_26 : decode cX12_slipped 26 = .ok (.istore_n 1, 1) := by decide +kernel
theorem dX12_slipped_27 : decode cX12_slipped 27 = .ok (.iinc 2 1, 3) := by decide +kernel
theorem dX12_slipped_30 : decode cX12_slipped 30 = .ok (.goto (-26), 3) := by decide +kernel
theorem dX12_slipped_33 : decode cX12_slipped 33 = .ok (.iload_n 1, 1) := by decide +kernel
theorem dX12_slipped_34 : decode cX12_slipped 34 = .ok (.ireturn, 1) := by decide +kernel
theorem dX12_aheadBy_0 : decode cX12_aheadBy 0 = .ok (.aload_n 0, 1) := by decide +kernel
theorem dX12_aheadBy_1 : decode cX12_aheadBy 1 = .ok (.invokevirtual 238, 3) := by decide +kernel
theorem dX12_aheadBy_4 : decode cX12_aheadBy 4 = .ok (.pop, 1) := by decide +kernel
theorem dX12_aheadBy_5 : decode cX12_aheadBy 5 = .ok (.iload_n 1, 1) := by decide +kernel
theorem dX12_aheadBy_6 : decode cX12_aheadBy 6 = .ok (.tableswitch 59 0 4 #[34, 39, 44, 49, 54], 34) := by decide +kernel
theorem dX12_aheadBy_40 : decode cX12_aheadBy 40 = .ok (.aload_n 0, 1) := by decide +kernel
theorem dX12_aheadBy_41 : decode cX12_aheadBy 41 = .ok (.getfield 241, 3) := by decide +kernel
theorem dX12_aheadBy_44 : decode cX12_aheadBy 44 = .ok (.ireturn, 1) := by decide +kernel
theorem dX12_aheadBy_45 : decode cX12_aheadBy 45 = .ok (.aload_n 0, 1) := by decide +kernel
theorem dX12_aheadBy_46 : decode cX12_aheadBy 46 = .ok (.getfield 376, 3) := by decide +kernel
theorem dX12_aheadBy_49 : decode cX12_aheadBy 49 = .ok (.ireturn, 1) := by decide +kernel
theorem dX12_aheadBy_50 : decode cX12_aheadBy 50 = .ok (.aload_n 0, 1) := by decide +kernel
theorem dX12_aheadBy_51 : decode cX12_aheadBy 51 = .ok (.getfield 379, 3) := by decide +kernel
theorem dX12_aheadBy_54 : decode cX12_aheadBy 54 = .ok (.ireturn, 1) := by decide +kernel
theorem dX12_aheadBy_55 : decode cX12_aheadBy 55 = .ok (.aload_n 0, 1) := by decide +kernel
theorem dX12_aheadBy_56 : decode cX12_aheadBy 56 = .ok (.getfield 382, 3) := by decide +kernel
theorem dX12_aheadBy_59 : decode cX12_aheadBy 59 = .ok (.ireturn, 1) := by decide +kernel
theorem dX12_aheadBy_60 : decode cX12_aheadBy 60 = .ok (.aload_n 0, 1) := by decide +kernel
theorem dX12_aheadBy_61 : decode cX12_aheadBy 61 = .ok (.invokevirtual 318, 3) := by decide +kernel
theorem dX12_aheadBy_64 : decode cX12_aheadBy 64 = .ok (.ireturn, 1) := by decide +kernel
theorem dX12_aheadBy_65 : decode cX12_aheadBy 65 = .ok (.aload_n 0, 1) := by decide +kernel
theorem dX12_aheadBy_66 : decode cX12_aheadBy 66 = .ok (.invokevirtual 311, 3) := by decide +kernel
theorem dX12_aheadBy_69 : decode cX12_aheadBy 69 = .ok (.ireturn, 1) := by decide +kernel
theorem dX12_takeBack_0 : decode cX12_takeBack 0 = .ok (.iconst 0, 1) := by decide +kernel
theorem dX12_takeBack_1 : decode cX12_takeBack 1 = .ok (.istore_n 1, 1) := by decide +kernel
theorem dX12_takeBack_2 : decode cX12_takeBack 2 = .ok (.iload_n 1, 1) := by decide +kernel
theorem dX12_takeBack_3 : decode cX12_takeBack 3 = .ok (.sipush 486, 3) := by decide +kernel
theorem dX12_takeBack_6 : decode cX12_takeBack 6 = .ok (.if_icmp .ge 21, 3) := by decide +kernel
theorem dX12_takeBack_9 : decode cX12_takeBack 9 = .ok (.aload_n 0, 1) := by decide +kernel
theorem dX12_takeBack_10 : decode cX12_takeBack 10 = .ok (.getfield 28, 3) := by decide +kernel
theorem dX12_takeBack_13 : decode cX12_takeBack 13 = .ok (.iload_n 1, 1) := by decide +kernel
theorem dX12_takeBack_14 : decode cX12_takeBack 14 = .ok (.aload_n 0, 1) := by decide +kernel
theorem dX12_takeBack_15 : decode cX12_takeBack 15 = .ok (.getfield 80, 3) := by decide +kernel
theorem dX12_takeBack_18 : decode cX12_takeBack 18 = .ok (.iload_n 1, 1) := by decide +kernel
theorem dX12_takeBack_19 : decode cX12_takeBack 19 = .ok (.iaload, 1) := by decide +kernel
theorem dX12_takeBack_20 : decode cX12_takeBack 20 = .ok (.iastore, 1) := by decide +kernel
theorem dX12_takeBack_21 : decode cX12_takeBack 21 = .ok (.iinc 1 1, 3) := by decide +kernel
theorem dX12_takeBack_24 : decode cX12_takeBack 24 = .ok (.goto (-22), 3) := by decide +kernel
theorem dX12_takeBack_27 : decode cX12_takeBack 27 = .ok (.return_, 1) := by decide +kernel
theorem dX12_ahead_0 : decode cX12_ahead 0 = .ok (.aload_n 0, 1) := by decide +kernel
theorem dX12_ahead_1 : decode cX12_ahead 1 = .ok (.iconst 0, 1) := by decide +kernel
theorem dX12_ahead_2 : decode cX12_ahead 2 = .ok (.putfield 86, 3) := by decide +kernel
theorem dX12_ahead_5 : decode cX12_ahead 5 = .ok (.aload_n 0, 1) := by decide +kernel
theorem dX12_ahead_6 : decode cX12_ahead 6 = .ok (.invokevirtual 306, 3) := by decide +kernel
theorem dX12_ahead_9 : decode cX12_ahead 9 = .ok (.ifCond .eq 27, 3) := by decide +kernel
theorem dX12_ahead_12 : decode cX12_ahead 12 = .ok (.iload_n 1, 1) := by decide +kernel
theorem dX12_ahead_13 : decode cX12_ahead 13 = .ok (.i2l, 1) := by decide +kernel
theorem dX12_ahead_14 : decode cX12_ahead 14 = .ok (.lconst 0, 1) := by decide +kernel
theorem dX12_ahead_15 : decode cX12_ahead 15 = .ok (.ldc2_w 385, 3) := by decide +kernel
theorem dX12_ahead_18 : decode cX12_ahead 18 = .ok (.invokestatic 97, 3) := by decide +kernel
theorem dX12_ahead_21 : decode cX12_ahead 21 = .ok (.ifCond .eq 15, 3) := by decide +kernel
theorem dX12_ahead_24 : decode cX12_ahead 24 = .ok (.iload_n 2, 1) := by decide +kernel
theorem dX12_ahead_25 : decode cX12_ahead 25 = .ok (.i2l, 1) := by decide +kernel
theorem dX12_ahead_26 : decode cX12_ahead 26 = .ok (.lconst 0, 1) := by decide +kernel
theorem dX12_ahead_27 : decode cX12_ahead 27 = .ok (.ldc2_w 327, 3) := by decide +kernel
theorem dX12_ahead_30 : decode cX12_ahead 30 = .ok (.invokestatic 97, 3) := by decide +kernel
theorem dX12_ahead_33 : decode cX12_ahead 33 = .ok (.ifCond .ne 7, 3) := by decide +kernel
theorem dX12_ahead_36 : decode cX12_ahead 36 = .ok (.ldc_w 310, 3) := by decide +kernel
theorem dX12_ahead_39 : decode cX12_ahead 39 = .ok (.ireturn, 1) := by decide +kernel
theorem dX12_ahead_40 : decode cX12_ahead 40 = .ok (.aload_n 0, 1) := by decide +kernel
theorem dX12_ahead_41 : decode cX12_ahead 41 = .ok (.invokevirtual 455, 3) := by decide +kernel
theorem dX12_ahead_44 : decode cX12_ahead 44 = .ok (.aload_n 0, 1) := by decide +kernel
theorem dX12_ahead_45 : decode cX12_ahead 45 = .ok (.invokevirtual 387, 3) := by decide +kernel
theorem dX12_ahead_48 : decode cX12_ahead 48 = .ok (.iconst 0, 1) := by decide +kernel
theorem dX12_ahead_49 : decode cX12_ahead 49 = .ok (.istore_n 3, 1) := by decide +kernel
theorem dX12_ahead_50 : decode cX12_ahead 50 = .ok (.iload_n 3, 1) := by decide +kernel
theorem dX12_ahead_51 : decode cX12_ahead 51 = .ok (.iload_n 1, 1) := by decide +kernel
theorem dX12_ahead_52 : decode cX12_ahead 52 = .ok (.if_icmp .ge 13, 3) := by decide +kernel
theorem dX12_ahead_55 : decode cX12_ahead 55 = .ok (.aload_n 0, 1) := by decide +kernel
theorem dX12_ahead_56 : decode cX12_ahead 56 = .ok (.invokevirtual 390, 3) := by decide +kernel
theorem dX12_ahead_59 : decode cX12_ahead 59 = .ok (.iinc 3 1, 3) := by decide +kernel
theorem dX12_ahead_62 : decode cX12_ahead 62 = .ok (.goto (-12), 3) := by decide +kernel
theorem dX12_ahead_65 : decode cX12_ahead 65 = .ok (.aload_n 0, 1) := by decide +kernel
theorem dX12_ahead_66 : decode cX12_ahead 66 = .ok (.iload_n 2, 1) := by decide +kernel
theorem dX12_ahead_67 : decode cX12_ahead 67 = .ok (.invokevirtual 458, 3) := by decide +kernel
theorem dX12_ahead_70 : decode cX12_ahead 70 = .ok (.istore_n 3, 1) := by decide +kernel
theorem dX12_ahead_71 : decode cX12_ahead 71 = .ok (.aload_n 0, 1) := by decide +kernel
theorem dX12_ahead_72 : decode cX12_ahead 72 = .ok (.invokevirtual 461, 3) := by decide +kernel
theorem dX12_ahead_75 : decode cX12_ahead 75 = .ok (.iload_n 3, 1) := by decide +kernel
theorem dX12_ahead_76 : decode cX12_ahead 76 = .ok (.ireturn, 1) := by decide +kernel
theorem dX12_alikeWith_0 : decode cX12_alikeWith 0 = .ok (.iconst 0, 1) := by decide +kernel
theorem dX12_alikeWith_1 : decode cX12_alikeWith 1 = .ok (.istore_n 2, 1) := by decide +kernel
theorem dX12_alikeWith_2 : decode cX12_alikeWith 2 = .ok (.iconst 0, 1) := by decide +kernel
theorem dX12_alikeWith_3 : decode cX12_alikeWith 3 = .ok (.istore_n 3, 1) := by decide +kernel
theorem dX12_alikeWith_4 : decode cX12_alikeWith 4 = .ok (.iload_n 3, 1) := by decide +kernel
theorem dX12_alikeWith_5 : decode cX12_alikeWith 5 = .ok (.aload_n 0, 1) := by decide +kernel
theorem dX12_alikeWith_6 : decode cX12_alikeWith 6 = .ok (.getfield 241, 3) := by decide +kernel
