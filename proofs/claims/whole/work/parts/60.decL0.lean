theorem d_L_0 : decode code 0 = .ok (.new 8, 3) := by decide +kernel
theorem d_L_3 : decode code 3 = .ok (.dup, 1) := by decide +kernel
theorem d_L_4 : decode code 4 = .ok (.aload_n 0, 1) := by decide +kernel
theorem d_L_5 : decode code 5 = .ok (.iconst 0, 1) := by decide +kernel
theorem d_L_6 : decode code 6 = .ok (.invokestatic 57, 3) := by decide +kernel
theorem d_L_9 : decode code 9 = .ok (.invokespecial 63, 3) := by decide +kernel
theorem d_L_12 : decode code 12 = .ok (.astore_n 1, 1) := by decide +kernel
theorem d_L_13 : decode code 13 = .ok (.new 66, 3) := by decide +kernel
theorem d_L_16 : decode code 16 = .ok (.dup, 1) := by decide +kernel
theorem d_L_17 : decode code 17 = .ok (.aload_n 0, 1) := by decide +kernel
theorem d_L_18 : decode code 18 = .ok (.iconst 0, 1) := by decide +kernel
theorem d_L_19 : decode code 19 = .ok (.invokestatic 57, 3) := by decide +kernel
theorem d_L_22 : decode code 22 = .ok (.invokespecial 68, 3) := by decide +kernel
theorem d_L_25 : decode code 25 = .ok (.astore_n 2, 1) := by decide +kernel
theorem d_L_26 : decode code 26 = .ok (.iconst 1, 1) := by decide +kernel
theorem d_L_27 : decode code 27 = .ok (.newarray .long, 2) := by decide +kernel
theorem d_L_29 : decode code 29 = .ok (.astore_n 3, 1) := by decide +kernel
theorem d_L_30 : decode code 30 = .ok (.iconst 1, 1) := by decide +kernel
theorem d_L_31 : decode code 31 = .ok (.istore 4, 2) := by decide +kernel
theorem d_L_33 : decode code 33 = .ok (.iload 4, 2) := by decide +kernel
theorem d_L_35 : decode code 35 = .ok (.aload_n 0, 1) := by decide +kernel
theorem d_L_36 : decode code 36 = .ok (.arraylength, 1) := by decide +kernel
theorem d_L_37 : decode code 37 = .ok (.iconst 5, 1) := by decide +kernel
theorem d_L_38 : decode code 38 = .ok (.isub, 1) := by decide +kernel
theorem d_L_39 : decode code 39 = .ok (.if_icmp .gt 1057, 3) := by decide +kernel
theorem d_L_42 : decode code 42 = .ok (.aload_n 0, 1) := by decide +kernel
theorem d_L_43 : decode code 43 = .ok (.iload 4, 2) := by decide +kernel
theorem d_L_45 : decode code 45 = .ok (.iaload, 1) := by decide +kernel
theorem d_L_46 : decode code 46 = .ok (.bipush 15, 2) := by decide +kernel
theorem d_L_48 : decode code 48 = .ok (.iand, 1) := by decide +kernel
theorem d_L_49 : decode code 49 = .ok (.tableswitch 1041 0 15 #[79, 159, 196, 264, 277, 376, 429, 504, 579, 642, 705, 768, 824, 880, 948, 1016], 79) := by decide +kernel
theorem d_L_128 : decode code 128 = .ok (.aload_n 1, 1) := by decide +kernel
theorem d_L_129 : decode code 129 = .ok (.aload_n 0, 1) := by decide +kernel
theorem d_L_130 : decode code 130 = .ok (.iload 4, 2) := by decide +kernel
theorem d_L_132 : decode code 132 = .ok (.iconst 1, 1) := by decide +kernel
theorem d_L_133 : decode code 133 = .ok (.iadd, 1) := by decide +kernel
theorem d_L_134 : decode code 134 = .ok (.iaload, 1) := by decide +kernel
theorem d_L_135 : decode code 135 = .ok (.aload_n 0, 1) := by decide +kernel
theorem d_L_136 : decode code 136 = .ok (.iload 4, 2) := by decide +kernel
theorem d_L_138 : decode code 138 = .ok (.iconst 2, 1) := by decide +kernel
theorem d_L_139 : decode code 139 = .ok (.iadd, 1) := by decide +kernel
theorem d_L_140 : decode code 140 = .ok (.iaload, 1) := by decide +kernel
theorem d_L_141 : decode code 141 = .ok (.aload_n 0, 1) := by decide +kernel
theorem d_L_142 : decode code 142 = .ok (.iload 4, 2) := by decide +kernel
theorem d_L_144 : decode code 144 = .ok (.iconst 3, 1) := by decide +kernel
theorem d_L_145 : decode code 145 = .ok (.iadd, 1) := by decide +kernel
theorem d_L_146 : decode code 146 = .ok (.iaload, 1) := by decide +kernel
theorem d_L_147 : decode code 147 = .ok (.aload_n 3, 1) := by decide +kernel
theorem d_L_148 : decode code 148 = .ok (.invokestatic 69, 3) := by decide +kernel
theorem d_L_151 : decode code 151 = .ok (.istore 5, 2) := by decide +kernel
theorem d_L_153 : decode code 153 = .ok (.aload_n 2, 1) := by decide +kernel
theorem d_L_154 : decode code 154 = .ok (.aload_n 0, 1) := by decide +kernel
theorem d_L_155 : decode code 155 = .ok (.iload 4, 2) := by decide +kernel
theorem d_L_157 : decode code 157 = .ok (.iconst 1, 1) := by decide +kernel
theorem d_L_158 : decode code 158 = .ok (.iadd, 1) := by decide +kernel
theorem d_L_159 : decode code 159 = .ok (.iaload, 1) := by decide +kernel
theorem d_L_160 : decode code 160 = .ok (.aload_n 0, 1) := by decide +kernel
theorem d_L_161 : decode code 161 = .ok (.iload 4, 2) := by decide +kernel
theorem d_L_163 : decode code 163 = .ok (.iconst 2, 1) := by decide +kernel
theorem d_L_164 : decode code 164 = .ok (.iadd, 1) := by decide +kernel
theorem d_L_165 : decode code 165 = .ok (.iaload, 1) := by decide +kernel
theorem d_L_166 : decode code 166 = .ok (.aload_n 0, 1) := by decide +kernel
theorem d_L_167 : decode code 167 = .ok (.iload 4, 2) := by decide +kernel
theorem d_L_169 : decode code 169 = .ok (.iconst 3, 1) := by decide +kernel
theorem d_L_170 : decode code 170 = .ok (.iadd, 1) := by decide +kernel
theorem d_L_171 : decode code 171 = .ok (.iaload, 1) := by decide +kernel
theorem d_L_172 : decode code 172 = .ok (.invokevirtual 72, 3) := by decide +kernel
theorem d_L_175 : decode code 175 = .ok (.istore 6, 2) := by decide +kernel
theorem d_L_177 : decode code 177 = .ok (.aload_n 2, 1) := by decide +kernel
theorem d_L_178 : decode code 178 = .ok (.invokevirtual 73, 3) := by decide +kernel
theorem d_L_181 : decode code 181 = .ok (.iload 5, 2) := by decide +kernel
theorem d_L_183 : decode code 183 = .ok (.if_icmp .eq 5, 3) := by decide +kernel
theorem d_L_186 : decode code 186 = .ok (.iconst 0, 1) := by decide +kernel
theorem d_L_187 : decode code 187 = .ok (.ireturn, 1) := by decide +kernel
theorem d_L_188 : decode code 188 = .ok (.iload 5, 2) := by decide +kernel
theorem d_L_190 : decode code 190 = .ok (.ifCond .ne 15, 3) := by decide +kernel
theorem d_L_193 : decode code 193 = .ok (.aload_n 3, 1) := by decide +kernel
theorem d_L_194 : decode code 194 = .ok (.iconst 0, 1) := by decide +kernel
theorem d_L_195 : decode code 195 = .ok (.laload, 1) := by decide +kernel
theorem d_L_196 : decode code 196 = .ok (.iload 6, 2) := by decide +kernel
theorem d_L_198 : decode code 198 = .ok (.i2l, 1) := by decide +kernel
theorem d_L_199 : decode code 199 = .ok (.lcmp, 1) := by decide +kernel
theorem d_L_200 : decode code 200 = .ok (.ifCond .eq 5, 3) := by decide +kernel
theorem d_L_203 : decode code 203 = .ok (.iconst 0, 1) := by decide +kernel
theorem d_L_204 : decode code 204 = .ok (.ireturn, 1) := by decide +kernel
theorem d_L_205 : decode code 205 = .ok (.goto 885, 3) := by decide +kernel
theorem d_L_208 : decode code 208 = .ok (.aload_n 1, 1) := by decide +kernel
theorem d_L_209 : decode code 209 = .ok (.aload_n 0, 1) := by decide +kernel
theorem d_L_210 : decode code 210 = .ok (.iload 4, 2) := by decide +kernel
theorem d_L_212 : decode code 212 = .ok (.iconst 1, 1) := by decide +kernel
theorem d_L_213 : decode code 213 = .ok (.iadd, 1) := by decide +kernel
theorem d_L_214 : decode code 214 = .ok (.iaload, 1) := by decide +kernel
theorem d_L_215 : decode code 215 = .ok (.aload_n 0, 1) := by decide +kernel
theorem d_L_216 : decode code 216 = .ok (.iload 4, 2) := by decide +kernel
theorem d_L_218 : decode code 218 = .ok (.iconst 2, 1) := by decide +kernel
theorem d_L_219 : decode code 219 = .ok (.iadd, 1) := by decide +kernel
theorem d_L_220 : decode code 220 = .ok (.iaload, 1) := by decide +kernel
theorem d_L_221 : decode code 221 = .ok (.invokevirtual 77, 3) := by decide +kernel
theorem d_L_224 : decode code 224 = .ok (.aload_n 2, 1) := by decide +kernel
theorem d_L_225 : decode code 225 = .ok (.aload_n 0, 1) := by decide +kernel
theorem d_L_226 : decode code 226 = .ok (.iload 4, 2) := by decide +kernel
theorem d_L_228 : decode code 228 = .ok (.iconst 1, 1) := by decide +kernel
theorem d_L_229 : decode code 229 = .ok (.iadd, 1) := by decide +kernel
theorem d_L_230 : decode code 230 = .ok (.iaload, 1) := by decide +kernel
theorem d_L_231 : decode code 231 = .ok (.aload_n 0, 1) := by decide +kernel
theorem d_L_232 : decode code 232 = .ok (.iload 4, 2) := by decide +kernel
theorem d_L_234 : decode code 234 = .ok (.iconst 2, 1) := by decide +kernel
theorem d_L_235 : decode code 235 = .ok (.iadd, 1) := by decide +kernel
theorem d_L_236 : decode code 236 = .ok (.iaload, 1) := by decide +kernel
theorem d_L_237 : decode code 237 = .ok (.invokevirtual 80, 3) := by decide +kernel
