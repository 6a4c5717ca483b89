theorem d_Mo_lightest_158 : decode b_Mo_lightest 158 = .ok (.lconst 1, 1) := by decide +kernel
theorem d_Mo_lightest_159 : decode b_Mo_lightest 159 = .ok (.iload 4, 2) := by decide +kernel
theorem d_Mo_lightest_161 : decode b_Mo_lightest 161 = .ok (.i2l, 1) := by decide +kernel
theorem d_Mo_lightest_162 : decode b_Mo_lightest 162 = .ok (.ladd, 1) := by decide +kernel
theorem d_Mo_lightest_163 : decode b_Mo_lightest 163 = .ok (.iload 5, 2) := by decide +kernel
theorem d_Mo_lightest_165 : decode b_Mo_lightest 165 = .ok (.i2l, 1) := by decide +kernel
theorem d_Mo_lightest_166 : decode b_Mo_lightest 166 = .ok (.ladd, 1) := by decide +kernel
theorem d_Mo_lightest_167 : decode b_Mo_lightest 167 = .ok (.invokestatic 89, 3) := by decide +kernel
theorem d_Mo_lightest_170 : decode b_Mo_lightest 170 = .ok (.istore 7, 2) := by decide +kernel
theorem d_Mo_lightest_172 : decode b_Mo_lightest 172 = .ok (.iload 7, 2) := by decide +kernel
theorem d_Mo_lightest_174 : decode b_Mo_lightest 174 = .ok (.ifCond .lt 36, 3) := by decide +kernel
theorem d_Mo_lightest_177 : decode b_Mo_lightest 177 = .ok (.aload_n 0, 1) := by decide +kernel
theorem d_Mo_lightest_178 : decode b_Mo_lightest 178 = .ok (.getfield 44, 3) := by decide +kernel
theorem d_Mo_lightest_181 : decode b_Mo_lightest 181 = .ok (.iload 6, 2) := by decide +kernel
theorem d_Mo_lightest_183 : decode b_Mo_lightest 183 = .ok (.iaload, 1) := by decide +kernel
theorem d_Mo_lightest_184 : decode b_Mo_lightest 184 = .ok (.ifCond .lt 15, 3) := by decide +kernel
theorem d_Mo_lightest_187 : decode b_Mo_lightest 187 = .ok (.iload 7, 2) := by decide +kernel
theorem d_Mo_lightest_189 : decode b_Mo_lightest 189 = .ok (.aload_n 0, 1) := by decide +kernel
theorem d_Mo_lightest_190 : decode b_Mo_lightest 190 = .ok (.getfield 44, 3) := by decide +kernel
theorem d_Mo_lightest_193 : decode b_Mo_lightest 193 = .ok (.iload 6, 2) := by decide +kernel
theorem d_Mo_lightest_195 : decode b_Mo_lightest 195 = .ok (.iaload, 1) := by decide +kernel
theorem d_Mo_lightest_196 : decode b_Mo_lightest 196 = .ok (.if_icmp .ge 14, 3) := by decide +kernel
theorem d_Mo_lightest_199 : decode b_Mo_lightest 199 = .ok (.aload_n 0, 1) := by decide +kernel
theorem d_Mo_lightest_200 : decode b_Mo_lightest 200 = .ok (.getfield 44, 3) := by decide +kernel
theorem d_Mo_lightest_203 : decode b_Mo_lightest 203 = .ok (.iload 6, 2) := by decide +kernel
theorem d_Mo_lightest_205 : decode b_Mo_lightest 205 = .ok (.iload 7, 2) := by decide +kernel
theorem d_Mo_lightest_207 : decode b_Mo_lightest 207 = .ok (.iastore, 1) := by decide +kernel
theorem d_Mo_lightest_208 : decode b_Mo_lightest 208 = .ok (.iconst 1, 1) := by decide +kernel
theorem d_Mo_lightest_209 : decode b_Mo_lightest 209 = .ok (.istore_n 2, 1) := by decide +kernel
theorem d_Mo_lightest_210 : decode b_Mo_lightest 210 = .ok (.iinc 3 1, 3) := by decide +kernel
theorem d_Mo_lightest_213 : decode b_Mo_lightest 213 = .ok (.goto (-157), 3) := by decide +kernel
theorem d_Mo_lightest_216 : decode b_Mo_lightest 216 = .ok (.goto (-168), 3) := by decide +kernel
theorem d_Mo_lightest_219 : decode b_Mo_lightest 219 = .ok (.aload_n 0, 1) := by decide +kernel
theorem d_Mo_lightest_220 : decode b_Mo_lightest 220 = .ok (.getfield 44, 3) := by decide +kernel
theorem d_Mo_lightest_223 : decode b_Mo_lightest 223 = .ok (.iload_n 1, 1) := by decide +kernel
theorem d_Mo_lightest_224 : decode b_Mo_lightest 224 = .ok (.iaload, 1) := by decide +kernel
theorem d_Mo_lightest_225 : decode b_Mo_lightest 225 = .ok (.ireturn, 1) := by decide +kernel
abbrev b_Mo_down : ByteArray := prog_10_method_32_code
def y_Mo_down : MethodName := ⟨R_Mo, "down", "(II)I"⟩
theorem k_Mo_down : kV y_Mo_down b_Mo_down 8 (some .int) 2 := ⟨gmem (List.mem_append_right _ (List.mem_of_getElem? (i := 974) (by decide +kernel))) (by decide +kernel), gmem (List.mem_append_left _ (List.mem_of_getElem? (i := 39) (by decide +kernel))) (by decide +kernel), in_Mo, gmem (List.mem_append_right _ (List.mem_of_getElem? (i := 975) (by decide +kernel))) (by decide +kernel), by decide, by decide, by decide +kernel⟩
theorem d_Mo_down_0 : decode b_Mo_down 0 = .ok (.iload_n 2, 1) := by decide +kernel
theorem d_Mo_down_1 : decode b_Mo_down 1 = .ok (.istore_n 3, 1) := by decide +kernel
theorem d_Mo_down_2 : decode b_Mo_down 2 = .ok (.iload_n 1, 1) := by decide +kernel
theorem d_Mo_down_3 : decode b_Mo_down 3 = .ok (.istore 4, 2) := by decide +kernel
theorem d_Mo_down_5 : decode b_Mo_down 5 = .ok (.iconst 0, 1) := by decide +kernel
theorem d_Mo_down_6 : decode b_Mo_down 6 = .ok (.istore 5, 2) := by decide +kernel
theorem d_Mo_down_8 : decode b_Mo_down 8 = .ok (.iload_n 3, 1) := by decide +kernel
theorem d_Mo_down_9 : decode b_Mo_down 9 = .ok (.aload_n 0, 1) := by decide +kernel
theorem d_Mo_down_10 : decode b_Mo_down 10 = .ok (.iload 4, 2) := by decide +kernel
theorem d_Mo_down_12 : decode b_Mo_down 12 = .ok (.invokevirtual 96, 3) := by decide +kernel
theorem d_Mo_down_15 : decode b_Mo_down 15 = .ok (.if_icmp .lt 115, 3) := by decide +kernel
theorem d_Mo_down_18 : decode b_Mo_down 18 = .ok (.iload_n 3, 1) := by decide +kernel
theorem d_Mo_down_19 : decode b_Mo_down 19 = .ok (.aload_n 0, 1) := by decide +kernel
theorem d_Mo_down_20 : decode b_Mo_down 20 = .ok (.iload 4, 2) := by decide +kernel
theorem d_Mo_down_22 : decode b_Mo_down 22 = .ok (.invokevirtual 96, 3) := by decide +kernel
theorem d_Mo_down_25 : decode b_Mo_down 25 = .ok (.isub, 1) := by decide +kernel
theorem d_Mo_down_26 : decode b_Mo_down 26 = .ok (.istore_n 3, 1) := by decide +kernel
theorem d_Mo_down_27 : decode b_Mo_down 27 = .ok (.aload_n 0, 1) := by decide +kernel
theorem d_Mo_down_28 : decode b_Mo_down 28 = .ok (.getfield 62, 3) := by decide +kernel
theorem d_Mo_down_31 : decode b_Mo_down 31 = .ok (.iload 5, 2) := by decide +kernel
theorem d_Mo_down_33 : decode b_Mo_down 33 = .ok (.iload 4, 2) := by decide +kernel
theorem d_Mo_down_35 : decode b_Mo_down 35 = .ok (.iastore, 1) := by decide +kernel
theorem d_Mo_down_36 : decode b_Mo_down 36 = .ok (.iload_n 3, 1) := by decide +kernel
theorem d_Mo_down_37 : decode b_Mo_down 37 = .ok (.aload_n 0, 1) := by decide +kernel
theorem d_Mo_down_38 : decode b_Mo_down 38 = .ok (.getfield 56, 3) := by decide +kernel
theorem d_Mo_down_41 : decode b_Mo_down 41 = .ok (.aload_n 0, 1) := by decide +kernel
theorem d_Mo_down_42 : decode b_Mo_down 42 = .ok (.getfield 16, 3) := by decide +kernel
theorem d_Mo_down_45 : decode b_Mo_down 45 = .ok (.iload 4, 2) := by decide +kernel
theorem d_Mo_down_47 : decode b_Mo_down 47 = .ok (.iaload, 1) := by decide +kernel
theorem d_Mo_down_48 : decode b_Mo_down 48 = .ok (.iaload, 1) := by decide +kernel
theorem d_Mo_down_49 : decode b_Mo_down 49 = .ok (.if_icmp .ge 7, 3) := by decide +kernel
theorem d_Mo_down_52 : decode b_Mo_down 52 = .ok (.iconst 1, 1) := by decide +kernel
theorem d_Mo_down_53 : decode b_Mo_down 53 = .ok (.goto 4, 3) := by decide +kernel
theorem d_Mo_down_56 : decode b_Mo_down 56 = .ok (.iconst 0, 1) := by decide +kernel
theorem d_Mo_down_57 : decode b_Mo_down 57 = .ok (.istore 6, 2) := by decide +kernel
theorem d_Mo_down_59 : decode b_Mo_down 59 = .ok (.aload_n 0, 1) := by decide +kernel
theorem d_Mo_down_60 : decode b_Mo_down 60 = .ok (.getfield 65, 3) := by decide +kernel
theorem d_Mo_down_63 : decode b_Mo_down 63 = .ok (.iload 5, 2) := by decide +kernel
theorem d_Mo_down_65 : decode b_Mo_down 65 = .ok (.iload 6, 2) := by decide +kernel
theorem d_Mo_down_67 : decode b_Mo_down 67 = .ok (.ifCond .eq 7, 3) := by decide +kernel
theorem d_Mo_down_70 : decode b_Mo_down 70 = .ok (.iconst 1, 1) := by decide +kernel
theorem d_Mo_down_71 : decode b_Mo_down 71 = .ok (.goto 4, 3) := by decide +kernel
theorem d_Mo_down_74 : decode b_Mo_down 74 = .ok (.iconst 2, 1) := by decide +kernel
theorem d_Mo_down_75 : decode b_Mo_down 75 = .ok (.iastore, 1) := by decide +kernel
theorem d_Mo_down_76 : decode b_Mo_down 76 = .ok (.iload_n 3, 1) := by decide +kernel
theorem d_Mo_down_77 : decode b_Mo_down 77 = .ok (.iload 6, 2) := by decide +kernel
theorem d_Mo_down_79 : decode b_Mo_down 79 = .ok (.ifCond .eq 7, 3) := by decide +kernel
theorem d_Mo_down_82 : decode b_Mo_down 82 = .ok (.iconst 0, 1) := by decide +kernel
theorem d_Mo_down_83 : decode b_Mo_down 83 = .ok (.goto 15, 3) := by decide +kernel
theorem d_Mo_down_86 : decode b_Mo_down 86 = .ok (.aload_n 0, 1) := by decide +kernel
theorem d_Mo_down_87 : decode b_Mo_down 87 = .ok (.getfield 56, 3) := by decide +kernel
theorem d_Mo_down_90 : decode b_Mo_down 90 = .ok (.aload_n 0, 1) := by decide +kernel
theorem d_Mo_down_91 : decode b_Mo_down 91 = .ok (.getfield 16, 3) := by decide +kernel
theorem d_Mo_down_94 : decode b_Mo_down 94 = .ok (.iload 4, 2) := by decide +kernel
theorem d_Mo_down_96 : decode b_Mo_down 96 = .ok (.iaload, 1) := by decide +kernel
theorem d_Mo_down_97 : decode b_Mo_down 97 = .ok (.iaload, 1) := by decide +kernel
theorem d_Mo_down_98 : decode b_Mo_down 98 = .ok (.isub, 1) := by decide +kernel
theorem d_Mo_down_99 : decode b_Mo_down 99 = .ok (.istore_n 3, 1) := by decide +kernel
theorem d_Mo_down_100 : decode b_Mo_down 100 = .ok (.iload 6, 2) := by decide +kernel
theorem d_Mo_down_102 : decode b_Mo_down 102 = .ok (.ifCond .eq 13, 3) := by decide +kernel
theorem d_Mo_down_105 : decode b_Mo_down 105 = .ok (.aload_n 0, 1) := by decide +kernel
theorem d_Mo_down_106 : decode b_Mo_down 106 = .ok (.getfield 16, 3) := by decide +kernel
theorem d_Mo_down_109 : decode b_Mo_down 109 = .ok (.iload 4, 2) := by decide +kernel
theorem d_Mo_down_111 : decode b_Mo_down 111 = .ok (.iaload, 1) := by decide +kernel
theorem d_Mo_down_112 : decode b_Mo_down 112 = .ok (.goto 10, 3) := by decide +kernel
theorem d_Mo_down_115 : decode b_Mo_down 115 = .ok (.aload_n 0, 1) := by decide +kernel
theorem d_Mo_down_116 : decode b_Mo_down 116 = .ok (.getfield 19, 3) := by decide +kernel
theorem d_Mo_down_119 : decode b_Mo_down 119 = .ok (.iload 4, 2) := by decide +kernel
theorem d_Mo_down_121 : decode b_Mo_down 121 = .ok (.iaload, 1) := by decide +kernel
theorem d_Mo_down_122 : decode b_Mo_down 122 = .ok (.istore 4, 2) := by decide +kernel
theorem d_Mo_down_124 : decode b_Mo_down 124 = .ok (.iinc 5 1, 3) := by decide +kernel
theorem d_Mo_down_127 : decode b_Mo_down 127 = .ok (.goto (-119), 3) := by decide +kernel
theorem d_Mo_down_130 : decode b_Mo_down 130 = .ok (.aload_n 0, 1) := by decide +kernel
theorem d_Mo_down_131 : decode b_Mo_down 131 = .ok (.getfield 62, 3) := by decide +kernel
theorem d_Mo_down_134 : decode b_Mo_down 134 = .ok (.iload 5, 2) := by decide +kernel
theorem d_Mo_down_136 : decode b_Mo_down 136 = .ok (.iconst (-1), 1) := by decide +kernel
theorem d_Mo_down_137 : decode b_Mo_down 137 = .ok (.iastore, 1) := by decide +kernel
theorem d_Mo_down_138 : decode b_Mo_down 138 = .ok (.iconst (-1), 1) := by decide +kernel
theorem d_Mo_down_139 : decode b_Mo_down 139 = .ok (.istore 6, 2) := by decide +kernel
theorem d_Mo_down_141 : decode b_Mo_down 141 = .ok (.iconst 0, 1) := by decide +kernel
theorem d_Mo_down_142 : decode b_Mo_down 142 = .ok (.istore 7, 2) := by decide +kernel
theorem d_Mo_down_144 : decode b_Mo_down 144 = .ok (.iload 7, 2) := by decide +kernel
theorem d_Mo_down_146 : decode b_Mo_down 146 = .ok (.aload_n 0, 1) := by decide +kernel
theorem d_Mo_down_147 : decode b_Mo_down 147 = .ok (.getfield 93, 3) := by decide +kernel
theorem d_Mo_down_150 : decode b_Mo_down 150 = .ok (.if_icmp .ge 42, 3) := by decide +kernel
theorem d_Mo_down_153 : decode b_Mo_down 153 = .ok (.aload_n 0, 1) := by decide +kernel
theorem d_Mo_down_154 : decode b_Mo_down 154 = .ok (.getfield 22, 3) := by decide +kernel
theorem d_Mo_down_157 : decode b_Mo_down 157 = .ok (.iload 7, 2) := by decide +kernel
theorem d_Mo_down_159 : decode b_Mo_down 159 = .ok (.iaload, 1) := by decide +kernel
theorem d_Mo_down_160 : decode b_Mo_down 160 = .ok (.iload 4, 2) := by decide +kernel
theorem d_Mo_down_162 : decode b_Mo_down 162 = .ok (.if_icmp .ne 24, 3) := by decide +kernel
theorem d_Mo_down_165 : decode b_Mo_down 165 = .ok (.iload_n 3, 1) := by decide +kernel
theorem d_Mo_down_166 : decode b_Mo_down 166 = .ok (.ifCond .ne 13, 3) := by decide +kernel
theorem d_Mo_down_169 : decode b_Mo_down 169 = .ok (.iload 6, 2) := by decide +kernel
theorem d_Mo_down_171 : decode b_Mo_down 171 = .ok (.ifCond .ge 8, 3) := by decide +kernel
theorem d_Mo_down_174 : decode b_Mo_down 174 = .ok (.iload 7, 2) := by decide +kernel
theorem d_Mo_down_176 : decode b_Mo_down 176 = .ok (.goto 5, 3) := by decide +kernel
theorem d_Mo_down_179 : decode b_Mo_down 179 = .ok (.iload 6, 2) := by decide +kernel
theorem d_Mo_down_181 : decode b_Mo_down 181 = .ok (.istore 6, 2) := by decide +kernel
theorem d_Mo_down_183 : decode b_Mo_down 183 = .ok (.iinc 3 (-1), 3) := by decide +kernel
theorem d_Mo_down_186 : decode b_Mo_down 186 = .ok (.iinc 7 1, 3) := by decide +kernel
theorem d_Mo_down_189 : decode b_Mo_down 189 = .ok (.goto (-45), 3) := by decide +kernel
theorem d_Mo_down_192 : decode b_Mo_down 192 = .ok (.iload 6, 2) := by decide +kernel
theorem d_Mo_down_194 : decode b_Mo_down 194 = .ok (.ireturn, 1) := by decide +kernel
abbrev b_Mo_depth : ByteArray := prog_10_method_33_code
def y_Mo_depth : MethodName := ⟨R_Mo, "depth", "()I"⟩
theorem k_Mo_depth : kV y_Mo_depth b_Mo_depth 2 (some .int) 0 := ⟨gmem (List.mem_append_right _ (List.mem_of_getElem? (i := 978) (by decide +kernel))) (by decide +kernel), gmem (List.mem_append_left _ (List.mem_of_getElem? (i := 40) (by decide +kernel))) (by decide +kernel), in_Mo, gmem (List.mem_append_right _ (List.mem_of_getElem? (i := 979) (by decide +kernel))) (by decide +kernel), by decide, by decide, by decide +kernel⟩
theorem d_Mo_depth_0 : decode b_Mo_depth 0 = .ok (.iconst 0, 1) := by decide +kernel
theorem d_Mo_depth_1 : decode b_Mo_depth 1 = .ok (.istore_n 1, 1) := by decide +kernel
theorem d_Mo_depth_2 : decode b_Mo_depth 2 = .ok (.aload_n 0, 1) := by decide +kernel
theorem d_Mo_depth_3 : decode b_Mo_depth 3 = .ok (.getfield 62, 3) := by decide +kernel
theorem d_Mo_depth_6 : decode b_Mo_depth 6 = .ok (.iload_n 1, 1) := by decide +kernel
theorem d_Mo_depth_7 : decode b_Mo_depth 7 = .ok (.iaload, 1) := by decide +kernel
theorem d_Mo_depth_8 : decode b_Mo_depth 8 = .ok (.ifCond .lt 9, 3) := by decide +kernel
theorem d_Mo_depth_11 : decode b_Mo_depth 11 = .ok (.iinc 1 1, 3) := by decide +kernel
theorem d_Mo_depth_14 : decode b_Mo_depth 14 = .ok (.goto (-12), 3) := by decide +kernel
theorem d_Mo_depth_17 : decode b_Mo_depth 17 = .ok (.iload_n 1, 1) := by decide +kernel
theorem d_Mo_depth_18 : decode b_Mo_depth 18 = .ok (.ireturn, 1) := by decide +kernel
abbrev b_Mo_step : ByteArray := prog_10_method_34_code
def y_Mo_step : MethodName := ⟨R_Mo, "step", "(II)I"⟩
theorem k_Mo_step : kV y_Mo_step b_Mo_step 9 (some .int) 2 := ⟨gmem (List.mem_append_right _ (List.mem_of_getElem? (i := 969) (by decide +kernel))) (by decide +kernel), gmem (List.mem_append_right _ (List.mem_of_getElem? (i := 970) (by decide +kernel))) (by decide +kernel), in_Mo, gmem (List.mem_append_right _ (List.mem_of_getElem? (i := 971) (by decide +kernel))) (by decide +kernel), by decide, by decide, by decide +kernel⟩
theorem d_Mo_step_0 : decode b_Mo_step 0 = .ok (.aload_n 0, 1) := by decide +kernel
theorem d_Mo_step_1 : decode b_Mo_step 1 = .ok (.aload_n 0, 1) := by decide +kernel
theorem d_Mo_step_2 : decode b_Mo_step 2 = .ok (.iload_n 1, 1) := by decide +kernel
theorem d_Mo_step_3 : decode b_Mo_step 3 = .ok (.invokevirtual 79, 3) := by decide +kernel
theorem d_Mo_step_6 : decode b_Mo_step 6 = .ok (.ifCond .eq 14, 3) := by decide +kernel
theorem d_Mo_step_9 : decode b_Mo_step 9 = .ok (.iload_n 2, 1) := by decide +kernel
theorem d_Mo_step_10 : decode b_Mo_step 10 = .ok (.ifCond .lt 10, 3) := by decide +kernel
theorem d_Mo_step_13 : decode b_Mo_step 13 = .ok (.iload_n 2, 1) := by decide +kernel
theorem d_Mo_step_14 : decode b_Mo_step 14 = .ok (.sipush 999, 3) := by decide +kernel
theorem d_Mo_step_17 : decode b_Mo_step 17 = .ok (.if_icmp .le 7, 3) := by decide +kernel
theorem d_Mo_step_20 : decode b_Mo_step 20 = .ok (.iconst 1, 1) := by decide +kernel
theorem d_Mo_step_21 : decode b_Mo_step 21 = .ok (.goto 4, 3) := by decide +kernel
theorem d_Mo_step_24 : decode b_Mo_step 24 = .ok (.iconst 0, 1) := by decide +kernel
theorem d_Mo_step_25 : decode b_Mo_step 25 = .ok (.putfield 68, 3) := by decide +kernel
theorem d_Mo_step_28 : decode b_Mo_step 28 = .ok (.aload_n 0, 1) := by decide +kernel
theorem d_Mo_step_29 : decode b_Mo_step 29 = .ok (.getfield 68, 3) := by decide +kernel
theorem d_Mo_step_32 : decode b_Mo_step 32 = .ok (.ifCond .le 5, 3) := by decide +kernel
theorem d_Mo_step_35 : decode b_Mo_step 35 = .ok (.iconst 0, 1) := by decide +kernel
theorem d_Mo_step_36 : decode b_Mo_step 36 = .ok (.ireturn, 1) := by decide +kernel
theorem d_Mo_step_37 : decode b_Mo_step 37 = .ok (.aload_n 0, 1) := by decide +kernel
theorem d_Mo_step_38 : decode b_Mo_step 38 = .ok (.iload_n 2, 1) := by decide +kernel
theorem d_Mo_step_39 : decode b_Mo_step 39 = .ok (.aload_n 0, 1) := by decide +kernel
theorem d_Mo_step_40 : decode b_Mo_step 40 = .ok (.iload_n 1, 1) := by decide +kernel
theorem d_Mo_step_41 : decode b_Mo_step 41 = .ok (.invokevirtual 103, 3) := by decide +kernel
theorem d_Mo_step_44 : decode b_Mo_step 44 = .ok (.if_icmp .lt 7, 3) := by decide +kernel
theorem d_Mo_step_47 : decode b_Mo_step 47 = .ok (.iconst 1, 1) := by decide +kernel
theorem d_Mo_step_48 : decode b_Mo_step 48 = .ok (.goto 4, 3) := by decide +kernel
theorem d_Mo_step_51 : decode b_Mo_step 51 = .ok (.iconst 0, 1) := by decide +kernel
theorem d_Mo_step_52 : decode b_Mo_step 52 = .ok (.putfield 68, 3) := by decide +kernel
theorem d_Mo_step_55 : decode b_Mo_step 55 = .ok (.aload_n 0, 1) := by decide +kernel
theorem d_Mo_step_56 : decode b_Mo_step 56 = .ok (.getfield 68, 3) := by decide +kernel
theorem d_Mo_step_59 : decode b_Mo_step 59 = .ok (.ifCond .le 5, 3) := by decide +kernel
theorem d_Mo_step_62 : decode b_Mo_step 62 = .ok (.iconst 0, 1) := by decide +kernel
theorem d_Mo_step_63 : decode b_Mo_step 63 = .ok (.ireturn, 1) := by decide +kernel
theorem d_Mo_step_64 : decode b_Mo_step 64 = .ok (.aload_n 0, 1) := by decide +kernel
theorem d_Mo_step_65 : decode b_Mo_step 65 = .ok (.getfield 25, 3) := by decide +kernel
theorem d_Mo_step_68 : decode b_Mo_step 68 = .ok (.aload_n 0, 1) := by decide +kernel
theorem d_Mo_step_69 : decode b_Mo_step 69 = .ok (.iload_n 1, 1) := by decide +kernel
theorem d_Mo_step_70 : decode b_Mo_step 70 = .ok (.iload_n 2, 1) := by decide +kernel
theorem d_Mo_step_71 : decode b_Mo_step 71 = .ok (.invokevirtual 143, 3) := by decide +kernel
theorem d_Mo_step_74 : decode b_Mo_step 74 = .ok (.iaload, 1) := by decide +kernel
theorem d_Mo_step_75 : decode b_Mo_step 75 = .ok (.istore_n 3, 1) := by decide +kernel
theorem d_Mo_step_76 : decode b_Mo_step 76 = .ok (.aload_n 0, 1) := by decide +kernel
theorem d_Mo_step_77 : decode b_Mo_step 77 = .ok (.invokevirtual 147, 3) := by decide +kernel
theorem d_Mo_step_80 : decode b_Mo_step 80 = .ok (.istore 4, 2) := by decide +kernel
theorem d_Mo_step_82 : decode b_Mo_step 82 = .ok (.iload_n 3, 1) := by decide +kernel
theorem d_Mo_step_83 : decode b_Mo_step 83 = .ok (.istore 5, 2) := by decide +kernel
theorem d_Mo_step_85 : decode b_Mo_step 85 = .ok (.iconst 0, 1) := by decide +kernel
theorem d_Mo_step_86 : decode b_Mo_step 86 = .ok (.istore 6, 2) := by decide +kernel
theorem d_Mo_step_88 : decode b_Mo_step 88 = .ok (.iload 4, 2) := by decide +kernel
theorem d_Mo_step_90 : decode b_Mo_step 90 = .ok (.iconst 1, 1) := by decide +kernel
theorem d_Mo_step_91 : decode b_Mo_step 91 = .ok (.isub, 1) := by decide +kernel
theorem d_Mo_step_92 : decode b_Mo_step 92 = .ok (.istore 7, 2) := by decide +kernel
theorem d_Mo_step_94 : decode b_Mo_step 94 = .ok (.iload 7, 2) := by decide +kernel
theorem d_Mo_step_96 : decode b_Mo_step 96 = .ok (.ifCond .lt 101, 3) := by decide +kernel
theorem d_Mo_step_99 : decode b_Mo_step 99 = .ok (.aload_n 0, 1) := by decide +kernel
theorem d_Mo_step_100 : decode b_Mo_step 100 = .ok (.getfield 62, 3) := by decide +kernel
theorem d_Mo_step_103 : decode b_Mo_step 103 = .ok (.iload 7, 2) := by decide +kernel
theorem d_Mo_step_105 : decode b_Mo_step 105 = .ok (.iaload, 1) := by decide +kernel
theorem d_Mo_step_106 : decode b_Mo_step 106 = .ok (.istore 8, 2) := by decide +kernel
theorem d_Mo_step_108 : decode b_Mo_step 108 = .ok (.iload 6, 2) := by decide +kernel
theorem d_Mo_step_110 : decode b_Mo_step 110 = .ok (.ifCond .le 7, 3) := by decide +kernel
theorem d_Mo_step_113 : decode b_Mo_step 113 = .ok (.iconst (-1), 1) := by decide +kernel
theorem d_Mo_step_114 : decode b_Mo_step 114 = .ok (.goto 60, 3) := by decide +kernel
theorem d_Mo_step_117 : decode b_Mo_step 117 = .ok (.aload_n 0, 1) := by decide +kernel
theorem d_Mo_step_118 : decode b_Mo_step 118 = .ok (.aload_n 0, 1) := by decide +kernel
theorem d_Mo_step_119 : decode b_Mo_step 119 = .ok (.getfield 13, 3) := by decide +kernel
theorem d_Mo_step_122 : decode b_Mo_step 122 = .ok (.iload 8, 2) := by decide +kernel
theorem d_Mo_step_124 : decode b_Mo_step 124 = .ok (.iaload, 1) := by decide +kernel
theorem d_Mo_step_125 : decode b_Mo_step 125 = .ok (.aload_n 0, 1) := by decide +kernel
theorem d_Mo_step_126 : decode b_Mo_step 126 = .ok (.getfield 65, 3) := by decide +kernel
theorem d_Mo_step_129 : decode b_Mo_step 129 = .ok (.iload 7, 2) := by decide +kernel
theorem d_Mo_step_131 : decode b_Mo_step 131 = .ok (.iaload, 1) := by decide +kernel
theorem d_Mo_step_132 : decode b_Mo_step 132 = .ok (.iconst 1, 1) := by decide +kernel
theorem d_Mo_step_133 : decode b_Mo_step 133 = .ok (.if_icmp .ne 8, 3) := by decide +kernel
theorem d_Mo_step_136 : decode b_Mo_step 136 = .ok (.iload 5, 2) := by decide +kernel
theorem d_Mo_step_138 : decode b_Mo_step 138 = .ok (.goto 10, 3) := by decide +kernel
theorem d_Mo_step_141 : decode b_Mo_step 141 = .ok (.aload_n 0, 1) := by decide +kernel
theorem d_Mo_step_142 : decode b_Mo_step 142 = .ok (.getfield 16, 3) := by decide +kernel
theorem d_Mo_step_145 : decode b_Mo_step 145 = .ok (.iload 8, 2) := by decide +kernel
theorem d_Mo_step_147 : decode b_Mo_step 147 = .ok (.iaload, 1) := by decide +kernel
theorem d_Mo_step_148 : decode b_Mo_step 148 = .ok (.aload_n 0, 1) := by decide +kernel
theorem d_Mo_step_149 : decode b_Mo_step 149 = .ok (.getfield 65, 3) := by decide +kernel
theorem d_Mo_step_152 : decode b_Mo_step 152 = .ok (.iload 7, 2) := by decide +kernel
theorem d_Mo_step_154 : decode b_Mo_step 154 = .ok (.iaload, 1) := by decide +kernel
theorem d_Mo_step_155 : decode b_Mo_step 155 = .ok (.iconst 2, 1) := by decide +kernel
theorem d_Mo_step_156 : decode b_Mo_step 156 = .ok (.if_icmp .ne 8, 3) := by decide +kernel
theorem d_Mo_step_159 : decode b_Mo_step 159 = .ok (.iload 5, 2) := by decide +kernel
theorem d_Mo_step_161 : decode b_Mo_step 161 = .ok (.goto 10, 3) := by decide +kernel
theorem d_Mo_step_164 : decode b_Mo_step 164 = .ok (.aload_n 0, 1) := by decide +kernel
theorem d_Mo_step_165 : decode b_Mo_step 165 = .ok (.getfield 19, 3) := by decide +kernel
theorem d_Mo_step_168 : decode b_Mo_step 168 = .ok (.iload 8, 2) := by decide +kernel
theorem d_Mo_step_170 : decode b_Mo_step 170 = .ok (.iaload, 1) := by decide +kernel
theorem d_Mo_step_171 : decode b_Mo_step 171 = .ok (.invokevirtual 75, 3) := by decide +kernel
theorem d_Mo_step_174 : decode b_Mo_step 174 = .ok (.istore 5, 2) := by decide +kernel
theorem d_Mo_step_176 : decode b_Mo_step 176 = .ok (.iload 6, 2) := by decide +kernel
theorem d_Mo_step_178 : decode b_Mo_step 178 = .ok (.iload 5, 2) := by decide +kernel
theorem d_Mo_step_180 : decode b_Mo_step 180 = .ok (.ifCond .ge 7, 3) := by decide +kernel
theorem d_Mo_step_183 : decode b_Mo_step 183 = .ok (.iconst 1, 1) := by decide +kernel
theorem d_Mo_step_184 : decode b_Mo_step 184 = .ok (.goto 4, 3) := by decide +kernel
theorem d_Mo_step_187 : decode b_Mo_step 187 = .ok (.iconst 0, 1) := by decide +kernel
theorem d_Mo_step_188 : decode b_Mo_step 188 = .ok (.iadd, 1) := by decide +kernel
theorem d_Mo_step_189 : decode b_Mo_step 189 = .ok (.istore 6, 2) := by decide +kernel
theorem d_Mo_step_191 : decode b_Mo_step 191 = .ok (.iinc 7 (-1), 3) := by decide +kernel
theorem d_Mo_step_194 : decode b_Mo_step 194 = .ok (.goto (-100), 3) := by decide +kernel
theorem d_Mo_step_197 : decode b_Mo_step 197 = .ok (.aload_n 0, 1) := by decide +kernel
theorem d_Mo_step_198 : decode b_Mo_step 198 = .ok (.aload_n 0, 1) := by decide +kernel
theorem d_Mo_step_199 : decode b_Mo_step 199 = .ok (.getfield 72, 3) := by decide +kernel
theorem d_Mo_step_202 : decode b_Mo_step 202 = .ok (.iload 6, 2) := by decide +kernel
theorem d_Mo_step_204 : decode b_Mo_step 204 = .ok (.iadd, 1) := by decide +kernel
theorem d_Mo_step_205 : decode b_Mo_step 205 = .ok (.bipush 48, 2) := by decide +kernel
theorem d_Mo_step_207 : decode b_Mo_step 207 = .ok (.if_icmp .le 7, 3) := by decide +kernel
theorem d_Mo_step_210 : decode b_Mo_step 210 = .ok (.iconst 2, 1) := by decide +kernel
theorem d_Mo_step_211 : decode b_Mo_step 211 = .ok (.goto 4, 3) := by decide +kernel
theorem d_Mo_step_214 : decode b_Mo_step 214 = .ok (.iconst 0, 1) := by decide +kernel
theorem d_Mo_step_215 : decode b_Mo_step 215 = .ok (.putfield 68, 3) := by decide +kernel
theorem d_Mo_step_218 : decode b_Mo_step 218 = .ok (.aload_n 0, 1) := by decide +kernel
theorem d_Mo_step_219 : decode b_Mo_step 219 = .ok (.getfield 68, 3) := by decide +kernel
theorem d_Mo_step_222 : decode b_Mo_step 222 = .ok (.ifCond .le 5, 3) := by decide +kernel
theorem d_Mo_step_225 : decode b_Mo_step 225 = .ok (.iconst 0, 1) := by decide +kernel
theorem d_Mo_step_226 : decode b_Mo_step 226 = .ok (.ireturn, 1) := by decide +kernel
theorem d_Mo_step_227 : decode b_Mo_step 227 = .ok (.iload_n 3, 1) := by decide +kernel
theorem d_Mo_step_228 : decode b_Mo_step 228 = .ok (.istore 5, 2) := by decide +kernel
theorem d_Mo_step_230 : decode b_Mo_step 230 = .ok (.iload 4, 2) := by decide +kernel
theorem d_Mo_step_232 : decode b_Mo_step 232 = .ok (.iconst 1, 1) := by decide +kernel
theorem d_Mo_step_233 : decode b_Mo_step 233 = .ok (.isub, 1) := by decide +kernel
theorem d_Mo_step_234 : decode b_Mo_step 234 = .ok (.istore 7, 2) := by decide +kernel
theorem d_Mo_step_236 : decode b_Mo_step 236 = .ok (.iload 7, 2) := by decide +kernel
theorem d_Mo_step_238 : decode b_Mo_step 238 = .ok (.ifCond .lt 77, 3) := by decide +kernel
theorem d_Mo_step_241 : decode b_Mo_step 241 = .ok (.aload_n 0, 1) := by decide +kernel
theorem d_Mo_step_242 : decode b_Mo_step 242 = .ok (.getfield 62, 3) := by decide +kernel
theorem d_Mo_step_245 : decode b_Mo_step 245 = .ok (.iload 7, 2) := by decide +kernel
theorem d_Mo_step_247 : decode b_Mo_step 247 = .ok (.iaload, 1) := by decide +kernel
theorem d_Mo_step_248 : decode b_Mo_step 248 = .ok (.istore 8, 2) := by decide +kernel
theorem d_Mo_step_250 : decode b_Mo_step 250 = .ok (.aload_n 0, 1) := by decide +kernel
theorem d_Mo_step_251 : decode b_Mo_step 251 = .ok (.aload_n 0, 1) := by decide +kernel
theorem d_Mo_step_252 : decode b_Mo_step 252 = .ok (.getfield 13, 3) := by decide +kernel
theorem d_Mo_step_255 : decode b_Mo_step 255 = .ok (.iload 8, 2) := by decide +kernel
theorem d_Mo_step_257 : decode b_Mo_step 257 = .ok (.iaload, 1) := by decide +kernel
theorem d_Mo_step_258 : decode b_Mo_step 258 = .ok (.aload_n 0, 1) := by decide +kernel
theorem d_Mo_step_259 : decode b_Mo_step 259 = .ok (.getfield 65, 3) := by decide +kernel
theorem d_Mo_step_262 : decode b_Mo_step 262 = .ok (.iload 7, 2) := by decide +kernel
theorem d_Mo_step_264 : decode b_Mo_step 264 = .ok (.iaload, 1) := by decide +kernel
theorem d_Mo_step_265 : decode b_Mo_step 265 = .ok (.iconst 1, 1) := by decide +kernel
theorem d_Mo_step_266 : decode b_Mo_step 266 = .ok (.if_icmp .ne 8, 3) := by decide +kernel
theorem d_Mo_step_269 : decode b_Mo_step 269 = .ok (.iload 5, 2) := by decide +kernel
theorem d_Mo_step_271 : decode b_Mo_step 271 = .ok (.goto 10, 3) := by decide +kernel
theorem d_Mo_step_274 : decode b_Mo_step 274 = .ok (.aload_n 0, 1) := by decide +kernel
theorem d_Mo_step_275 : decode b_Mo_step 275 = .ok (.getfield 16, 3) := by decide +kernel
theorem d_Mo_step_278 : decode b_Mo_step 278 = .ok (.iload 8, 2) := by decide +kernel
theorem d_Mo_step_280 : decode b_Mo_step 280 = .ok (.iaload, 1) := by decide +kernel
theorem d_Mo_step_281 : decode b_Mo_step 281 = .ok (.aload_n 0, 1) := by decide +kernel
theorem d_Mo_step_282 : decode b_Mo_step 282 = .ok (.getfield 65, 3) := by decide +kernel
theorem d_Mo_step_285 : decode b_Mo_step 285 = .ok (.iload 7, 2) := by decide +kernel
theorem d_Mo_step_287 : decode b_Mo_step 287 = .ok (.iaload, 1) := by decide +kernel
theorem d_Mo_step_288 : decode b_Mo_step 288 = .ok (.iconst 2, 1) := by decide +kernel
theorem d_Mo_step_289 : decode b_Mo_step 289 = .ok (.if_icmp .ne 8, 3) := by decide +kernel
theorem d_Mo_step_292 : decode b_Mo_step 292 = .ok (.iload 5, 2) := by decide +kernel
theorem d_Mo_step_294 : decode b_Mo_step 294 = .ok (.goto 10, 3) := by decide +kernel
theorem d_Mo_step_297 : decode b_Mo_step 297 = .ok (.aload_n 0, 1) := by decide +kernel
theorem d_Mo_step_298 : decode b_Mo_step 298 = .ok (.getfield 19, 3) := by decide +kernel
theorem d_Mo_step_301 : decode b_Mo_step 301 = .ok (.iload 8, 2) := by decide +kernel
theorem d_Mo_step_303 : decode b_Mo_step 303 = .ok (.iaload, 1) := by decide +kernel
theorem d_Mo_step_304 : decode b_Mo_step 304 = .ok (.invokevirtual 83, 3) := by decide +kernel
theorem d_Mo_step_307 : decode b_Mo_step 307 = .ok (.istore 5, 2) := by decide +kernel
theorem d_Mo_step_309 : decode b_Mo_step 309 = .ok (.iinc 7 (-1), 3) := by decide +kernel
theorem d_Mo_step_312 : decode b_Mo_step 312 = .ok (.goto (-76), 3) := by decide +kernel
theorem d_Mo_step_315 : decode b_Mo_step 315 = .ok (.iload 5, 2) := by decide +kernel
theorem d_Mo_step_317 : decode b_Mo_step 317 = .ok (.ireturn, 1) := by decide +kernel
abbrev b_Mo_tally : ByteArray := prog_10_method_36_code
def y_Mo_tally : MethodName := ⟨R_Mo, "tally", "(I)V"⟩
theorem k_Mo_tally : kV y_Mo_tally b_Mo_tally 2 none 1 := ⟨gmem (List.mem_append_right _ (List.mem_of_getElem? (i := 1002) (by decide +kernel))) (by decide +kernel), gmem (List.mem_append_left _ (List.mem_of_getElem? (i := 45) (by decide +kernel))) (by decide +kernel), in_Mo, gmem (List.mem_append_right _ (List.mem_of_getElem? (i := 1003) (by decide +kernel))) (by decide +kernel), by decide, by decide, by decide +kernel⟩
theorem d_Mo_tally_0 : decode b_Mo_tally 0 = .ok (.aload_n 0, 1) := by decide +kernel
theorem d_Mo_tally_1 : decode b_Mo_tally 1 = .ok (.getfield 56, 3) := by decide +kernel
theorem d_Mo_tally_4 : decode b_Mo_tally 4 = .ok (.iload_n 1, 1) := by decide +kernel
theorem d_Mo_tally_5 : decode b_Mo_tally 5 = .ok (.aload_n 0, 1) := by decide +kernel
theorem d_Mo_tally_6 : decode b_Mo_tally 6 = .ok (.iload_n 1, 1) := by decide +kernel
theorem d_Mo_tally_7 : decode b_Mo_tally 7 = .ok (.invokevirtual 96, 3) := by decide +kernel
theorem d_Mo_tally_10 : decode b_Mo_tally 10 = .ok (.i2l, 1) := by decide +kernel
theorem d_Mo_tally_11 : decode b_Mo_tally 11 = .ok (.aload_n 0, 1) := by decide +kernel
theorem d_Mo_tally_12 : decode b_Mo_tally 12 = .ok (.getfield 16, 3) := by decide +kernel
theorem d_Mo_tally_15 : decode b_Mo_tally 15 = .ok (.iload_n 1, 1) := by decide +kernel
theorem d_Mo_tally_16 : decode b_Mo_tally 16 = .ok (.iaload, 1) := by decide +kernel
theorem d_Mo_tally_17 : decode b_Mo_tally 17 = .ok (.ifCond .ge 7, 3) := by decide +kernel
theorem d_Mo_tally_20 : decode b_Mo_tally 20 = .ok (.iconst 0, 1) := by decide +kernel
theorem d_Mo_tally_21 : decode b_Mo_tally 21 = .ok (.goto 14, 3) := by decide +kernel
theorem d_Mo_tally_24 : decode b_Mo_tally 24 = .ok (.aload_n 0, 1) := by decide +kernel
theorem d_Mo_tally_25 : decode b_Mo_tally 25 = .ok (.getfield 56, 3) := by decide +kernel
theorem d_Mo_tally_28 : decode b_Mo_tally 28 = .ok (.aload_n 0, 1) := by decide +kernel
theorem d_Mo_tally_29 : decode b_Mo_tally 29 = .ok (.getfield 16, 3) := by decide +kernel
theorem d_Mo_tally_32 : decode b_Mo_tally 32 = .ok (.iload_n 1, 1) := by decide +kernel
theorem d_Mo_tally_33 : decode b_Mo_tally 33 = .ok (.iaload, 1) := by decide +kernel
theorem d_Mo_tally_34 : decode b_Mo_tally 34 = .ok (.iaload, 1) := by decide +kernel
theorem d_Mo_tally_35 : decode b_Mo_tally 35 = .ok (.i2l, 1) := by decide +kernel
theorem d_Mo_tally_36 : decode b_Mo_tally 36 = .ok (.ladd, 1) := by decide +kernel
theorem d_Mo_tally_37 : decode b_Mo_tally 37 = .ok (.aload_n 0, 1) := by decide +kernel
theorem d_Mo_tally_38 : decode b_Mo_tally 38 = .ok (.getfield 19, 3) := by decide +kernel
theorem d_Mo_tally_41 : decode b_Mo_tally 41 = .ok (.iload_n 1, 1) := by decide +kernel
theorem d_Mo_tally_42 : decode b_Mo_tally 42 = .ok (.iaload, 1) := by decide +kernel
theorem d_Mo_tally_43 : decode b_Mo_tally 43 = .ok (.ifCond .ge 7, 3) := by decide +kernel
theorem d_Mo_tally_46 : decode b_Mo_tally 46 = .ok (.iconst 0, 1) := by decide +kernel
theorem d_Mo_tally_47 : decode b_Mo_tally 47 = .ok (.goto 14, 3) := by decide +kernel
theorem d_Mo_tally_50 : decode b_Mo_tally 50 = .ok (.aload_n 0, 1) := by decide +kernel
theorem d_Mo_tally_51 : decode b_Mo_tally 51 = .ok (.getfield 56, 3) := by decide +kernel
theorem d_Mo_tally_54 : decode b_Mo_tally 54 = .ok (.aload_n 0, 1) := by decide +kernel
theorem d_Mo_tally_55 : decode b_Mo_tally 55 = .ok (.getfield 19, 3) := by decide +kernel
theorem d_Mo_tally_58 : decode b_Mo_tally 58 = .ok (.iload_n 1, 1) := by decide +kernel
theorem d_Mo_tally_59 : decode b_Mo_tally 59 = .ok (.iaload, 1) := by decide +kernel
theorem d_Mo_tally_60 : decode b_Mo_tally 60 = .ok (.iaload, 1) := by decide +kernel
theorem d_Mo_tally_61 : decode b_Mo_tally 61 = .ok (.i2l, 1) := by decide +kernel
theorem d_Mo_tally_62 : decode b_Mo_tally 62 = .ok (.ladd, 1) := by decide +kernel
theorem d_Mo_tally_63 : decode b_Mo_tally 63 = .ok (.invokestatic 89, 3) := by decide +kernel
theorem d_Mo_tally_66 : decode b_Mo_tally 66 = .ok (.iastore, 1) := by decide +kernel
theorem d_Mo_tally_67 : decode b_Mo_tally 67 = .ok (.return_, 1) := by decide +kernel
abbrev b_Mo_store : ByteArray := prog_10_method_35_code
def y_Mo_store : MethodName := ⟨R_Mo, "store", "(III)I"⟩
theorem k_Mo_store : kV y_Mo_store b_Mo_store 6 (some .int) 3 := ⟨gmem (List.mem_append_right _ (List.mem_of_getElem? (i := 998) (by decide +kernel))) (by decide +kernel), gmem (List.mem_append_left _ (List.mem_of_getElem? (i := 44) (by decide +kernel))) (by decide +kernel), in_Mo, gmem (List.mem_append_right _ (List.mem_of_getElem? (i := 999) (by decide +kernel))) (by decide +kernel), by decide, by decide, by decide +kernel⟩
theorem d_Mo_store_0 : decode b_Mo_store 0 = .ok (.aload_n 0, 1) := by decide +kernel
theorem d_Mo_store_1 : decode b_Mo_store 1 = .ok (.iload_n 1, 1) := by decide +kernel
theorem d_Mo_store_2 : decode b_Mo_store 2 = .ok (.iload_n 2, 1) := by decide +kernel
theorem d_Mo_store_3 : decode b_Mo_store 3 = .ok (.iload_n 3, 1) := by decide +kernel
theorem d_Mo_store_4 : decode b_Mo_store 4 = .ok (.invokevirtual 75, 3) := by decide +kernel
theorem d_Mo_store_7 : decode b_Mo_store 7 = .ok (.istore 4, 2) := by decide +kernel
theorem d_Mo_store_9 : decode b_Mo_store 9 = .ok (.bipush 48, 2) := by decide +kernel
theorem d_Mo_store_11 : decode b_Mo_store 11 = .ok (.istore 5, 2) := by decide +kernel
theorem d_Mo_store_13 : decode b_Mo_store 13 = .ok (.iload 5, 2) := by decide +kernel
theorem d_Mo_store_15 : decode b_Mo_store 15 = .ok (.aload_n 0, 1) := by decide +kernel
theorem d_Mo_store_16 : decode b_Mo_store 16 = .ok (.getfield 151, 3) := by decide +kernel
theorem d_Mo_store_19 : decode b_Mo_store 19 = .ok (.if_icmp .ge 51, 3) := by decide +kernel
theorem d_Mo_store_22 : decode b_Mo_store 22 = .ok (.aload_n 0, 1) := by decide +kernel
theorem d_Mo_store_23 : decode b_Mo_store 23 = .ok (.getfield 13, 3) := by decide +kernel
theorem d_Mo_store_26 : decode b_Mo_store 26 = .ok (.iload 5, 2) := by decide +kernel
theorem d_Mo_store_28 : decode b_Mo_store 28 = .ok (.iaload, 1) := by decide +kernel
theorem d_Mo_store_29 : decode b_Mo_store 29 = .ok (.iload_n 1, 1) := by decide +kernel
theorem d_Mo_store_30 : decode b_Mo_store 30 = .ok (.if_icmp .ne 30, 3) := by decide +kernel
theorem d_Mo_store_33 : decode b_Mo_store 33 = .ok (.aload_n 0, 1) := by decide +kernel
theorem d_Mo_store_34 : decode b_Mo_store 34 = .ok (.getfield 16, 3) := by decide +kernel
theorem d_Mo_store_37 : decode b_Mo_store 37 = .ok (.iload 5, 2) := by decide +kernel
theorem d_Mo_store_39 : decode b_Mo_store 39 = .ok (.iaload, 1) := by decide +kernel
theorem d_Mo_store_40 : decode b_Mo_store 40 = .ok (.iload_n 2, 1) := by decide +kernel
theorem d_Mo_store_41 : decode b_Mo_store 41 = .ok (.if_icmp .ne 19, 3) := by decide +kernel
theorem d_Mo_store_44 : decode b_Mo_store 44 = .ok (.aload_n 0, 1) := by decide +kernel
theorem d_Mo_store_45 : decode b_Mo_store 45 = .ok (.getfield 19, 3) := by decide +kernel
theorem d_Mo_store_48 : decode b_Mo_store 48 = .ok (.iload 5, 2) := by decide +kernel
theorem d_Mo_store_50 : decode b_Mo_store 50 = .ok (.iaload, 1) := by decide +kernel
theorem d_Mo_store_51 : decode b_Mo_store 51 = .ok (.iload_n 3, 1) := by decide +kernel
theorem d_Mo_store_52 : decode b_Mo_store 52 = .ok (.if_icmp .ne 8, 3) := by decide +kernel
theorem d_Mo_store_55 : decode b_Mo_store 55 = .ok (.iload 5, 2) := by decide +kernel
theorem d_Mo_store_57 : decode b_Mo_store 57 = .ok (.goto 5, 3) := by decide +kernel
theorem d_Mo_store_60 : decode b_Mo_store 60 = .ok (.iload 4, 2) := by decide +kernel
theorem d_Mo_store_62 : decode b_Mo_store 62 = .ok (.istore 4, 2) := by decide +kernel
theorem d_Mo_store_64 : decode b_Mo_store 64 = .ok (.iinc 5 1, 3) := by decide +kernel
theorem d_Mo_store_67 : decode b_Mo_store 67 = .ok (.goto (-54), 3) := by decide +kernel
theorem d_Mo_store_70 : decode b_Mo_store 70 = .ok (.iload 4, 2) := by decide +kernel
theorem d_Mo_store_72 : decode b_Mo_store 72 = .ok (.ifCond .lt 6, 3) := by decide +kernel
theorem d_Mo_store_75 : decode b_Mo_store 75 = .ok (.iload 4, 2) := by decide +kernel
theorem d_Mo_store_77 : decode b_Mo_store 77 = .ok (.ireturn, 1) := by decide +kernel
theorem d_Mo_store_78 : decode b_Mo_store 78 = .ok (.aload_n 0, 1) := by decide +kernel
theorem d_Mo_store_79 : decode b_Mo_store 79 = .ok (.getfield 151, 3) := by decide +kernel
theorem d_Mo_store_82 : decode b_Mo_store 82 = .ok (.sipush 520, 3) := by decide +kernel
theorem d_Mo_store_85 : decode b_Mo_store 85 = .ok (.if_icmp .ne 5, 3) := by decide +kernel
theorem d_Mo_store_88 : decode b_Mo_store 88 = .ok (.iconst (-1), 1) := by decide +kernel
theorem d_Mo_store_89 : decode b_Mo_store 89 = .ok (.ireturn, 1) := by decide +kernel
theorem d_Mo_store_90 : decode b_Mo_store 90 = .ok (.aload_n 0, 1) := by decide +kernel
theorem d_Mo_store_91 : decode b_Mo_store 91 = .ok (.getfield 13, 3) := by decide +kernel
theorem d_Mo_store_94 : decode b_Mo_store 94 = .ok (.aload_n 0, 1) := by decide +kernel
theorem d_Mo_store_95 : decode b_Mo_store 95 = .ok (.getfield 151, 3) := by decide +kernel
theorem d_Mo_store_98 : decode b_Mo_store 98 = .ok (.iload_n 1, 1) := by decide +kernel
theorem d_Mo_store_99 : decode b_Mo_store 99 = .ok (.iastore, 1) := by decide +kernel
theorem d_Mo_store_100 : decode b_Mo_store 100 = .ok (.aload_n 0, 1) := by decide +kernel
theorem d_Mo_store_101 : decode b_Mo_store 101 = .ok (.getfield 16, 3) := by decide +kernel
theorem d_Mo_store_104 : decode b_Mo_store 104 = .ok (.aload_n 0, 1) := by decide +kernel
theorem d_Mo_store_105 : decode b_Mo_store 105 = .ok (.getfield 151, 3) := by decide +kernel
theorem d_Mo_store_108 : decode b_Mo_store 108 = .ok (.iload_n 2, 1) := by decide +kernel
theorem d_Mo_store_109 : decode b_Mo_store 109 = .ok (.iastore, 1) := by decide +kernel
theorem d_Mo_store_110 : decode b_Mo_store 110 = .ok (.aload_n 0, 1) := by decide +kernel
theorem d_Mo_store_111 : decode b_Mo_store 111 = .ok (.getfield 19, 3) := by decide +kernel
theorem d_Mo_store_114 : decode b_Mo_store 114 = .ok (.aload_n 0, 1) := by decide +kernel
theorem d_Mo_store_115 : decode b_Mo_store 115 = .ok (.getfield 151, 3) := by decide +kernel
theorem d_Mo_store_118 : decode b_Mo_store 118 = .ok (.iload_n 3, 1) := by decide +kernel
theorem d_Mo_store_119 : decode b_Mo_store 119 = .ok (.iastore, 1) := by decide +kernel
theorem d_Mo_store_120 : decode b_Mo_store 120 = .ok (.aload_n 0, 1) := by decide +kernel
theorem d_Mo_store_121 : decode b_Mo_store 121 = .ok (.aload_n 0, 1) := by decide +kernel
theorem d_Mo_store_122 : decode b_Mo_store 122 = .ok (.getfield 151, 3) := by decide +kernel
theorem d_Mo_store_125 : decode b_Mo_store 125 = .ok (.invokevirtual 154, 3) := by decide +kernel
theorem d_Mo_store_128 : decode b_Mo_store 128 = .ok (.aload_n 0, 1) := by decide +kernel
theorem d_Mo_store_129 : decode b_Mo_store 129 = .ok (.getfield 50, 3) := by decide +kernel
theorem d_Mo_store_132 : decode b_Mo_store 132 = .ok (.aload_n 0, 1) := by decide +kernel
theorem d_Mo_store_133 : decode b_Mo_store 133 = .ok (.getfield 151, 3) := by decide +kernel
theorem d_Mo_store_136 : decode b_Mo_store 136 = .ok (.iconst 0, 1) := by decide +kernel
theorem d_Mo_store_137 : decode b_Mo_store 137 = .ok (.bastore, 1) := by decide +kernel
theorem d_Mo_store_138 : decode b_Mo_store 138 = .ok (.aload_n 0, 1) := by decide +kernel
theorem d_Mo_store_139 : decode b_Mo_store 139 = .ok (.getfield 47, 3) := by decide +kernel
theorem d_Mo_store_142 : decode b_Mo_store 142 = .ok (.aload_n 0, 1) := by decide +kernel
theorem d_Mo_store_143 : decode b_Mo_store 143 = .ok (.getfield 151, 3) := by decide +kernel
theorem d_Mo_store_146 : decode b_Mo_store 146 = .ok (.iconst 0, 1) := by decide +kernel
theorem d_Mo_store_147 : decode b_Mo_store 147 = .ok (.bastore, 1) := by decide +kernel
theorem d_Mo_store_148 : decode b_Mo_store 148 = .ok (.aload_n 0, 1) := by decide +kernel
theorem d_Mo_store_149 : decode b_Mo_store 149 = .ok (.dup, 1) := by decide +kernel
theorem d_Mo_store_150 : decode b_Mo_store 150 = .ok (.getfield 151, 3) := by decide +kernel
theorem d_Mo_store_153 : decode b_Mo_store 153 = .ok (.iconst 1, 1) := by decide +kernel
theorem d_Mo_store_154 : decode b_Mo_store 154 = .ok (.iadd, 1) := by decide +kernel
theorem d_Mo_store_155 : decode b_Mo_store 155 = .ok (.putfield 151, 3) := by decide +kernel
theorem d_Mo_store_158 : decode b_Mo_store 158 = .ok (.aload_n 0, 1) := by decide +kernel
theorem d_Mo_store_159 : decode b_Mo_store 159 = .ok (.getfield 151, 3) := by decide +kernel
theorem d_Mo_store_162 : decode b_Mo_store 162 = .ok (.iconst 1, 1) := by decide +kernel
theorem d_Mo_store_163 : decode b_Mo_store 163 = .ok (.isub, 1) := by decide +kernel
theorem d_Mo_store_164 : decode b_Mo_store 164 = .ok (.ireturn, 1) := by decide +kernel
abbrev b_Mo_take : ByteArray := prog_10_method_37_code
def y_Mo_take : MethodName := ⟨R_Mo, "take", "(II)V"⟩
theorem k_Mo_take : kV y_Mo_take b_Mo_take 5 none 2 := ⟨gmem (List.mem_append_right _ (List.mem_of_getElem? (i := 986) (by decide +kernel))) (by decide +kernel), gmem (List.mem_append_left _ (List.mem_of_getElem? (i := 41) (by decide +kernel))) (by decide +kernel), in_Mo, gmem (List.mem_append_right _ (List.mem_of_getElem? (i := 987) (by decide +kernel))) (by decide +kernel), by decide, by decide, by decide +kernel⟩
theorem d_Mo_take_0 : decode b_Mo_take 0 = .ok (.aload_n 0, 1) := by decide +kernel
theorem d_Mo_take_1 : decode b_Mo_take 1 = .ok (.getfield 50, 3) := by decide +kernel
theorem d_Mo_take_4 : decode b_Mo_take 4 = .ok (.iload_n 1, 1) := by decide +kernel
theorem d_Mo_take_5 : decode b_Mo_take 5 = .ok (.iconst 1, 1) := by decide +kernel
theorem d_Mo_take_6 : decode b_Mo_take 6 = .ok (.bastore, 1) := by decide +kernel
theorem d_Mo_take_7 : decode b_Mo_take 7 = .ok (.aload_n 0, 1) := by decide +kernel
theorem d_Mo_take_8 : decode b_Mo_take 8 = .ok (.getfield 53, 3) := by decide +kernel
theorem d_Mo_take_11 : decode b_Mo_take 11 = .ok (.iload_n 1, 1) := by decide +kernel
theorem d_Mo_take_12 : decode b_Mo_take 12 = .ok (.iload_n 2, 1) := by decide +kernel
theorem d_Mo_take_13 : decode b_Mo_take 13 = .ok (.iastore, 1) := by decide +kernel
theorem d_Mo_take_14 : decode b_Mo_take 14 = .ok (.iconst 0, 1) := by decide +kernel
theorem d_Mo_take_15 : decode b_Mo_take 15 = .ok (.istore_n 3, 1) := by decide +kernel
theorem d_Mo_take_16 : decode b_Mo_take 16 = .ok (.aload_n 0, 1) := by decide +kernel
theorem d_Mo_take_17 : decode b_Mo_take 17 = .ok (.getfield 59, 3) := by decide +kernel
theorem d_Mo_take_20 : decode b_Mo_take 20 = .ok (.iconst 0, 1) := by decide +kernel
theorem d_Mo_take_21 : decode b_Mo_take 21 = .ok (.iload_n 1, 1) := by decide +kernel
theorem d_Mo_take_22 : decode b_Mo_take 22 = .ok (.iastore, 1) := by decide +kernel
theorem d_Mo_take_23 : decode b_Mo_take 23 = .ok (.iinc 3 1, 3) := by decide +kernel
theorem d_Mo_take_26 : decode b_Mo_take 26 = .ok (.iload_n 3, 1) := by decide +kernel
theorem d_Mo_take_27 : decode b_Mo_take 27 = .ok (.ifCond .le 97, 3) := by decide +kernel
theorem d_Mo_take_30 : decode b_Mo_take 30 = .ok (.iinc 3 (-1), 3) := by decide +kernel
theorem d_Mo_take_33 : decode b_Mo_take 33 = .ok (.aload_n 0, 1) := by decide +kernel
theorem d_Mo_take_34 : decode b_Mo_take 34 = .ok (.getfield 59, 3) := by decide +kernel
theorem d_Mo_take_37 : decode b_Mo_take 37 = .ok (.iload_n 3, 1) := by decide +kernel
theorem d_Mo_take_38 : decode b_Mo_take 38 = .ok (.iaload, 1) := by decide +kernel
theorem d_Mo_take_39 : decode b_Mo_take 39 = .ok (.istore 4, 2) := by decide +kernel
theorem d_Mo_take_41 : decode b_Mo_take 41 = .ok (.aload_n 0, 1) := by decide +kernel
theorem d_Mo_take_42 : decode b_Mo_take 42 = .ok (.getfield 47, 3) := by decide +kernel
theorem d_Mo_take_45 : decode b_Mo_take 45 = .ok (.iload 4, 2) := by decide +kernel
theorem d_Mo_take_47 : decode b_Mo_take 47 = .ok (.baload, 1) := by decide +kernel
theorem d_Mo_take_48 : decode b_Mo_take 48 = .ok (.ifCond .ne 73, 3) := by decide +kernel
theorem d_Mo_take_51 : decode b_Mo_take 51 = .ok (.aload_n 0, 1) := by decide +kernel
theorem d_Mo_take_52 : decode b_Mo_take 52 = .ok (.getfield 47, 3) := by decide +kernel
theorem d_Mo_take_55 : decode b_Mo_take 55 = .ok (.iload 4, 2) := by decide +kernel
theorem d_Mo_take_57 : decode b_Mo_take 57 = .ok (.iconst 1, 1) := by decide +kernel
theorem d_Mo_take_58 : decode b_Mo_take 58 = .ok (.bastore, 1) := by decide +kernel
theorem d_Mo_take_59 : decode b_Mo_take 59 = .ok (.aload_n 0, 1) := by decide +kernel
theorem d_Mo_take_60 : decode b_Mo_take 60 = .ok (.dup, 1) := by decide +kernel
theorem d_Mo_take_61 : decode b_Mo_take 61 = .ok (.getfield 157, 3) := by decide +kernel
theorem d_Mo_take_64 : decode b_Mo_take 64 = .ok (.iconst 1, 1) := by decide +kernel
theorem d_Mo_take_65 : decode b_Mo_take 65 = .ok (.iadd, 1) := by decide +kernel
theorem d_Mo_take_66 : decode b_Mo_take 66 = .ok (.putfield 157, 3) := by decide +kernel
theorem d_Mo_take_69 : decode b_Mo_take 69 = .ok (.aload_n 0, 1) := by decide +kernel
theorem d_Mo_take_70 : decode b_Mo_take 70 = .ok (.getfield 16, 3) := by decide +kernel
theorem d_Mo_take_73 : decode b_Mo_take 73 = .ok (.iload 4, 2) := by decide +kernel
theorem d_Mo_take_75 : decode b_Mo_take 75 = .ok (.iaload, 1) := by decide +kernel
theorem d_Mo_take_76 : decode b_Mo_take 76 = .ok (.ifCond .lt 19, 3) := by decide +kernel
theorem d_Mo_take_79 : decode b_Mo_take 79 = .ok (.aload_n 0, 1) := by decide +kernel
theorem d_Mo_take_80 : decode b_Mo_take 80 = .ok (.getfield 59, 3) := by decide +kernel
theorem d_Mo_take_83 : decode b_Mo_take 83 = .ok (.iload_n 3, 1) := by decide +kernel
theorem d_Mo_take_84 : decode b_Mo_take 84 = .ok (.aload_n 0, 1) := by decide +kernel
theorem d_Mo_take_85 : decode b_Mo_take 85 = .ok (.getfield 16, 3) := by decide +kernel
theorem d_Mo_take_88 : decode b_Mo_take 88 = .ok (.iload 4, 2) := by decide +kernel
theorem d_Mo_take_90 : decode b_Mo_take 90 = .ok (.iaload, 1) := by decide +kernel
theorem d_Mo_take_91 : decode b_Mo_take 91 = .ok (.iastore, 1) := by decide +kernel
theorem d_Mo_take_92 : decode b_Mo_take 92 = .ok (.iinc 3 1, 3) := by decide +kernel
theorem d_Mo_take_95 : decode b_Mo_take 95 = .ok (.aload_n 0, 1) := by decide +kernel
theorem d_Mo_take_96 : decode b_Mo_take 96 = .ok (.getfield 19, 3) := by decide +kernel
theorem d_Mo_take_99 : decode b_Mo_take 99 = .ok (.iload 4, 2) := by decide +kernel
theorem d_Mo_take_101 : decode b_Mo_take 101 = .ok (.iaload, 1) := by decide +kernel
theorem d_Mo_take_102 : decode b_Mo_take 102 = .ok (.ifCond .lt 19, 3) := by decide +kernel
theorem d_Mo_take_105 : decode b_Mo_take 105 = .ok (.aload_n 0, 1) := by decide +kernel
theorem d_Mo_take_106 : decode b_Mo_take 106 = .ok (.getfield 59, 3) := by decide +kernel
theorem d_Mo_take_109 : decode b_Mo_take 109 = .ok (.iload_n 3, 1) := by decide +kernel
theorem d_Mo_take_110 : decode b_Mo_take 110 = .ok (.aload_n 0, 1) := by decide +kernel
theorem d_Mo_take_111 : decode b_Mo_take 111 = .ok (.getfield 19, 3) := by decide +kernel
theorem d_Mo_take_114 : decode b_Mo_take 114 = .ok (.iload 4, 2) := by decide +kernel
theorem d_Mo_take_116 : decode b_Mo_take 116 = .ok (.iaload, 1) := by decide +kernel
theorem d_Mo_take_117 : decode b_Mo_take 117 = .ok (.iastore, 1) := by decide +kernel
theorem d_Mo_take_118 : decode b_Mo_take 118 = .ok (.iinc 3 1, 3) := by decide +kernel
theorem d_Mo_take_121 : decode b_Mo_take 121 = .ok (.goto (-95), 3) := by decide +kernel
theorem d_Mo_take_124 : decode b_Mo_take 124 = .ok (.return_, 1) := by decide +kernel
abbrev b_Mo_result : ByteArray := prog_10_method_38_code
def y_Mo_result : MethodName := ⟨R_Mo, "result", "(II)I"⟩
theorem k_Mo_result : kV y_Mo_result b_Mo_result 6 (some .int) 2 := ⟨gmem (List.mem_append_right _ (List.mem_of_getElem? (i := 994) (by decide +kernel))) (by decide +kernel), gmem (List.mem_append_left _ (List.mem_of_getElem? (i := 43) (by decide +kernel))) (by decide +kernel), in_Mo, gmem (List.mem_append_right _ (List.mem_of_getElem? (i := 995) (by decide +kernel))) (by decide +kernel), by decide, by decide, by decide +kernel⟩
theorem d_Mo_result_0 : decode b_Mo_result 0 = .ok (.aload_n 0, 1) := by decide +kernel
theorem d_Mo_result_1 : decode b_Mo_result 1 = .ok (.getfield 25, 3) := by decide +kernel
theorem d_Mo_result_4 : decode b_Mo_result 4 = .ok (.aload_n 0, 1) := by decide +kernel
theorem d_Mo_result_5 : decode b_Mo_result 5 = .ok (.iload_n 1, 1) := by decide +kernel
theorem d_Mo_result_6 : decode b_Mo_result 6 = .ok (.iload_n 2, 1) := by decide +kernel
theorem d_Mo_result_7 : decode b_Mo_result 7 = .ok (.invokevirtual 143, 3) := by decide +kernel
theorem d_Mo_result_10 : decode b_Mo_result 10 = .ok (.iaload, 1) := by decide +kernel
theorem d_Mo_result_11 : decode b_Mo_result 11 = .ok (.istore_n 3, 1) := by decide +kernel
theorem d_Mo_result_12 : decode b_Mo_result 12 = .ok (.aload_n 0, 1) := by decide +kernel
theorem d_Mo_result_13 : decode b_Mo_result 13 = .ok (.invokevirtual 147, 3) := by decide +kernel
theorem d_Mo_result_16 : decode b_Mo_result 16 = .ok (.iconst 1, 1) := by decide +kernel
theorem d_Mo_result_17 : decode b_Mo_result 17 = .ok (.isub, 1) := by decide +kernel
theorem d_Mo_result_18 : decode b_Mo_result 18 = .ok (.istore 4, 2) := by decide +kernel
theorem d_Mo_result_20 : decode b_Mo_result 20 = .ok (.iload 4, 2) := by decide +kernel
theorem d_Mo_result_22 : decode b_Mo_result 22 = .ok (.ifCond .lt 78, 3) := by decide +kernel
theorem d_Mo_result_25 : decode b_Mo_result 25 = .ok (.iload_n 3, 1) := by decide +kernel
theorem d_Mo_result_26 : decode b_Mo_result 26 = .ok (.ifCond .lt 74, 3) := by decide +kernel
theorem d_Mo_result_29 : decode b_Mo_result 29 = .ok (.aload_n 0, 1) := by decide +kernel
theorem d_Mo_result_30 : decode b_Mo_result 30 = .ok (.getfield 62, 3) := by decide +kernel
theorem d_Mo_result_33 : decode b_Mo_result 33 = .ok (.iload 4, 2) := by decide +kernel
theorem d_Mo_result_35 : decode b_Mo_result 35 = .ok (.iaload, 1) := by decide +kernel
theorem d_Mo_result_36 : decode b_Mo_result 36 = .ok (.istore 5, 2) := by decide +kernel
theorem d_Mo_result_38 : decode b_Mo_result 38 = .ok (.aload_n 0, 1) := by decide +kernel
theorem d_Mo_result_39 : decode b_Mo_result 39 = .ok (.aload_n 0, 1) := by decide +kernel
theorem d_Mo_result_40 : decode b_Mo_result 40 = .ok (.getfield 13, 3) := by decide +kernel
theorem d_Mo_result_43 : decode b_Mo_result 43 = .ok (.iload 5, 2) := by decide +kernel
theorem d_Mo_result_45 : decode b_Mo_result 45 = .ok (.iaload, 1) := by decide +kernel
theorem d_Mo_result_46 : decode b_Mo_result 46 = .ok (.aload_n 0, 1) := by decide +kernel
theorem d_Mo_result_47 : decode b_Mo_result 47 = .ok (.getfield 65, 3) := by decide +kernel
theorem d_Mo_result_50 : decode b_Mo_result 50 = .ok (.iload 4, 2) := by decide +kernel
theorem d_Mo_result_52 : decode b_Mo_result 52 = .ok (.iaload, 1) := by decide +kernel
theorem d_Mo_result_53 : decode b_Mo_result 53 = .ok (.iconst 1, 1) := by decide +kernel
theorem d_Mo_result_54 : decode b_Mo_result 54 = .ok (.if_icmp .ne 7, 3) := by decide +kernel
theorem d_Mo_result_57 : decode b_Mo_result 57 = .ok (.iload_n 3, 1) := by decide +kernel
theorem d_Mo_result_58 : decode b_Mo_result 58 = .ok (.goto 10, 3) := by decide +kernel
theorem d_Mo_result_61 : decode b_Mo_result 61 = .ok (.aload_n 0, 1) := by decide +kernel
theorem d_Mo_result_62 : decode b_Mo_result 62 = .ok (.getfield 16, 3) := by decide +kernel
theorem d_Mo_result_65 : decode b_Mo_result 65 = .ok (.iload 5, 2) := by decide +kernel
theorem d_Mo_result_67 : decode b_Mo_result 67 = .ok (.iaload, 1) := by decide +kernel
theorem d_Mo_result_68 : decode b_Mo_result 68 = .ok (.aload_n 0, 1) := by decide +kernel
theorem d_Mo_result_69 : decode b_Mo_result 69 = .ok (.getfield 65, 3) := by decide +kernel
theorem d_Mo_result_72 : decode b_Mo_result 72 = .ok (.iload 4, 2) := by decide +kernel
theorem d_Mo_result_74 : decode b_Mo_result 74 = .ok (.iaload, 1) := by decide +kernel
theorem d_Mo_result_75 : decode b_Mo_result 75 = .ok (.iconst 2, 1) := by decide +kernel
theorem d_Mo_result_76 : decode b_Mo_result 76 = .ok (.if_icmp .ne 7, 3) := by decide +kernel
theorem d_Mo_result_79 : decode b_Mo_result 79 = .ok (.iload_n 3, 1) := by decide +kernel
theorem d_Mo_result_80 : decode b_Mo_result 80 = .ok (.goto 10, 3) := by decide +kernel
theorem d_Mo_result_83 : decode b_Mo_result 83 = .ok (.aload_n 0, 1) := by decide +kernel
theorem d_Mo_result_84 : decode b_Mo_result 84 = .ok (.getfield 19, 3) := by decide +kernel
theorem d_Mo_result_87 : decode b_Mo_result 87 = .ok (.iload 5, 2) := by decide +kernel
theorem d_Mo_result_89 : decode b_Mo_result 89 = .ok (.iaload, 1) := by decide +kernel
theorem d_Mo_result_90 : decode b_Mo_result 90 = .ok (.invokevirtual 160, 3) := by decide +kernel
theorem d_Mo_result_93 : decode b_Mo_result 93 = .ok (.istore_n 3, 1) := by decide +kernel
theorem d_Mo_result_94 : decode b_Mo_result 94 = .ok (.iinc 4 (-1), 3) := by decide +kernel
theorem d_Mo_result_97 : decode b_Mo_result 97 = .ok (.goto (-77), 3) := by decide +kernel
theorem d_Mo_result_100 : decode b_Mo_result 100 = .ok (.iload_n 3, 1) := by decide +kernel
theorem d_Mo_result_101 : decode b_Mo_result 101 = .ok (.ireturn, 1) := by decide +kernel
abbrev b_Mo_further : ByteArray := prog_10_method_39_code
def y_Mo_further : MethodName := ⟨R_Mo, "further", "(I)Z"⟩
theorem k_Mo_further : kV y_Mo_further b_Mo_further 6 (some .boolean) 1 := ⟨gmem (List.mem_append_right _ (List.mem_of_getElem? (i := 990) (by decide +kernel))) (by decide +kernel), gmem (List.mem_append_left _ (List.mem_of_getElem? (i := 42) (by decide +kernel))) (by decide +kernel), in_Mo, gmem (List.mem_append_right _ (List.mem_of_getElem? (i := 991) (by decide +kernel))) (by decide +kernel), by decide, by decide, by decide +kernel⟩
theorem d_Mo_further_0 : decode b_Mo_further 0 = .ok (.iconst 0, 1) := by decide +kernel
theorem d_Mo_further_1 : decode b_Mo_further 1 = .ok (.istore_n 2, 1) := by decide +kernel
theorem d_Mo_further_2 : decode b_Mo_further 2 = .ok (.iload_n 2, 1) := by decide +kernel
theorem d_Mo_further_3 : decode b_Mo_further 3 = .ok (.aload_n 0, 1) := by decide +kernel
theorem d_Mo_further_4 : decode b_Mo_further 4 = .ok (.getfield 151, 3) := by decide +kernel
theorem d_Mo_further_7 : decode b_Mo_further 7 = .ok (.if_icmp .ge 119, 3) := by decide +kernel
theorem d_Mo_further_10 : decode b_Mo_further 10 = .ok (.iload_n 2, 1) := by decide +kernel
theorem d_Mo_further_11 : decode b_Mo_further 11 = .ok (.aload_n 0, 1) := by decide +kernel
theorem d_Mo_further_12 : decode b_Mo_further 12 = .ok (.getfield 72, 3) := by decide +kernel
theorem d_Mo_further_15 : decode b_Mo_further 15 = .ok (.if_icmp .lt 9, 3) := by decide +kernel
theorem d_Mo_further_18 : decode b_Mo_further 18 = .ok (.iload_n 2, 1) := by decide +kernel
theorem d_Mo_further_19 : decode b_Mo_further 19 = .ok (.bipush 48, 2) := by decide +kernel
theorem d_Mo_further_21 : decode b_Mo_further 21 = .ok (.if_icmp .lt 26, 3) := by decide +kernel
theorem d_Mo_further_24 : decode b_Mo_further 24 = .ok (.aload_n 0, 1) := by decide +kernel
theorem d_Mo_further_25 : decode b_Mo_further 25 = .ok (.getfield 50, 3) := by decide +kernel
theorem d_Mo_further_28 : decode b_Mo_further 28 = .ok (.iload_n 2, 1) := by decide +kernel
theorem d_Mo_further_29 : decode b_Mo_further 29 = .ok (.baload, 1) := by decide +kernel
theorem d_Mo_further_30 : decode b_Mo_further 30 = .ok (.ifCond .eq 17, 3) := by decide +kernel
theorem d_Mo_further_33 : decode b_Mo_further 33 = .ok (.aload_n 0, 1) := by decide +kernel
theorem d_Mo_further_34 : decode b_Mo_further 34 = .ok (.getfield 53, 3) := by decide +kernel
theorem d_Mo_further_37 : decode b_Mo_further 37 = .ok (.iload_n 2, 1) := by decide +kernel
theorem d_Mo_further_38 : decode b_Mo_further 38 = .ok (.iaload, 1) := by decide +kernel
theorem d_Mo_further_39 : decode b_Mo_further 39 = .ok (.iload_n 1, 1) := by decide +kernel
theorem d_Mo_further_40 : decode b_Mo_further 40 = .ok (.if_icmp .ne 7, 3) := by decide +kernel
theorem d_Mo_further_43 : decode b_Mo_further 43 = .ok (.iconst 1, 1) := by decide +kernel
theorem d_Mo_further_44 : decode b_Mo_further 44 = .ok (.goto 4, 3) := by decide +kernel
theorem d_Mo_further_47 : decode b_Mo_further 47 = .ok (.iconst 0, 1) := by decide +kernel
theorem d_Mo_further_48 : decode b_Mo_further 48 = .ok (.istore_n 3, 1) := by decide +kernel
theorem d_Mo_further_49 : decode b_Mo_further 49 = .ok (.iconst 0, 1) := by decide +kernel
theorem d_Mo_further_50 : decode b_Mo_further 50 = .ok (.istore 4, 2) := by decide +kernel
theorem d_Mo_further_52 : decode b_Mo_further 52 = .ok (.iload_n 3, 1) := by decide +kernel
theorem d_Mo_further_53 : decode b_Mo_further 53 = .ok (.ifCond .eq 67, 3) := by decide +kernel
theorem d_Mo_further_56 : decode b_Mo_further 56 = .ok (.iload 4, 2) := by decide +kernel
theorem d_Mo_further_58 : decode b_Mo_further 58 = .ok (.aload_n 0, 1) := by decide +kernel
theorem d_Mo_further_59 : decode b_Mo_further 59 = .ok (.getfield 56, 3) := by decide +kernel
theorem d_Mo_further_62 : decode b_Mo_further 62 = .ok (.iload_n 2, 1) := by decide +kernel
theorem d_Mo_further_63 : decode b_Mo_further 63 = .ok (.iaload, 1) := by decide +kernel
theorem d_Mo_further_64 : decode b_Mo_further 64 = .ok (.if_icmp .ge 56, 3) := by decide +kernel
theorem d_Mo_further_67 : decode b_Mo_further 67 = .ok (.aload_n 0, 1) := by decide +kernel
theorem d_Mo_further_68 : decode b_Mo_further 68 = .ok (.iload_n 2, 1) := by decide +kernel
theorem d_Mo_further_69 : decode b_Mo_further 69 = .ok (.iload 4, 2) := by decide +kernel
theorem d_Mo_further_71 : decode b_Mo_further 71 = .ok (.invokevirtual 163, 3) := by decide +kernel
theorem d_Mo_further_74 : decode b_Mo_further 74 = .ok (.istore 5, 2) := by decide +kernel
theorem d_Mo_further_76 : decode b_Mo_further 76 = .ok (.iload 5, 2) := by decide +kernel
theorem d_Mo_further_78 : decode b_Mo_further 78 = .ok (.ifCond .ge 5, 3) := by decide +kernel
theorem d_Mo_further_81 : decode b_Mo_further 81 = .ok (.iconst 0, 1) := by decide +kernel
theorem d_Mo_further_82 : decode b_Mo_further 82 = .ok (.ireturn, 1) := by decide +kernel
theorem d_Mo_further_83 : decode b_Mo_further 83 = .ok (.aload_n 0, 1) := by decide +kernel
theorem d_Mo_further_84 : decode b_Mo_further 84 = .ok (.getfield 50, 3) := by decide +kernel
theorem d_Mo_further_87 : decode b_Mo_further 87 = .ok (.iload 5, 2) := by decide +kernel
theorem d_Mo_further_89 : decode b_Mo_further 89 = .ok (.baload, 1) := by decide +kernel
theorem d_Mo_further_90 : decode b_Mo_further 90 = .ok (.ifCond .ne 12, 3) := by decide +kernel
theorem d_Mo_further_93 : decode b_Mo_further 93 = .ok (.aload_n 0, 1) := by decide +kernel
theorem d_Mo_further_94 : decode b_Mo_further 94 = .ok (.iload 5, 2) := by decide +kernel
theorem d_Mo_further_96 : decode b_Mo_further 96 = .ok (.iload_n 1, 1) := by decide +kernel
theorem d_Mo_further_97 : decode b_Mo_further 97 = .ok (.iconst 1, 1) := by decide +kernel
theorem d_Mo_further_98 : decode b_Mo_further 98 = .ok (.iadd, 1) := by decide +kernel
theorem d_Mo_further_99 : decode b_Mo_further 99 = .ok (.invokevirtual 166, 3) := by decide +kernel
theorem d_Mo_further_102 : decode b_Mo_further 102 = .ok (.aload_n 0, 1) := by decide +kernel
theorem d_Mo_further_103 : decode b_Mo_further 103 = .ok (.getfield 157, 3) := by decide +kernel
theorem d_Mo_further_106 : decode b_Mo_further 106 = .ok (.sipush 400, 3) := by decide +kernel
theorem d_Mo_further_109 : decode b_Mo_further 109 = .ok (.if_icmp .le 5, 3) := by decide +kernel
theorem d_Mo_further_112 : decode b_Mo_further 112 = .ok (.iconst 0, 1) := by decide +kernel
theorem d_Mo_further_113 : decode b_Mo_further 113 = .ok (.ireturn, 1) := by decide +kernel
theorem d_Mo_further_114 : decode b_Mo_further 114 = .ok (.iinc 4 1, 3) := by decide +kernel
theorem d_Mo_further_117 : decode b_Mo_further 117 = .ok (.goto (-65), 3) := by decide +kernel
theorem d_Mo_further_120 : decode b_Mo_further 120 = .ok (.iinc 2 1, 3) := by decide +kernel
theorem d_Mo_further_123 : decode b_Mo_further 123 = .ok (.goto (-121), 3) := by decide +kernel
theorem d_Mo_further_126 : decode b_Mo_further 126 = .ok (.iconst 1, 1) := by decide +kernel
theorem d_Mo_further_127 : decode b_Mo_further 127 = .ok (.ireturn, 1) := by decide +kernel
abbrev b_Mo_distance : ByteArray := prog_10_method_40_code
def y_Mo_distance : MethodName := ⟨R_Mo, "distance", "(II)I"⟩
theorem k_Mo_distance : kV y_Mo_distance b_Mo_distance 5 (some .int) 2 := ⟨gmem (List.mem_append_right _ (List.mem_of_getElem? (i := 981) (by decide +kernel))) (by decide +kernel), gmem (List.mem_append_right _ (List.mem_of_getElem? (i := 982) (by decide +kernel))) (by decide +kernel), in_Mo, gmem (List.mem_append_right _ (List.mem_of_getElem? (i := 983) (by decide +kernel))) (by decide +kernel), by decide, by decide, by decide +kernel⟩
theorem d_Mo_distance_0 : decode b_Mo_distance 0 = .ok (.aload_n 0, 1) := by decide +kernel
theorem d_Mo_distance_1 : decode b_Mo_distance 1 = .ok (.iload_n 1, 1) := by decide +kernel
theorem d_Mo_distance_2 : decode b_Mo_distance 2 = .ok (.iload_n 2, 1) := by decide +kernel
theorem d_Mo_distance_3 : decode b_Mo_distance 3 = .ok (.invokevirtual 125, 3) := by decide +kernel
theorem d_Mo_distance_6 : decode b_Mo_distance 6 = .ok (.ifCond .ne 5, 3) := by decide +kernel
theorem d_Mo_distance_9 : decode b_Mo_distance 9 = .ok (.iconst 0, 1) := by decide +kernel
theorem d_Mo_distance_10 : decode b_Mo_distance 10 = .ok (.ireturn, 1) := by decide +kernel
theorem d_Mo_distance_11 : decode b_Mo_distance 11 = .ok (.aload_n 0, 1) := by decide +kernel
theorem d_Mo_distance_12 : decode b_Mo_distance 12 = .ok (.getfield 31, 3) := by decide +kernel
theorem d_Mo_distance_15 : decode b_Mo_distance 15 = .ok (.bipush 48, 2) := by decide +kernel
theorem d_Mo_distance_17 : decode b_Mo_distance 17 = .ok (.iload_n 1, 1) := by decide +kernel
theorem d_Mo_distance_18 : decode b_Mo_distance 18 = .ok (.imul, 1) := by decide +kernel
theorem d_Mo_distance_19 : decode b_Mo_distance 19 = .ok (.iload_n 2, 1) := by decide +kernel
theorem d_Mo_distance_20 : decode b_Mo_distance 20 = .ok (.iadd, 1) := by decide +kernel
theorem d_Mo_distance_21 : decode b_Mo_distance 21 = .ok (.baload, 1) := by decide +kernel
theorem d_Mo_distance_22 : decode b_Mo_distance 22 = .ok (.ifCond .ne 5, 3) := by decide +kernel
theorem d_Mo_distance_25 : decode b_Mo_distance 25 = .ok (.iconst (-1), 1) := by decide +kernel
theorem d_Mo_distance_26 : decode b_Mo_distance 26 = .ok (.ireturn, 1) := by decide +kernel
theorem d_Mo_distance_27 : decode b_Mo_distance 27 = .ok (.aload_n 0, 1) := by decide +kernel
theorem d_Mo_distance_28 : decode b_Mo_distance 28 = .ok (.aload_n 0, 1) := by decide +kernel
theorem d_Mo_distance_29 : decode b_Mo_distance 29 = .ok (.getfield 72, 3) := by decide +kernel
theorem d_Mo_distance_32 : decode b_Mo_distance 32 = .ok (.iconst 1, 1) := by decide +kernel
theorem d_Mo_distance_33 : decode b_Mo_distance 33 = .ok (.isub, 1) := by decide +kernel
theorem d_Mo_distance_34 : decode b_Mo_distance 34 = .ok (.invokevirtual 103, 3) := by decide +kernel
theorem d_Mo_distance_37 : decode b_Mo_distance 37 = .ok (.istore_n 3, 1) := by decide +kernel
theorem d_Mo_distance_38 : decode b_Mo_distance 38 = .ok (.aload_n 0, 1) := by decide +kernel
theorem d_Mo_distance_39 : decode b_Mo_distance 39 = .ok (.bipush 48, 2) := by decide +kernel
theorem d_Mo_distance_41 : decode b_Mo_distance 41 = .ok (.putfield 151, 3) := by decide +kernel
theorem d_Mo_distance_44 : decode b_Mo_distance 44 = .ok (.aload_n 0, 1) := by decide +kernel
theorem d_Mo_distance_45 : decode b_Mo_distance 45 = .ok (.iconst 0, 1) := by decide +kernel
theorem d_Mo_distance_46 : decode b_Mo_distance 46 = .ok (.putfield 157, 3) := by decide +kernel
theorem d_Mo_distance_49 : decode b_Mo_distance 49 = .ok (.iconst 0, 1) := by decide +kernel
theorem d_Mo_distance_50 : decode b_Mo_distance 50 = .ok (.istore 4, 2) := by decide +kernel
theorem d_Mo_distance_52 : decode b_Mo_distance 52 = .ok (.iload 4, 2) := by decide +kernel
theorem d_Mo_distance_54 : decode b_Mo_distance 54 = .ok (.sipush 520, 3) := by decide +kernel
theorem d_Mo_distance_57 : decode b_Mo_distance 57 = .ok (.if_icmp .ge 25, 3) := by decide +kernel
theorem d_Mo_distance_60 : decode b_Mo_distance 60 = .ok (.aload_n 0, 1) := by decide +kernel
theorem d_Mo_distance_61 : decode b_Mo_distance 61 = .ok (.getfield 50, 3) := by decide +kernel
theorem d_Mo_distance_64 : decode b_Mo_distance 64 = .ok (.iload 4, 2) := by decide +kernel
theorem d_Mo_distance_66 : decode b_Mo_distance 66 = .ok (.iconst 0, 1) := by decide +kernel
theorem d_Mo_distance_67 : decode b_Mo_distance 67 = .ok (.bastore, 1) := by decide +kernel
theorem d_Mo_distance_68 : decode b_Mo_distance 68 = .ok (.aload_n 0, 1) := by decide +kernel
theorem d_Mo_distance_69 : decode b_Mo_distance 69 = .ok (.getfield 47, 3) := by decide +kernel
theorem d_Mo_distance_72 : decode b_Mo_distance 72 = .ok (.iload 4, 2) := by decide +kernel
theorem d_Mo_distance_74 : decode b_Mo_distance 74 = .ok (.iconst 0, 1) := by decide +kernel
theorem d_Mo_distance_75 : decode b_Mo_distance 75 = .ok (.bastore, 1) := by decide +kernel
theorem d_Mo_distance_76 : decode b_Mo_distance 76 = .ok (.iinc 4 1, 3) := by decide +kernel
theorem d_Mo_distance_79 : decode b_Mo_distance 79 = .ok (.goto (-27), 3) := by decide +kernel
theorem d_Mo_distance_82 : decode b_Mo_distance 82 = .ok (.aload_n 0, 1) := by decide +kernel
theorem d_Mo_distance_83 : decode b_Mo_distance 83 = .ok (.iload_n 1, 1) := by decide +kernel
theorem d_Mo_distance_84 : decode b_Mo_distance 84 = .ok (.iconst 0, 1) := by decide +kernel
theorem d_Mo_distance_85 : decode b_Mo_distance 85 = .ok (.invokevirtual 166, 3) := by decide +kernel
theorem d_Mo_distance_88 : decode b_Mo_distance 88 = .ok (.iconst 0, 1) := by decide +kernel
theorem d_Mo_distance_89 : decode b_Mo_distance 89 = .ok (.istore 4, 2) := by decide +kernel
theorem d_Mo_distance_91 : decode b_Mo_distance 91 = .ok (.aload_n 0, 1) := by decide +kernel
theorem d_Mo_distance_92 : decode b_Mo_distance 92 = .ok (.getfield 50, 3) := by decide +kernel
theorem d_Mo_distance_95 : decode b_Mo_distance 95 = .ok (.iload_n 2, 1) := by decide +kernel
theorem d_Mo_distance_96 : decode b_Mo_distance 96 = .ok (.baload, 1) := by decide +kernel
theorem d_Mo_distance_97 : decode b_Mo_distance 97 = .ok (.ifCond .ne 21, 3) := by decide +kernel
theorem d_Mo_distance_100 : decode b_Mo_distance 100 = .ok (.aload_n 0, 1) := by decide +kernel
theorem d_Mo_distance_101 : decode b_Mo_distance 101 = .ok (.iload 4, 2) := by decide +kernel
theorem d_Mo_distance_103 : decode b_Mo_distance 103 = .ok (.invokevirtual 170, 3) := by decide +kernel
theorem d_Mo_distance_106 : decode b_Mo_distance 106 = .ok (.ifCond .ne 6, 3) := by decide +kernel
theorem d_Mo_distance_109 : decode b_Mo_distance 109 = .ok (.bipush (-2), 2) := by decide +kernel
theorem d_Mo_distance_111 : decode b_Mo_distance 111 = .ok (.ireturn, 1) := by decide +kernel
theorem d_Mo_distance_112 : decode b_Mo_distance 112 = .ok (.iinc 4 1, 3) := by decide +kernel
theorem d_Mo_distance_115 : decode b_Mo_distance 115 = .ok (.goto (-24), 3) := by decide +kernel
theorem d_Mo_distance_118 : decode b_Mo_distance 118 = .ok (.aload_n 0, 1) := by decide +kernel
theorem d_Mo_distance_119 : decode b_Mo_distance 119 = .ok (.getfield 53, 3) := by decide +kernel
theorem d_Mo_distance_122 : decode b_Mo_distance 122 = .ok (.iload_n 2, 1) := by decide +kernel
theorem d_Mo_distance_123 : decode b_Mo_distance 123 = .ok (.iaload, 1) := by decide +kernel
theorem d_Mo_distance_124 : decode b_Mo_distance 124 = .ok (.ireturn, 1) := by decide +kernel
abbrev b_Mo_look : ByteArray := prog_10_method_41_code
def y_Mo_look : MethodName := ⟨R_Mo, "look", "(I)I"⟩
theorem k_Mo_look : kV y_Mo_look b_Mo_look 2 (some .int) 1 := ⟨gmem (List.mem_append_right _ (List.mem_of_getElem? (i := 1005) (by decide +kernel))) (by decide +kernel), gmem (List.mem_append_right _ (List.mem_of_getElem? (i := 1006) (by decide +kernel))) (by decide +kernel), in_Mo, gmem (List.mem_append_right _ (List.mem_of_getElem? (i := 1007) (by decide +kernel))) (by decide +kernel), by decide, by decide, by decide +kernel⟩
theorem d_Mo_look_0 : decode b_Mo_look 0 = .ok (.aload_n 0, 1) := by decide +kernel
theorem d_Mo_look_1 : decode b_Mo_look 1 = .ok (.iconst 0, 1) := by decide +kernel
theorem d_Mo_look_2 : decode b_Mo_look 2 = .ok (.putfield 68, 3) := by decide +kernel
theorem d_Mo_look_5 : decode b_Mo_look 5 = .ok (.iload_n 1, 1) := by decide +kernel
theorem d_Mo_look_6 : decode b_Mo_look 6 = .ok (.ifCond .ne 10, 3) := by decide +kernel
theorem d_Mo_look_9 : decode b_Mo_look 9 = .ok (.aload_n 0, 1) := by decide +kernel
theorem d_Mo_look_10 : decode b_Mo_look 10 = .ok (.getfield 72, 3) := by decide +kernel
theorem d_Mo_look_13 : decode b_Mo_look 13 = .ok (.goto 62, 3) := by decide +kernel
theorem d_Mo_look_16 : decode b_Mo_look 16 = .ok (.iload_n 1, 1) := by decide +kernel
theorem d_Mo_look_17 : decode b_Mo_look 17 = .ok (.iconst 1, 1) := by decide +kernel
theorem d_Mo_look_18 : decode b_Mo_look 18 = .ok (.if_icmp .ne 10, 3) := by decide +kernel
theorem d_Mo_look_21 : decode b_Mo_look 21 = .ok (.aload_n 0, 1) := by decide +kernel
theorem d_Mo_look_22 : decode b_Mo_look 22 = .ok (.getfield 93, 3) := by decide +kernel
theorem d_Mo_look_25 : decode b_Mo_look 25 = .ok (.goto 50, 3) := by decide +kernel
theorem d_Mo_look_28 : decode b_Mo_look 28 = .ok (.iload_n 1, 1) := by decide +kernel
theorem d_Mo_look_29 : decode b_Mo_look 29 = .ok (.iconst 2, 1) := by decide +kernel
theorem d_Mo_look_30 : decode b_Mo_look 30 = .ok (.if_icmp .ne 10, 3) := by decide +kernel
theorem d_Mo_look_33 : decode b_Mo_look 33 = .ok (.aload_n 0, 1) := by decide +kernel
theorem d_Mo_look_34 : decode b_Mo_look 34 = .ok (.getfield 109, 3) := by decide +kernel
theorem d_Mo_look_37 : decode b_Mo_look 37 = .ok (.goto 38, 3) := by decide +kernel
theorem d_Mo_look_40 : decode b_Mo_look 40 = .ok (.iload_n 1, 1) := by decide +kernel
theorem d_Mo_look_41 : decode b_Mo_look 41 = .ok (.iconst 3, 1) := by decide +kernel
theorem d_Mo_look_42 : decode b_Mo_look 42 = .ok (.if_icmp .ne 10, 3) := by decide +kernel
theorem d_Mo_look_45 : decode b_Mo_look 45 = .ok (.aload_n 0, 1) := by decide +kernel
theorem d_Mo_look_46 : decode b_Mo_look 46 = .ok (.getfield 112, 3) := by decide +kernel
theorem d_Mo_look_49 : decode b_Mo_look 49 = .ok (.goto 26, 3) := by decide +kernel
theorem d_Mo_look_52 : decode b_Mo_look 52 = .ok (.iload_n 1, 1) := by decide +kernel
theorem d_Mo_look_53 : decode b_Mo_look 53 = .ok (.iconst 3, 1) := by decide +kernel
theorem d_Mo_look_54 : decode b_Mo_look 54 = .ok (.if_icmp .le 20, 3) := by decide +kernel
theorem d_Mo_look_57 : decode b_Mo_look 57 = .ok (.iload_n 1, 1) := by decide +kernel
theorem d_Mo_look_58 : decode b_Mo_look 58 = .ok (.bipush 10, 2) := by decide +kernel
theorem d_Mo_look_60 : decode b_Mo_look 60 = .ok (.if_icmp .ge 14, 3) := by decide +kernel
theorem d_Mo_look_63 : decode b_Mo_look 63 = .ok (.aload_n 0, 1) := by decide +kernel
theorem d_Mo_look_64 : decode b_Mo_look 64 = .ok (.getfield 7, 3) := by decide +kernel
theorem d_Mo_look_67 : decode b_Mo_look 67 = .ok (.iload_n 1, 1) := by decide +kernel
theorem d_Mo_look_68 : decode b_Mo_look 68 = .ok (.iconst 4, 1) := by decide +kernel
theorem d_Mo_look_69 : decode b_Mo_look 69 = .ok (.isub, 1) := by decide +kernel
theorem d_Mo_look_70 : decode b_Mo_look 70 = .ok (.iaload, 1) := by decide +kernel
theorem d_Mo_look_71 : decode b_Mo_look 71 = .ok (.goto 4, 3) := by decide +kernel
theorem d_Mo_look_74 : decode b_Mo_look 74 = .ok (.iconst (-1), 1) := by decide +kernel
theorem d_Mo_look_75 : decode b_Mo_look 75 = .ok (.ireturn, 1) := by decide +kernel
