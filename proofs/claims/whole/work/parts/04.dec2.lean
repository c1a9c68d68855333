theorem dX8_look_138 : decode cX8_look 138 = .ok (.ireturn, 1) := by decide +kernel
theorem dX8_look_139 : decode cX8_look 139 = .ok (.aload_n 0, 1) := by decide +kernel
theorem dX8_look_140 : decode cX8_look 140 = .ok (.iload_n 1, 1) := by decide +kernel
theorem dX8_look_141 : decode cX8_look 141 = .ok (.invokevirtual 156, 3) := by decide +kernel
theorem dX8_look_144 : decode cX8_look 144 = .ok (.ifCond .eq 7, 3) := by decide +kernel
theorem dX8_look_147 : decode cX8_look 147 = .ok (.iconst 1, 1) := by decide +kernel
theorem dX8_look_148 : decode cX8_look 148 = .ok (.goto 4, 3) := by decide +kernel
theorem dX8_look_151 : decode cX8_look 151 = .ok (.iconst 0, 1) := by decide +kernel
theorem dX8_look_152 : decode cX8_look 152 = .ok (.ireturn, 1) := by decide +kernel
theorem dX8_look_153 : decode cX8_look 153 = .ok (.aload_n 0, 1) := by decide +kernel
theorem dX8_look_154 : decode cX8_look 154 = .ok (.getfield 57, 3) := by decide +kernel
theorem dX8_look_157 : decode cX8_look 157 = .ok (.iload_n 1, 1) := by decide +kernel
theorem dX8_look_158 : decode cX8_look 158 = .ok (.iaload, 1) := by decide +kernel
theorem dX8_look_159 : decode cX8_look 159 = .ok (.ireturn, 1) := by decide +kernel
theorem dX8_look_160 : decode cX8_look 160 = .ok (.aload_n 0, 1) := by decide +kernel
theorem dX8_look_161 : decode cX8_look 161 = .ok (.getfield 60, 3) := by decide +kernel
theorem dX8_look_164 : decode cX8_look 164 = .ok (.iload_n 1, 1) := by decide +kernel
theorem dX8_look_165 : decode cX8_look 165 = .ok (.iaload, 1) := by decide +kernel
theorem dX8_look_166 : decode cX8_look 166 = .ok (.ireturn, 1) := by decide +kernel
theorem dX8_look_167 : decode cX8_look 167 = .ok (.aload_n 0, 1) := by decide +kernel
theorem dX8_look_168 : decode cX8_look 168 = .ok (.getfield 69, 3) := by decide +kernel
theorem dX8_look_171 : decode cX8_look 171 = .ok (.iload_n 1, 1) := by decide +kernel
theorem dX8_look_172 : decode cX8_look 172 = .ok (.iaload, 1) := by decide +kernel
theorem dX8_look_173 : decode cX8_look 173 = .ok (.ireturn, 1) := by decide +kernel
theorem dX8_look_174 : decode cX8_look 174 = .ok (.aload_n 0, 1) := by decide +kernel
theorem dX8_look_175 : decode cX8_look 175 = .ok (.iconst 2, 1) := by decide +kernel
theorem dX8_look_176 : decode cX8_look 176 = .ok (.putfield 87, 3) := by decide +kernel
theorem dX8_look_179 : decode cX8_look 179 = .ok (.iconst 0, 1) := by decide +kernel
theorem dX8_look_180 : decode cX8_look 180 = .ok (.ireturn, 1) := by decide +kernel
theorem dX8_line_0 : decode cX8_line 0 = .ok (.aload_n 0, 1) := by decide +kernel
theorem dX8_line_1 : decode cX8_line 1 = .ok (.iconst 0, 1) := by decide +kernel
theorem dX8_line_2 : decode cX8_line 2 = .ok (.putfield 87, 3) := by decide +kernel
theorem dX8_line_5 : decode cX8_line 5 = .ok (.aload_n 0, 1) := by decide +kernel
theorem dX8_line_6 : decode cX8_line 6 = .ok (.aload_n 0, 1) := by decide +kernel
theorem dX8_line_7 : decode cX8_line 7 = .ok (.iload_n 1, 1) := by decide +kernel
theorem dX8_line_8 : decode cX8_line 8 = .ok (.invokevirtual 142, 3) := by decide +kernel
theorem dX8_line_11 : decode cX8_line 11 = .ok (.iconst 1, 1) := by decide +kernel
theorem dX8_line_12 : decode cX8_line 12 = .ok (.invokevirtual 106, 3) := by decide +kernel
theorem dX8_line_15 : decode cX8_line 15 = .ok (.ifCond .eq 5, 3) := by decide +kernel
theorem dX8_line_18 : decode cX8_line 18 = .ok (.iconst 0, 1) := by decide +kernel
theorem dX8_line_19 : decode cX8_line 19 = .ok (.ireturn, 1) := by decide +kernel
theorem dX8_line_20 : decode cX8_line 20 = .ok (.iload_n 2, 1) := by decide +kernel
theorem dX8_line_21 : decode cX8_line 21 = .ok (.ifCond .lt 19, 3) := by decide +kernel
theorem dX8_line_24 : decode cX8_line 24 = .ok (.iload_n 2, 1) := by decide +kernel
theorem dX8_line_25 : decode cX8_line 25 = .ok (.aload_n 0, 1) := by decide +kernel
theorem dX8_line_26 : decode cX8_line 26 = .ok (.getfield 69, 3) := by decide +kernel
theorem dX8_line_29 : decode cX8_line 29 = .ok (.iload_n 1, 1) := by decide +kernel
theorem dX8_line_30 : decode cX8_line 30 = .ok (.iaload, 1) := by decide +kernel
theorem dX8_line_31 : decode cX8_line 31 = .ok (.if_icmp .ge 9, 3) := by decide +kernel
theorem dX8_line_34 : decode cX8_line 34 = .ok (.iload_n 2, 1) := by decide +kernel
theorem dX8_line_35 : decode cX8_line 35 = .ok (.bipush 30, 2) := by decide +kernel
theorem dX8_line_37 : decode cX8_line 37 = .ok (.if_icmp .lt 5, 3) := by decide +kernel
theorem dX8_line_40 : decode cX8_line 40 = .ok (.iconst (-1), 1) := by decide +kernel
theorem dX8_line_41 : decode cX8_line 41 = .ok (.ireturn, 1) := by decide +kernel
theorem dX8_line_42 : decode cX8_line 42 = .ok (.iload_n 3, 1) := by decide +kernel
theorem dX8_line_43 : decode cX8_line 43 = .ok (.ifCond .eq 17, 3) := by decide +kernel
theorem dX8_line_46 : decode cX8_line 46 = .ok (.aload_n 0, 1) := by decide +kernel
theorem dX8_line_47 : decode cX8_line 47 = .ok (.getfield 66, 3) := by decide +kernel
theorem dX8_line_50 : decode cX8_line 50 = .ok (.bipush 30, 2) := by decide +kernel
theorem dX8_line_52 : decode cX8_line 52 = .ok (.iload_n 1, 1) := by decide +kernel
theorem dX8_line_53 : decode cX8_line 53 = .ok (.imul, 1) := by decide +kernel
theorem dX8_line_54 : decode cX8_line 54 = .ok (.iload_n 2, 1) := by decide +kernel
theorem dX8_line_55 : decode cX8_line 55 = .ok (.iadd, 1) := by decide +kernel
theorem dX8_line_56 : decode cX8_line 56 = .ok (.iaload, 1) := by decide +kernel
theorem dX8_line_57 : decode cX8_line 57 = .ok (.goto 14, 3) := by decide +kernel
theorem dX8_line_60 : decode cX8_line 60 = .ok (.aload_n 0, 1) := by decide +kernel
theorem dX8_line_61 : decode cX8_line 61 = .ok (.getfield 63, 3) := by decide +kernel
theorem dX8_line_64 : decode cX8_line 64 = .ok (.bipush 30, 2) := by decide +kernel
theorem dX8_line_66 : decode cX8_line 66 = .ok (.iload_n 1, 1) := by decide +kernel
theorem dX8_line_67 : decode cX8_line 67 = .ok (.imul, 1) := by decide +kernel
theorem dX8_line_68 : decode cX8_line 68 = .ok (.iload_n 2, 1) := by decide +kernel
theorem dX8_line_69 : decode cX8_line 69 = .ok (.iadd, 1) := by decide +kernel
theorem dX8_line_70 : decode cX8_line 70 = .ok (.iaload, 1) := by decide +kernel
theorem dX8_line_71 : decode cX8_line 71 = .ok (.ireturn, 1) := by decide +kernel
theorem dX8_offer_0 : decode cX8_offer 0 = .ok (.aload_n 0, 1) := by decide +kernel
theorem dX8_offer_1 : decode cX8_offer 1 = .ok (.iconst 0, 1) := by decide +kernel
theorem dX8_offer_2 : decode cX8_offer 2 = .ok (.putfield 87, 3) := by decide +kernel
theorem dX8_offer_5 : decode cX8_offer 5 = .ok (.aload_n 0, 1) := by decide +kernel
theorem dX8_offer_6 : decode cX8_offer 6 = .ok (.iload_n 1, 1) := by decide +kernel
theorem dX8_offer_7 : decode cX8_offer 7 = .ok (.invokevirtual 124, 3) := by decide +kernel
theorem dX8_offer_10 : decode cX8_offer 10 = .ok (.ifCond .ne 57, 3) := by decide +kernel
theorem dX8_offer_13 : decode cX8_offer 13 = .ok (.aload_n 0, 1) := by decide +kernel
theorem dX8_offer_14 : decode cX8_offer 14 = .ok (.iload_n 2, 1) := by decide +kernel
theorem dX8_offer_15 : decode cX8_offer 15 = .ok (.invokevirtual 124, 3) := by decide +kernel
theorem dX8_offer_18 : decode cX8_offer 18 = .ok (.ifCond .ne 49, 3) := by decide +kernel
theorem dX8_offer_21 : decode cX8_offer 21 = .ok (.iload 4, 2) := by decide +kernel
theorem dX8_offer_23 : decode cX8_offer 23 = .ok (.invokestatic 114, 3) := by decide +kernel
theorem dX8_offer_26 : decode cX8_offer 26 = .ok (.ifCond .ne 41, 3) := by decide +kernel
theorem dX8_offer_29 : decode cX8_offer 29 = .ok (.iload 7, 2) := by decide +kernel
theorem dX8_offer_31 : decode cX8_offer 31 = .ok (.invokestatic 114, 3) := by decide +kernel
theorem dX8_offer_34 : decode cX8_offer 34 = .ok (.ifCond .ne 33, 3) := by decide +kernel
theorem dX8_offer_37 : decode cX8_offer 37 = .ok (.iload 5, 2) := by decide +kernel
theorem dX8_offer_39 : decode cX8_offer 39 = .ok (.iconst (-1), 1) := by decide +kernel
theorem dX8_offer_40 : decode cX8_offer 40 = .ok (.if_icmp .eq 12, 3) := by decide +kernel
theorem dX8_offer_43 : decode cX8_offer 43 = .ok (.aload_n 0, 1) := by decide +kernel
theorem dX8_offer_44 : decode cX8_offer 44 = .ok (.iload 5, 2) := by decide +kernel
theorem dX8_offer_46 : decode cX8_offer 46 = .ok (.invokevirtual 142, 3) := by decide +kernel
theorem dX8_offer_49 : decode cX8_offer 49 = .ok (.ifCond .ne 18, 3) := by decide +kernel
theorem dX8_offer_52 : decode cX8_offer 52 = .ok (.iload 8, 2) := by decide +kernel
theorem dX8_offer_54 : decode cX8_offer 54 = .ok (.iconst (-1), 1) := by decide +kernel
theorem dX8_offer_55 : decode cX8_offer 55 = .ok (.if_icmp .eq 16, 3) := by decide +kernel
theorem dX8_offer_58 : decode cX8_offer 58 = .ok (.aload_n 0, 1) := by decide +kernel
theorem dX8_offer_59 : decode cX8_offer 59 = .ok (.iload 8, 2) := by decide +kernel
theorem dX8_offer_61 : decode cX8_offer 61 = .ok (.invokevirtual 142, 3) := by decide +kernel
theorem dX8_offer_64 : decode cX8_offer 64 = .ok (.ifCond .eq 7, 3) := by decide +kernel
theorem dX8_offer_67 : decode cX8_offer 67 = .ok (.iconst 1, 1) := by decide +kernel
theorem dX8_offer_68 : decode cX8_offer 68 = .ok (.goto 4, 3) := by decide +kernel
theorem dX8_offer_71 : decode cX8_offer 71 = .ok (.iconst 0, 1) := by decide +kernel
theorem dX8_offer_72 : decode cX8_offer 72 = .ok (.istore 9, 2) := by decide +kernel
theorem dX8_offer_74 : decode cX8_offer 74 = .ok (.aload_n 0, 1) := by decide +kernel
theorem dX8_offer_75 : decode cX8_offer 75 = .ok (.iload 9, 2) := by decide +kernel
theorem dX8_offer_77 : decode cX8_offer 77 = .ok (.iconst 1, 1) := by decide +kernel
theorem dX8_offer_78 : decode cX8_offer 78 = .ok (.invokevirtual 106, 3) := by decide +kernel
theorem dX8_offer_81 : decode cX8_offer 81 = .ok (.ifCond .ne 68, 3) := by decide +kernel
theorem dX8_offer_84 : decode cX8_offer 84 = .ok (.aload_n 0, 1) := by decide +kernel
theorem dX8_offer_85 : decode cX8_offer 85 = .ok (.iload_n 1, 1) := by decide +kernel
theorem dX8_offer_86 : decode cX8_offer 86 = .ok (.iload_n 2, 1) := by decide +kernel
theorem dX8_offer_87 : decode cX8_offer 87 = .ok (.if_icmp .eq 28, 3) := by decide +kernel
theorem dX8_offer_90 : decode cX8_offer 90 = .ok (.iload_n 3, 1) := by decide +kernel
theorem dX8_offer_91 : decode cX8_offer 91 = .ok (.i2l, 1) := by decide +kernel
theorem dX8_offer_92 : decode cX8_offer 92 = .ok (.lconst 0, 1) := by decide +kernel
theorem dX8_offer_93 : decode cX8_offer 93 = .ok (.ldc2_w 173, 3) := by decide +kernel
theorem dX8_offer_96 : decode cX8_offer 96 = .ok (.invokestatic 94, 3) := by decide +kernel
theorem dX8_offer_99 : decode cX8_offer 99 = .ok (.ifCond .eq 16, 3) := by decide +kernel
theorem dX8_offer_102 : decode cX8_offer 102 = .ok (.iload 6, 2) := by decide +kernel
theorem dX8_offer_104 : decode cX8_offer 104 = .ok (.i2l, 1) := by decide +kernel
theorem dX8_offer_105 : decode cX8_offer 105 = .ok (.lconst 0, 1) := by decide +kernel
theorem dX8_offer_106 : decode cX8_offer 106 = .ok (.ldc2_w 173, 3) := by decide +kernel
theorem dX8_offer_109 : decode cX8_offer 109 = .ok (.invokestatic 94, 3) := by decide +kernel
theorem dX8_offer_112 : decode cX8_offer 112 = .ok (.ifCond .ne 7, 3) := by decide +kernel
theorem dX8_offer_115 : decode cX8_offer 115 = .ok (.iconst 1, 1) := by decide +kernel
theorem dX8_offer_116 : decode cX8_offer 116 = .ok (.goto 4, 3) := by decide +kernel
theorem dX8_offer_119 : decode cX8_offer 119 = .ok (.iconst 0, 1) := by decide +kernel
theorem dX8_offer_120 : decode cX8_offer 120 = .ok (.iconst 2, 1) := by decide +kernel
theorem dX8_offer_121 : decode cX8_offer 121 = .ok (.invokevirtual 106, 3) := by decide +kernel
theorem dX8_offer_124 : decode cX8_offer 124 = .ok (.ifCond .ne 25, 3) := by decide +kernel
theorem dX8_offer_127 : decode cX8_offer 127 = .ok (.aload_n 0, 1) := by decide +kernel
theorem dX8_offer_128 : decode cX8_offer 128 = .ok (.aload_n 0, 1) := by decide +kernel
theorem dX8_offer_129 : decode cX8_offer 129 = .ok (.getfield 175, 3) := by decide +kernel
theorem dX8_offer_132 : decode cX8_offer 132 = .ok (.bipush 60, 2) := by decide +kernel
theorem dX8_offer_134 : decode cX8_offer 134 = .ok (.if_icmp .ne 7, 3) := by decide +kernel
theorem dX8_offer_137 : decode cX8_offer 137 = .ok (.iconst 1, 1) := by decide +kernel
theorem dX8_offer_138 : decode cX8_offer 138 = .ok (.goto 4, 3) := by decide +kernel
theorem dX8_offer_141 : decode cX8_offer 141 = .ok (.iconst 0, 1) := by decide +kernel
theorem dX8_offer_142 : decode cX8_offer 142 = .ok (.iconst 3, 1) := by decide +kernel
theorem dX8_offer_143 : decode cX8_offer 143 = .ok (.invokevirtual 106, 3) := by decide +kernel
theorem dX8_offer_146 : decode cX8_offer 146 = .ok (.ifCond .eq 5, 3) := by decide +kernel
theorem dX8_offer_149 : decode cX8_offer 149 = .ok (.iconst 0, 1) := by decide +kernel
theorem dX8_offer_150 : decode cX8_offer 150 = .ok (.ireturn, 1) := by decide +kernel
theorem dX8_offer_151 : decode cX8_offer 151 = .ok (.bipush 10, 2) := by decide +kernel
theorem dX8_offer_153 : decode cX8_offer 153 = .ok (.aload_n 0, 1) := by decide +kernel
theorem dX8_offer_154 : decode cX8_offer 154 = .ok (.getfield 175, 3) := by decide +kernel
theorem dX8_offer_157 : decode cX8_offer 157 = .ok (.imul, 1) := by decide +kernel
theorem dX8_offer_158 : decode cX8_offer 158 = .ok (.istore 10, 2) := by decide +kernel
theorem dX8_offer_160 : decode cX8_offer 160 = .ok (.aload_n 0, 1) := by decide +kernel
theorem dX8_offer_161 : decode cX8_offer 161 = .ok (.getfield 72, 3) := by decide +kernel
theorem dX8_offer_164 : decode cX8_offer 164 = .ok (.iload 10, 2) := by decide +kernel
theorem dX8_offer_166 : decode cX8_offer 166 = .ok (.iload_n 1, 1) := by decide +kernel
theorem dX8_offer_167 : decode cX8_offer 167 = .ok (.iastore, 1) := by decide +kernel
theorem dX8_offer_168 : decode cX8_offer 168 = .ok (.aload_n 0, 1) := by decide +kernel
theorem dX8_offer_169 : decode cX8_offer 169 = .ok (.getfield 72, 3) := by decide +kernel
theorem dX8_offer_172 : decode cX8_offer 172 = .ok (.iload 10, 2) := by decide +kernel
theorem dX8_offer_174 : decode cX8_offer 174 = .ok (.iconst 1, 1) := by decide +kernel
theorem dX8_offer_175 : decode cX8_offer 175 = .ok (.iadd, 1) := by decide +kernel
theorem dX8_offer_176 : decode cX8_offer 176 = .ok (.iload_n 2, 1) := by decide +kernel
theorem dX8_offer_177 : decode cX8_offer 177 = .ok (.iastore, 1) := by decide +kernel
theorem dX8_offer_178 : decode cX8_offer 178 = .ok (.aload_n 0, 1) := by decide +kernel
theorem dX8_offer_179 : decode cX8_offer 179 = .ok (.getfield 72, 3) := by decide +kernel
theorem dX8_offer_182 : decode cX8_offer 182 = .ok (.iload 10, 2) := by decide +kernel
theorem dX8_offer_184 : decode cX8_offer 184 = .ok (.iconst 2, 1) := by decide +kernel
theorem dX8_offer_185 : decode cX8_offer 185 = .ok (.iadd, 1) := by decide +kernel
theorem dX8_offer_186 : decode cX8_offer 186 = .ok (.iload_n 3, 1) := by decide +kernel
theorem dX8_offer_187 : decode cX8_offer 187 = .ok (.iastore, 1) := by decide +kernel
theorem dX8_offer_188 : decode cX8_offer 188 = .ok (.aload_n 0, 1) := by decide +kernel
theorem dX8_offer_189 : decode cX8_offer 189 = .ok (.getfield 72, 3) := by decide +kernel
theorem dX8_offer_192 : decode cX8_offer 192 = .ok (.iload 10, 2) := by decide +kernel
theorem dX8_offer_194 : decode cX8_offer 194 = .ok (.iconst 3, 1) := by decide +kernel
theorem dX8_offer_195 : decode cX8_offer 195 = .ok (.iadd, 1) := by decide +kernel
theorem dX8_offer_196 : decode cX8_offer 196 = .ok (.iload 4, 2) := by decide +kernel
theorem dX8_offer_198 : decode cX8_offer 198 = .ok (.iastore, 1) := by decide +kernel
theorem dX8_offer_199 : decode cX8_offer 199 = .ok (.aload_n 0, 1) := by decide +kernel
theorem dX8_offer_200 : decode cX8_offer 200 = .ok (.getfield 72, 3) := by decide +kernel
theorem dX8_offer_203 : decode cX8_offer 203 = .ok (.iload 10, 2) := by decide +kernel
theorem dX8_offer_205 : decode cX8_offer 205 = .ok (.iconst 4, 1) := by decide +kernel
theorem dX8_offer_206 : decode cX8_offer 206 = .ok (.iadd, 1) := by decide +kernel
theorem dX8_offer_207 : decode cX8_offer 207 = .ok (.iload 5, 2) := by decide +kernel
theorem dX8_offer_209 : decode cX8_offer 209 = .ok (.iastore, 1) := by decide +kernel
theorem dX8_offer_210 : decode cX8_offer 210 = .ok (.aload_n 0, 1) := by decide +kernel
theorem dX8_offer_211 : decode cX8_offer 211 = .ok (.getfield 72, 3) := by decide +kernel
theorem dX8_offer_214 : decode cX8_offer 214 = .ok (.iload 10, 2) := by decide +kernel
theorem dX8_offer_216 : decode cX8_offer 216 = .ok (.iconst 5, 1) := by decide +kernel
theorem dX8_offer_217 : decode cX8_offer 217 = .ok (.iadd, 1) := by decide +kernel
theorem dX8_offer_218 : decode cX8_offer 218 = .ok (.iload 6, 2) := by decide +kernel
theorem dX8_offer_220 : decode cX8_offer 220 = .ok (.iastore, 1) := by decide +kernel
theorem dX8_offer_221 : decode cX8_offer 221 = .ok (.aload_n 0, 1) := by decide +kernel
theorem dX8_offer_222 : decode cX8_offer 222 = .ok (.getfield 72, 3) := by decide +kernel
theorem dX8_offer_225 : decode cX8_offer 225 = .ok (.iload 10, 2) := by decide +kernel
theorem dX8_offer_227 : decode cX8_offer 227 = .ok (.bipush 6, 2) := by decide +kernel
theorem dX8_offer_229 : decode cX8_offer 229 = .ok (.iadd, 1) := by decide +kernel
theorem dX8_offer_230 : decode cX8_offer 230 = .ok (.iload 7, 2) := by decide +kernel
theorem dX8_offer_232 : decode cX8_offer 232 = .ok (.iastore, 1) := by decide +kernel
theorem dX8_offer_233 : decode cX8_offer 233 = .ok (.aload_n 0, 1) := by decide +kernel
theorem dX8_offer_234 : decode cX8_offer 234 = .ok (.getfield 72, 3) := by decide +kernel
theorem dX8_offer_237 : decode cX8_offer 237 = .ok (.iload 10, 2) := by decide +kernel
theorem dX8_offer_239 : decode cX8_offer 239 = .ok (.bipush 7, 2) := by decide +kernel
theorem dX8_offer_241 : decode cX8_offer 241 = .ok (.iadd, 1) := by decide +kernel
theorem dX8_offer_242 : decode cX8_offer 242 = .ok (.iload 8, 2) := by decide +kernel
theorem dX8_offer_244 : decode cX8_offer 244 = .ok (.iastore, 1) := by decide +kernel
theorem dX8_offer_245 : decode cX8_offer 245 = .ok (.aload_n 0, 1) := by decide +kernel
theorem dX8_offer_246 : decode cX8_offer 246 = .ok (.getfield 72, 3) := by decide +kernel
theorem dX8_offer_249 : decode cX8_offer 249 = .ok (.iload 10, 2) := by decide +kernel
theorem dX8_offer_251 : decode cX8_offer 251 = .ok (.bipush 8, 2) := by decide +kernel
theorem dX8_offer_253 : decode cX8_offer 253 = .ok (.iadd, 1) := by decide +kernel
theorem dX8_offer_254 : decode cX8_offer 254 = .ok (.iload 5, 2) := by decide +kernel
theorem dX8_offer_256 : decode cX8_offer 256 = .ok (.ifCond .ge 7, 3) := by decide +kernel
theorem dX8_offer_259 : decode cX8_offer 259 = .ok (.iconst 0, 1) := by decide +kernel
theorem dX8_offer_260 : decode cX8_offer 260 = .ok (.goto 10, 3) := by decide +kernel
theorem dX8_offer_263 : decode cX8_offer 263 = .ok (.aload_n 0, 1) := by decide +kernel
theorem dX8_offer_264 : decode cX8_offer 264 = .ok (.getfield 42, 3) := by decide +kernel
theorem dX8_offer_267 : decode cX8_offer 267 = .ok (.iload 5, 2) := by decide +kernel
theorem dX8_offer_269 : decode cX8_offer 269 = .ok (.iaload, 1) := by decide +kernel
theorem dX8_offer_270 : decode cX8_offer 270 = .ok (.iastore, 1) := by decide +kernel
theorem dX8_offer_271 : decode cX8_offer 271 = .ok (.aload_n 0, 1) := by decide +kernel
theorem dX8_offer_272 : decode cX8_offer 272 = .ok (.getfield 72, 3) := by decide +kernel
theorem dX8_offer_275 : decode cX8_offer 275 = .ok (.iload 10, 2) := by decide +kernel
theorem dX8_offer_277 : decode cX8_offer 277 = .ok (.bipush 9, 2) := by decide +kernel
theorem dX8_offer_279 : decode cX8_offer 279 = .ok (.iadd, 1) := by decide +kernel
theorem dX8_offer_280 : decode cX8_offer 280 = .ok (.iload 8, 2) := by decide +kernel
theorem dX8_offer_282 : decode cX8_offer 282 = .ok (.ifCond .ge 7, 3) := by decide +kernel
theorem dX8_offer_285 : decode cX8_offer 285 = .ok (.iconst 0, 1) := by decide +kernel
theorem dX8_offer_286 : decode cX8_offer 286 = .ok (.goto 10, 3) := by decide +kernel
theorem dX8_offer_289 : decode cX8_offer 289 = .ok (.aload_n 0, 1) := by decide +kernel
theorem dX8_offer_290 : decode cX8_offer 290 = .ok (.getfield 42, 3) := by decide +kernel
theorem dX8_offer_293 : decode cX8_offer 293 = .ok (.iload 8, 2) := by decide +kernel
theorem dX8_offer_295 : decode cX8_offer 295 = .ok (.iaload, 1) := by decide +kernel
theorem dX8_offer_296 : decode cX8_offer 296 = .ok (.iastore, 1) := by decide +kernel
theorem dX8_offer_297 : decode cX8_offer 297 = .ok (.aload_n 0, 1) := by decide +kernel
theorem dX8_offer_298 : decode cX8_offer 298 = .ok (.getfield 75, 3) := by decide +kernel
theorem dX8_offer_301 : decode cX8_offer 301 = .ok (.aload_n 0, 1) := by decide +kernel
theorem dX8_offer_302 : decode cX8_offer 302 = .ok (.getfield 175, 3) := by decide +kernel
theorem dX8_offer_305 : decode cX8_offer 305 = .ok (.iconst 1, 1) := by decide +kernel
theorem dX8_offer_306 : decode cX8_offer 306 = .ok (.bastore, 1) := by decide +kernel
theorem dX8_offer_307 : decode cX8_offer 307 = .ok (.aload_n 0, 1) := by decide +kernel
theorem dX8_offer_308 : decode cX8_offer 308 = .ok (.dup, 1) := by decide +kernel
theorem dX8_offer_309 : decode cX8_offer 309 = .ok (.getfield 175, 3) := by decide +kernel
theorem dX8_offer_312 : decode cX8_offer 312 = .ok (.iconst 1, 1) := by decide +kernel
theorem dX8_offer_313 : decode cX8_offer 313 = .ok (.iadd, 1) := by decide +kernel
theorem dX8_offer_314 : decode cX8_offer 314 = .ok (.putfield 175, 3) := by decide +kernel
theorem dX8_offer_317 : decode cX8_offer 317 = .ok (.aload_n 0, 1) := by decide +kernel
theorem dX8_offer_318 : decode cX8_offer 318 = .ok (.getfield 175, 3) := by decide +kernel
theorem dX8_offer_321 : decode cX8_offer 321 = .ok (.iconst 1, 1) := by decide +kernel
theorem dX8_offer_322 : decode cX8_offer 322 = .ok (.isub, 1) := by decide +kernel
theorem dX8_offer_323 : decode cX8_offer 323 = .ok (.ireturn, 1) := by decide +kernel
theorem dX8_after_0 : decode cX8_after 0 = .ok (.aload_n 0, 1) := by decide +kernel
theorem dX8_after_1 : decode cX8_after 1 = .ok (.getfield 9, 3) := by decide +kernel
theorem dX8_after_4 : decode cX8_after 4 = .ok (.iconst 4, 1) := by decide +kernel
theorem dX8_after_5 : decode cX8_after 5 = .ok (.iload_n 1, 1) := by decide +kernel
theorem dX8_after_6 : decode cX8_after 6 = .ok (.imul, 1) := by decide +kernel
theorem dX8_after_7 : decode cX8_after 7 = .ok (.iload 4, 2) := by decide +kernel
theorem dX8_after_9 : decode cX8_after 9 = .ok (.iadd, 1) := by decide +kernel
theorem dX8_after_10 : decode cX8_after 10 = .ok (.iaload, 1) := by decide +kernel
theorem dX8_after_11 : decode cX8_after 11 = .ok (.istore 6, 2) := by decide +kernel
theorem dX8_after_13 : decode cX8_after 13 = .ok (.iload_n 2, 1) := by decide +kernel
theorem dX8_after_14 : decode cX8_after 14 = .ok (.iload 4, 2) := by decide +kernel
theorem dX8_after_16 : decode cX8_after 16 = .ok (.if_icmp .ne 9, 3) := by decide +kernel
theorem dX8_after_19 : decode cX8_after 19 = .ok (.iload 6, 2) := by decide +kernel
theorem dX8_after_21 : decode cX8_after 21 = .ok (.iload_n 3, 1) := by decide +kernel
theorem dX8_after_22 : decode cX8_after 22 = .ok (.isub, 1) := by decide +kernel
theorem dX8_after_23 : decode cX8_after 23 = .ok (.istore 6, 2) := by decide +kernel
theorem dX8_after_25 : decode cX8_after 25 = .ok (.iload 6, 2) := by decide +kernel
theorem dX8_after_27 : decode cX8_after 27 = .ok (.ldc 178, 2) := by decide +kernel
theorem dX8_after_29 : decode cX8_after 29 = .ok (.iload 5, 2) := by decide +kernel
theorem dX8_after_31 : decode cX8_after 31 = .ok (.isub, 1) := by decide +kernel
theorem dX8_after_32 : decode cX8_after 32 = .ok (.if_icmp .le 7, 3) := by decide +kernel
theorem dX8_after_35 : decode cX8_after 35 = .ok (.iconst (-1), 1) := by decide +kernel
theorem dX8_after_36 : decode cX8_after 36 = .ok (.goto 8, 3) := by decide +kernel
theorem dX8_after_39 : decode cX8_after 39 = .ok (.iload 6, 2) := by decide +kernel
theorem dX8_after_41 : decode cX8_after 41 = .ok (.iload 5, 2) := by decide +kernel
theorem dX8_after_43 : decode cX8_after 43 = .ok (.iadd, 1) := by decide +kernel
theorem dX8_after_44 : decode cX8_after 44 = .ok (.ireturn, 1) := by decide +kernel
theorem dX8_against_0 : decode cX8_against 0 = .ok (.aload_n 0, 1) := by decide +kernel
theorem dX8_against_1 : decode cX8_against 1 = .ok (.getfield 72, 3) := by decide +kernel
theorem dX8_against_4 : decode cX8_against 4 = .ok (.iload_n 1, 1) := by decide +kernel
theorem dX8_against_5 : decode cX8_against 5 = .ok (.iaload, 1) := by decide +kernel
theorem dX8_against_6 : decode cX8_against 6 = .ok (.istore_n 2, 1) := by decide +kernel
theorem dX8_against_7 : decode cX8_against 7 = .ok (.aload_n 0, 1) := by decide +kernel
theorem dX8_against_8 : decode cX8_against 8 = .ok (.getfield 72, 3) := by decide +kernel
theorem dX8_against_11 : decode cX8_against 11 = .ok (.iload_n 1, 1) := by decide +kernel
theorem dX8_against_12 : decode cX8_against 12 = .ok (.iconst 1, 1) := by decide +kernel
theorem dX8_against_13 : decode cX8_against 13 = .ok (.iadd, 1) := by decide +kernel
theorem dX8_against_14 : decode cX8_against 14 = .ok (.iaload, 1) := by decide +kernel
theorem dX8_against_15 : decode cX8_against 15 = .ok (.istore_n 3, 1) := by decide +kernel
theorem dX8_against_16 : decode cX8_against 16 = .ok (.aload_n 0, 1) := by decide +kernel
theorem dX8_against_17 : decode cX8_against 17 = .ok (.getfield 72, 3) := by decide +kernel
theorem dX8_against_20 : decode cX8_against 20 = .ok (.iload_n 1, 1) := by decide +kernel
theorem dX8_against_21 : decode cX8_against 21 = .ok (.iconst 4, 1) := by decide +kernel
theorem dX8_against_22 : decode cX8_against 22 = .ok (.iadd, 1) := by decide +kernel
theorem dX8_against_23 : decode cX8_against 23 = .ok (.iaload, 1) := by decide +kernel
theorem dX8_against_24 : decode cX8_against 24 = .ok (.istore 4, 2) := by decide +kernel
theorem dX8_against_26 : decode cX8_against 26 = .ok (.aload_n 0, 1) := by decide +kernel
theorem dX8_against_27 : decode cX8_against 27 = .ok (.getfield 72, 3) := by decide +kernel
theorem dX8_against_30 : decode cX8_against 30 = .ok (.iload_n 1, 1) := by decide +kernel
theorem dX8_against_31 : decode cX8_against 31 = .ok (.bipush 7, 2) := by decide +kernel
theorem dX8_against_33 : decode cX8_against 33 = .ok (.iadd, 1) := by decide +kernel
theorem dX8_against_34 : decode cX8_against 34 = .ok (.iaload, 1) := by decide +kernel
theorem dX8_against_35 : decode cX8_against 35 = .ok (.istore 5, 2) := by decide +kernel
theorem dX8_against_37 : decode cX8_against 37 = .ok (.aload_n 0, 1) := by decide +kernel
theorem dX8_against_38 : decode cX8_against 38 = .ok (.getfield 9, 3) := by decide +kernel
theorem dX8_against_41 : decode cX8_against 41 = .ok (.iconst 4, 1) := by decide +kernel
theorem dX8_against_42 : decode cX8_against 42 = .ok (.iload_n 2, 1) := by decide +kernel
theorem dX8_against_43 : decode cX8_against 43 = .ok (.imul, 1) := by decide +kernel
theorem dX8_against_44 : decode cX8_against 44 = .ok (.aload_n 0, 1) := by decide +kernel
theorem dX8_against_45 : decode cX8_against 45 = .ok (.getfield 72, 3) := by decide +kernel
theorem dX8_against_48 : decode cX8_against 48 = .ok (.iload_n 1, 1) := by decide +kernel
theorem dX8_against_49 : decode cX8_against 49 = .ok (.iconst 3, 1) := by decide +kernel
theorem dX8_against_50 : decode cX8_against 50 = .ok (.iadd, 1) := by decide +kernel
theorem dX8_against_51 : decode cX8_against 51 = .ok (.iaload, 1) := by decide +kernel
theorem dX8_against_52 : decode cX8_against 52 = .ok (.iadd, 1) := by decide +kernel
theorem dX8_against_53 : decode cX8_against 53 = .ok (.iaload, 1) := by decide +kernel
theorem dX8_against_54 : decode cX8_against 54 = .ok (.aload_n 0, 1) := by decide +kernel
theorem dX8_against_55 : decode cX8_against 55 = .ok (.getfield 72, 3) := by decide +kernel
theorem dX8_against_58 : decode cX8_against 58 = .ok (.iload_n 1, 1) := by decide +kernel
theorem dX8_against_59 : decode cX8_against 59 = .ok (.iconst 2, 1) := by decide +kernel
theorem dX8_against_60 : decode cX8_against 60 = .ok (.iadd, 1) := by decide +kernel
theorem dX8_against_61 : decode cX8_against 61 = .ok (.iaload, 1) := by decide +kernel
theorem dX8_against_62 : decode cX8_against 62 = .ok (.if_icmp .ge 5, 3) := by decide +kernel
theorem dX8_against_65 : decode cX8_against 65 = .ok (.iconst 2, 1) := by decide +kernel
theorem dX8_against_66 : decode cX8_against 66 = .ok (.ireturn, 1) := by decide +kernel
theorem dX8_against_67 : decode cX8_against 67 = .ok (.aload_n 0, 1) := by decide +kernel
theorem dX8_against_68 : decode cX8_against 68 = .ok (.getfield 9, 3) := by decide +kernel
theorem dX8_against_71 : decode cX8_against 71 = .ok (.iconst 4, 1) := by decide +kernel
theorem dX8_against_72 : decode cX8_against 72 = .ok (.iload_n 3, 1) := by decide +kernel
theorem dX8_against_73 : decode cX8_against 73 = .ok (.imul, 1) := by decide +kernel
theorem dX8_against_74 : decode cX8_against 74 = .ok (.aload_n 0, 1) := by decide +kernel
theorem dX8_against_75 : decode cX8_against 75 = .ok (.getfield 72, 3) := by decide +kernel
theorem dX8_against_78 : decode cX8_against 78 = .ok (.iload_n 1, 1) := by decide +kernel
theorem dX8_against_79 : decode cX8_against 79 = .ok (.bipush 6, 2) := by decide +kernel
theorem dX8_against_81 : decode cX8_against 81 = .ok (.iadd, 1) := by decide +kernel
theorem dX8_against_82 : decode cX8_against 82 = .ok (.iaload, 1) := by decide +kernel
theorem dX8_against_83 : decode cX8_against 83 = .ok (.iadd, 1) := by decide +kernel
theorem dX8_against_84 : decode cX8_against 84 = .ok (.iaload, 1) := by decide +kernel
theorem dX8_against_85 : decode cX8_against 85 = .ok (.aload_n 0, 1) := by decide +kernel
theorem dX8_against_86 : decode cX8_against 86 = .ok (.getfield 72, 3) := by decide +kernel
theorem dX8_against_89 : decode cX8_against 89 = .ok (.iload_n 1, 1) := by decide +kernel
theorem dX8_against_90 : decode cX8_against 90 = .ok (.iconst 5, 1) := by decide +kernel
theorem dX8_against_91 : decode cX8_against 91 = .ok (.iadd, 1) := by decide +kernel
theorem dX8_against_92 : decode cX8_against 92 = .ok (.iaload, 1) := by decide +kernel
theorem dX8_against_93 : decode cX8_against 93 = .ok (.if_icmp .ge 5, 3) := by decide +kernel
theorem dX8_against_96 : decode cX8_against 96 = .ok (.iconst 3, 1) := by decide +kernel
theorem dX8_against_97 : decode cX8_against 97 = .ok (.ireturn, 1) := by decide +kernel
theorem dX8_against_98 : decode cX8_against 98 = .ok (.aload_n 0, 1) := by decide +kernel
theorem dX8_against_99 : decode cX8_against 99 = .ok (.iload_n 2, 1) := by decide +kernel
theorem dX8_against_100 : decode cX8_against 100 = .ok (.aload_n 0, 1) := by decide +kernel
theorem dX8_against_101 : decode cX8_against 101 = .ok (.getfield 72, 3) := by decide +kernel
theorem dX8_against_104 : decode cX8_against 104 = .ok (.iload_n 1, 1) := by decide +kernel
theorem dX8_against_105 : decode cX8_against 105 = .ok (.iconst 3, 1) := by decide +kernel
theorem dX8_against_106 : decode cX8_against 106 = .ok (.iadd, 1) := by decide +kernel
theorem dX8_against_107 : decode cX8_against 107 = .ok (.iaload, 1) := by decide +kernel
theorem dX8_against_108 : decode cX8_against 108 = .ok (.aload_n 0, 1) := by decide +kernel
theorem dX8_against_109 : decode cX8_against 109 = .ok (.getfield 72, 3) := by decide +kernel
theorem dX8_against_112 : decode cX8_against 112 = .ok (.iload_n 1, 1) := by decide +kernel
theorem dX8_against_113 : decode cX8_against 113 = .ok (.iconst 2, 1) := by decide +kernel
theorem dX8_against_114 : decode cX8_against 114 = .ok (.iadd, 1) := by decide +kernel
theorem dX8_against_115 : decode cX8_against 115 = .ok (.iaload, 1) := by decide +kernel
theorem dX8_against_116 : decode cX8_against 116 = .ok (.aload_n 0, 1) := by decide +kernel
theorem dX8_against_117 : decode cX8_against 117 = .ok (.getfield 72, 3) := by decide +kernel
theorem dX8_against_120 : decode cX8_against 120 = .ok (.iload_n 1, 1) := by decide +kernel
theorem dX8_against_121 : decode cX8_against 121 = .ok (.bipush 6, 2) := by decide +kernel
theorem dX8_against_123 : decode cX8_against 123 = .ok (.iadd, 1) := by decide +kernel
theorem dX8_against_124 : decode cX8_against 124 = .ok (.iaload, 1) := by decide +kernel
theorem dX8_against_125 : decode cX8_against 125 = .ok (.aload_n 0, 1) := by decide +kernel
theorem dX8_against_126 : decode cX8_against 126 = .ok (.getfield 72, 3) := by decide +kernel
theorem dX8_against_129 : decode cX8_against 129 = .ok (.iload_n 1, 1) := by decide +kernel
theorem dX8_against_130 : decode cX8_against 130 = .ok (.iconst 5, 1) := by decide +kernel
theorem dX8_against_131 : decode cX8_against 131 = .ok (.iadd, 1) := by decide +kernel
theorem dX8_against_132 : decode cX8_against 132 = .ok (.iaload, 1) := by decide +kernel
theorem dX8_against_133 : decode cX8_against 133 = .ok (.invokevirtual 179, 3) := by decide +kernel
theorem dX8_against_136 : decode cX8_against 136 = .ok (.ifCond .ge 5, 3) := by decide +kernel
theorem dX8_against_139 : decode cX8_against 139 = .ok (.iconst 4, 1) := by decide +kernel
theorem dX8_against_140 : decode cX8_against 140 = .ok (.ireturn, 1) := by decide +kernel
theorem dX8_against_141 : decode cX8_against 141 = .ok (.aload_n 0, 1) := by decide +kernel
theorem dX8_against_142 : decode cX8_against 142 = .ok (.iload_n 3, 1) := by decide +kernel
theorem dX8_against_143 : decode cX8_against 143 = .ok (.aload_n 0, 1) := by decide +kernel
theorem dX8_against_144 : decode cX8_against 144 = .ok (.getfield 72, 3) := by decide +kernel
theorem dX8_against_147 : decode cX8_against 147 = .ok (.iload_n 1, 1) := by decide +kernel
theorem dX8_against_148 : decode cX8_against 148 = .ok (.bipush 6, 2) := by decide +kernel
theorem dX8_against_150 : decode cX8_against 150 = .ok (.iadd, 1) := by decide +kernel
theorem dX8_against_151 : decode cX8_against 151 = .ok (.iaload, 1) := by decide +kernel
theorem dX8_against_152 : decode cX8_against 152 = .ok (.aload_n 0, 1) := by decide +kernel
theorem dX8_against_153 : decode cX8_against 153 = .ok (.getfield 72, 3) := by decide +kernel
theorem dX8_against_156 : decode cX8_against 156 = .ok (.iload_n 1, 1) := by decide +kernel
theorem dX8_against_157 : decode cX8_against 157 = .ok (.iconst 5, 1) := by decide +kernel
theorem dX8_against_158 : decode cX8_against 158 = .ok (.iadd, 1) := by decide +kernel
theorem dX8_against_159 : decode cX8_against 159 = .ok (.iaload, 1) := by decide +kernel
theorem dX8_against_160 : decode cX8_against 160 = .ok (.aload_n 0, 1) := by decide +kernel
theorem dX8_against_161 : decode cX8_against 161 = .ok (.getfield 72, 3) := by decide +kernel
theorem dX8_against_164 : decode cX8_against 164 = .ok (.iload_n 1, 1) := by decide +kernel
theorem dX8_against_165 : decode cX8_against 165 = .ok (.iconst 3, 1) := by decide +kernel
theorem dX8_against_166 : decode cX8_against 166 = .ok (.iadd, 1) := by decide +kernel
theorem dX8_against_167 : decode cX8_against 167 = .ok (.iaload, 1) := by decide +kernel
theorem dX8_against_168 : decode cX8_against 168 = .ok (.aload_n 0, 1) := by decide +kernel
theorem dX8_against_169 : decode cX8_against 169 = .ok (.getfield 72, 3) := by decide +kernel
theorem dX8_against_172 : decode cX8_against 172 = .ok (.iload_n 1, 1) := by decide +kernel
theorem dX8_against_173 : decode cX8_against 173 = .ok (.iconst 2, 1) := by decide +kernel
theorem dX8_against_174 : decode cX8_against 174 = .ok (.iadd, 1) := by decide +kernel
theorem dX8_against_175 : decode cX8_against 175 = .ok (.iaload, 1) := by decide +kernel
theorem dX8_against_176 : decode cX8_against 176 = .ok (.invokevirtual 179, 3) := by decide +kernel
theorem dX8_against_179 : decode cX8_against 179 = .ok (.ifCond .ge 5, 3) := by decide +kernel
theorem dX8_against_182 : decode cX8_against 182 = .ok (.iconst 5, 1) := by decide +kernel
theorem dX8_against_183 : decode cX8_against 183 = .ok (.ireturn, 1) := by decide +kernel
theorem dX8_against_184 : decode cX8_against 184 = .ok (.iload 4, 2) := by decide +kernel
theorem dX8_against_186 : decode cX8_against 186 = .ok (.ifCond .lt 26, 3) := by decide +kernel
theorem dX8_against_189 : decode cX8_against 189 = .ok (.aload_n 0, 1) := by decide +kernel
theorem dX8_against_190 : decode cX8_against 190 = .ok (.getfield 54, 3) := by decide +kernel
theorem dX8_against_193 : decode cX8_against 193 = .ok (.iload 4, 2) := by decide +kernel
theorem dX8_against_195 : decode cX8_against 195 = .ok (.iaload, 1) := by decide +kernel
theorem dX8_against_196 : decode cX8_against 196 = .ok (.iload_n 2, 1) := by decide +kernel
theorem dX8_against_197 : decode cX8_against 197 = .ok (.if_icmp .ne 12, 3) := by decide +kernel
theorem dX8_against_200 : decode cX8_against 200 = .ok (.aload_n 0, 1) := by decide +kernel
theorem dX8_against_201 : decode cX8_against 201 = .ok (.iload 4, 2) := by decide +kernel
theorem dX8_against_203 : decode cX8_against 203 = .ok (.invokevirtual 159, 3) := by decide +kernel
theorem dX8_against_206 : decode cX8_against 206 = .ok (.ifCond .ne 6, 3) := by decide +kernel
theorem dX8_against_209 : decode cX8_against 209 = .ok (.bipush 6, 2) := by decide +kernel
theorem dX8_against_211 : decode cX8_against 211 = .ok (.ireturn, 1) := by decide +kernel
theorem dX8_against_212 : decode cX8_against 212 = .ok (.iload 5, 2) := by decide +kernel
theorem dX8_against_214 : decode cX8_against 214 = .ok (.ifCond .lt 26, 3) := by decide +kernel
theorem dX8_against_217 : decode cX8_against 217 = .ok (.aload_n 0, 1) := by decide +kernel
theorem dX8_against_218 : decode cX8_against 218 = .ok (.getfield 54, 3) := by decide +kernel
theorem dX8_against_221 : decode cX8_against 221 = .ok (.iload 5, 2) := by decide +kernel
theorem dX8_against_223 : decode cX8_against 223 = .ok (.iaload, 1) := by decide +kernel
theorem dX8_against_224 : decode cX8_against 224 = .ok (.iload_n 3, 1) := by decide +kernel
theorem dX8_against_225 : decode cX8_against 225 = .ok (.if_icmp .ne 12, 3) := by decide +kernel
theorem dX8_against_228 : decode cX8_against 228 = .ok (.aload_n 0, 1) := by decide +kernel
theorem dX8_against_229 : decode cX8_against 229 = .ok (.iload 5, 2) := by decide +kernel
theorem dX8_against_231 : decode cX8_against 231 = .ok (.invokevirtual 159, 3) := by decide +kernel
theorem dX8_against_234 : decode cX8_against 234 = .ok (.ifCond .ne 6, 3) := by decide +kernel
theorem dX8_against_237 : decode cX8_against 237 = .ok (.bipush 7, 2) := by decide +kernel
theorem dX8_against_239 : decode cX8_against 239 = .ok (.ireturn, 1) := by decide +kernel
theorem dX8_against_240 : decode cX8_against 240 = .ok (.iload 4, 2) := by decide +kernel
theorem dX8_against_242 : decode cX8_against 242 = .ok (.ifCond .lt 22, 3) := by decide +kernel
theorem dX8_against_245 : decode cX8_against 245 = .ok (.aload_n 0, 1) := by decide +kernel
theorem dX8_against_246 : decode cX8_against 246 = .ok (.getfield 42, 3) := by decide +kernel
theorem dX8_against_249 : decode cX8_against 249 = .ok (.iload 4, 2) := by decide +kernel
theorem dX8_against_251 : decode cX8_against 251 = .ok (.iaload, 1) := by decide +kernel
theorem dX8_against_252 : decode cX8_against 252 = .ok (.aload_n 0, 1) := by decide +kernel
theorem dX8_against_253 : decode cX8_against 253 = .ok (.getfield 72, 3) := by decide +kernel
theorem dX8_against_256 : decode cX8_against 256 = .ok (.iload_n 1, 1) := by decide +kernel
theorem dX8_against_257 : decode cX8_against 257 = .ok (.bipush 8, 2) := by decide +kernel
theorem dX8_against_259 : decode cX8_against 259 = .ok (.iadd, 1) := by decide +kernel
theorem dX8_against_260 : decode cX8_against 260 = .ok (.iaload, 1) := by decide +kernel
theorem dX8_against_261 : decode cX8_against 261 = .ok (.if_icmp .ne 27, 3) := by decide +kernel
theorem dX8_against_264 : decode cX8_against 264 = .ok (.iload 5, 2) := by decide +kernel
theorem dX8_against_266 : decode cX8_against 266 = .ok (.ifCond .lt 27, 3) := by decide +kernel
theorem dX8_against_269 : decode cX8_against 269 = .ok (.aload_n 0, 1) := by decide +kernel
theorem dX8_against_270 : decode cX8_against 270 = .ok (.getfield 42, 3) := by decide +kernel
theorem dX8_against_273 : decode cX8_against 273 = .ok (.iload 5, 2) := by decide +kernel
theorem dX8_against_275 : decode cX8_against 275 = .ok (.iaload, 1) := by decide +kernel
theorem dX8_against_276 : decode cX8_against 276 = .ok (.aload_n 0, 1) := by decide +kernel
theorem dX8_against_277 : decode cX8_against 277 = .ok (.getfield 72, 3) := by decide +kernel
theorem dX8_against_280 : decode cX8_against 280 = .ok (.iload_n 1, 1) := by decide +kernel
theorem dX8_against_281 : decode cX8_against 281 = .ok (.bipush 9, 2) := by decide +kernel
theorem dX8_against_283 : decode cX8_against 283 = .ok (.iadd, 1) := by decide +kernel
theorem dX8_against_284 : decode cX8_against 284 = .ok (.iaload, 1) := by decide +kernel
theorem dX8_against_285 : decode cX8_against 285 = .ok (.if_icmp .eq 8, 3) := by decide +kernel
theorem dX8_against_288 : decode cX8_against 288 = .ok (.bipush 8, 2) := by decide +kernel
theorem dX8_against_290 : decode cX8_against 290 = .ok (.goto 4, 3) := by decide +kernel
theorem dX8_against_293 : decode cX8_against 293 = .ok (.iconst 0, 1) := by decide +kernel
theorem dX8_against_294 : decode cX8_against 294 = .ok (.ireturn, 1) := by decide +kernel
theorem dX8_agree_0 : decode cX8_agree 0 = .ok (.aload_n 0, 1) := by decide +kernel
theorem dX8_agree_1 : decode cX8_agree 1 = .ok (.iconst 0, 1) := by decide +kernel
theorem dX8_agree_2 : decode cX8_agree 2 = .ok (.putfield 87, 3) := by decide +kernel
theorem dX8_agree_5 : decode cX8_agree 5 = .ok (.aload_n 0, 1) := by decide +kernel
theorem dX8_agree_6 : decode cX8_agree 6 = .ok (.iload_n 1, 1) := by decide +kernel
theorem dX8_agree_7 : decode cX8_agree 7 = .ok (.i2l, 1) := by decide +kernel
theorem dX8_agree_8 : decode cX8_agree 8 = .ok (.lconst 0, 1) := by decide +kernel
theorem dX8_agree_9 : decode cX8_agree 9 = .ok (.aload_n 0, 1) := by decide +kernel
theorem dX8_agree_10 : decode cX8_agree 10 = .ok (.getfield 175, 3) := by decide +kernel
theorem dX8_agree_13 : decode cX8_agree 13 = .ok (.iconst 1, 1) := by decide +kernel
theorem dX8_agree_14 : decode cX8_agree 14 = .ok (.isub, 1) := by decide +kernel
theorem dX8_agree_15 : decode cX8_agree 15 = .ok (.i2l, 1) := by decide +kernel
theorem dX8_agree_16 : decode cX8_agree 16 = .ok (.invokestatic 94, 3) := by decide +kernel
theorem dX8_agree_19 : decode cX8_agree 19 = .ok (.ifCond .ne 7, 3) := by decide +kernel
theorem dX8_agree_22 : decode cX8_agree 22 = .ok (.iconst 1, 1) := by decide +kernel
theorem dX8_agree_23 : decode cX8_agree 23 = .ok (.goto 4, 3) := by decide +kernel
theorem dX8_agree_26 : decode cX8_agree 26 = .ok (.iconst 0, 1) := by decide +kernel
theorem dX8_agree_27 : decode cX8_agree 27 = .ok (.iconst 1, 1) := by decide +kernel
theorem dX8_agree_28 : decode cX8_agree 28 = .ok (.invokevirtual 106, 3) := by decide +kernel
theorem dX8_agree_31 : decode cX8_agree 31 = .ok (.ifCond .eq 5, 3) := by decide +kernel
theorem dX8_agree_34 : decode cX8_agree 34 = .ok (.iconst 0, 1) := by decide +kernel
theorem dX8_agree_35 : decode cX8_agree 35 = .ok (.ireturn, 1) := by decide +kernel
theorem dX8_agree_36 : decode cX8_agree 36 = .ok (.aload_n 0, 1) := by decide +kernel
theorem dX8_agree_37 : decode cX8_agree 37 = .ok (.getfield 75, 3) := by decide +kernel
theorem dX8_agree_40 : decode cX8_agree 40 = .ok (.iload_n 1, 1) := by decide +kernel
theorem dX8_agree_41 : decode cX8_agree 41 = .ok (.baload, 1) := by decide +kernel
theorem dX8_agree_42 : decode cX8_agree 42 = .ok (.ifCond .ne 5, 3) := by decide +kernel
theorem dX8_agree_45 : decode cX8_agree 45 = .ok (.iconst 1, 1) := by decide +kernel
theorem dX8_agree_46 : decode cX8_agree 46 = .ok (.ireturn, 1) := by decide +kernel
theorem dX8_agree_47 : decode cX8_agree 47 = .ok (.bipush 10, 2) := by decide +kernel
theorem dX8_agree_49 : decode cX8_agree 49 = .ok (.iload_n 1, 1) := by decide +kernel
theorem dX8_agree_50 : decode cX8_agree 50 = .ok (.imul, 1) := by decide +kernel
theorem dX8_agree_51 : decode cX8_agree 51 = .ok (.istore_n 2, 1) := by decide +kernel
theorem dX8_agree_52 : decode cX8_agree 52 = .ok (.aload_n 0, 1) := by decide +kernel
theorem dX8_agree_53 : decode cX8_agree 53 = .ok (.iload_n 2, 1) := by decide +kernel
theorem dX8_agree_54 : decode cX8_agree 54 = .ok (.invokevirtual 183, 3) := by decide +kernel
theorem dX8_agree_57 : decode cX8_agree 57 = .ok (.istore_n 3, 1) := by decide +kernel
theorem dX8_agree_58 : decode cX8_agree 58 = .ok (.iload_n 3, 1) := by decide +kernel
theorem dX8_agree_59 : decode cX8_agree 59 = .ok (.ifCond .le 5, 3) := by decide +kernel
theorem dX8_agree_62 : decode cX8_agree 62 = .ok (.iload_n 3, 1) := by decide +kernel
theorem dX8_agree_63 : decode cX8_agree 63 = .ok (.ireturn, 1) := by decide +kernel
theorem dX8_agree_64 : decode cX8_agree 64 = .ok (.iconst 4, 1) := by decide +kernel
theorem dX8_agree_65 : decode cX8_agree 65 = .ok (.aload_n 0, 1) := by decide +kernel
theorem dX8_agree_66 : decode cX8_agree 66 = .ok (.getfield 72, 3) := by decide +kernel
theorem dX8_agree_69 : decode cX8_agree 69 = .ok (.iload_n 2, 1) := by decide +kernel
theorem dX8_agree_70 : decode cX8_agree 70 = .ok (.iaload, 1) := by decide +kernel
theorem dX8_agree_71 : decode cX8_agree 71 = .ok (.imul, 1) := by decide +kernel
theorem dX8_agree_72 : decode cX8_agree 72 = .ok (.istore 4, 2) := by decide +kernel
theorem dX8_agree_74 : decode cX8_agree 74 = .ok (.iconst 4, 1) := by decide +kernel
theorem dX8_agree_75 : decode cX8_agree 75 = .ok (.aload_n 0, 1) := by decide +kernel
theorem dX8_agree_76 : decode cX8_agree 76 = .ok (.getfield 72, 3) := by decide +kernel
theorem dX8_agree_79 : decode cX8_agree 79 = .ok (.iload_n 2, 1) := by decide +kernel
theorem dX8_agree_80 : decode cX8_agree 80 = .ok (.iconst 1, 1) := by decide +kernel
theorem dX8_agree_81 : decode cX8_agree 81 = .ok (.iadd, 1) := by decide +kernel
theorem dX8_agree_82 : decode cX8_agree 82 = .ok (.iaload, 1) := by decide +kernel
theorem dX8_agree_83 : decode cX8_agree 83 = .ok (.imul, 1) := by decide +kernel
theorem dX8_agree_84 : decode cX8_agree 84 = .ok (.istore 5, 2) := by decide +kernel
theorem dX8_agree_86 : decode cX8_agree 86 = .ok (.aload_n 0, 1) := by decide +kernel
theorem dX8_agree_87 : decode cX8_agree 87 = .ok (.getfield 9, 3) := by decide +kernel
theorem dX8_agree_90 : decode cX8_agree 90 = .ok (.iload 4, 2) := by decide +kernel
theorem dX8_agree_92 : decode cX8_agree 92 = .ok (.aload_n 0, 1) := by decide +kernel
theorem dX8_agree_93 : decode cX8_agree 93 = .ok (.getfield 72, 3) := by decide +kernel
theorem dX8_agree_96 : decode cX8_agree 96 = .ok (.iload_n 2, 1) := by decide +kernel
theorem dX8_agree_97 : decode cX8_agree 97 = .ok (.iconst 3, 1) := by decide +kernel
theorem dX8_agree_98 : decode cX8_agree 98 = .ok (.iadd, 1) := by decide +kernel
theorem dX8_agree_99 : decode cX8_agree 99 = .ok (.iaload, 1) := by decide +kernel
theorem dX8_agree_100 : decode cX8_agree 100 = .ok (.iadd, 1) := by decide +kernel
theorem dX8_agree_101 : decode cX8_agree 101 = .ok (.dup2, 1) := by decide +kernel
theorem dX8_agree_102 : decode cX8_agree 102 = .ok (.iaload, 1) := by decide +kernel
theorem dX8_agree_103 : decode cX8_agree 103 = .ok (.aload_n 0, 1) := by decide +kernel
theorem dX8_agree_104 : decode cX8_agree 104 = .ok (.getfield 72, 3) := by decide +kernel
theorem dX8_agree_107 : decode cX8_agree 107 = .ok (.iload_n 2, 1) := by decide +kernel
theorem dX8_agree_108 : decode cX8_agree 108 = .ok (.iconst 2, 1) := by decide +kernel
theorem dX8_agree_109 : decode cX8_agree 109 = .ok (.iadd, 1) := by decide +kernel
theorem dX8_agree_110 : decode cX8_agree 110 = .ok (.iaload, 1) := by decide +kernel
theorem dX8_agree_111 : decode cX8_agree 111 = .ok (.isub, 1) := by decide +kernel
theorem dX8_agree_112 : decode cX8_agree 112 = .ok (.iastore, 1) := by decide +kernel
theorem dX8_agree_113 : decode cX8_agree 113 = .ok (.aload_n 0, 1) := by decide +kernel
theorem dX8_agree_114 : decode cX8_agree 114 = .ok (.getfield 9, 3) := by decide +kernel
theorem dX8_agree_117 : decode cX8_agree 117 = .ok (.iload 5, 2) := by decide +kernel
theorem dX8_agree_119 : decode cX8_agree 119 = .ok (.aload_n 0, 1) := by decide +kernel
theorem dX8_agree_120 : decode cX8_agree 120 = .ok (.getfield 72, 3) := by decide +kernel
theorem dX8_agree_123 : decode cX8_agree 123 = .ok (.iload_n 2, 1) := by decide +kernel
theorem dX8_agree_124 : decode cX8_agree 124 = .ok (.bipush 6, 2) := by decide +kernel
theorem dX8_agree_126 : decode cX8_agree 126 = .ok (.iadd, 1) := by decide +kernel
theorem dX8_agree_127 : decode cX8_agree 127 = .ok (.iaload, 1) := by decide +kernel
theorem dX8_agree_128 : decode cX8_agree 128 = .ok (.iadd, 1) := by decide +kernel
theorem dX8_agree_129 : decode cX8_agree 129 = .ok (.dup2, 1) := by decide +kernel
theorem dX8_agree_130 : decode cX8_agree 130 = .ok (.iaload, 1) := by decide +kernel
theorem dX8_agree_131 : decode cX8_agree 131 = .ok (.aload_n 0, 1) := by decide +kernel
theorem dX8_agree_132 : decode cX8_agree 132 = .ok (.getfield 72, 3) := by decide +kernel
theorem dX8_agree_135 : decode cX8_agree 135 = .ok (.iload_n 2, 1) := by decide +kernel
theorem dX8_agree_136 : decode cX8_agree 136 = .ok (.iconst 5, 1) := by decide +kernel
theorem dX8_agree_137 : decode cX8_agree 137 = .ok (.iadd, 1) := by decide +kernel
theorem dX8_agree_138 : decode cX8_agree 138 = .ok (.iaload, 1) := by decide +kernel
theorem dX8_agree_139 : decode cX8_agree 139 = .ok (.isub, 1) := by decide +kernel
theorem dX8_agree_140 : decode cX8_agree 140 = .ok (.iastore, 1) := by decide +kernel
theorem dX8_agree_141 : decode cX8_agree 141 = .ok (.aload_n 0, 1) := by decide +kernel
theorem dX8_agree_142 : decode cX8_agree 142 = .ok (.getfield 9, 3) := by decide +kernel
theorem dX8_agree_145 : decode cX8_agree 145 = .ok (.iload 5, 2) := by decide +kernel
theorem dX8_agree_147 : decode cX8_agree 147 = .ok (.aload_n 0, 1) := by decide +kernel
theorem dX8_agree_148 : decode cX8_agree 148 = .ok (.getfield 72, 3) := by decide +kernel
theorem dX8_agree_151 : decode cX8_agree 151 = .ok (.iload_n 2, 1) := by decide +kernel
theorem dX8_agree_152 : decode cX8_agree 152 = .ok (.iconst 3, 1) := by decide +kernel
theorem dX8_agree_153 : decode cX8_agree 153 = .ok (.iadd, 1) := by decide +kernel
theorem dX8_agree_154 : decode cX8_agree 154 = .ok (.iaload, 1) := by decide +kernel
theorem dX8_agree_155 : decode cX8_agree 155 = .ok (.iadd, 1) := by decide +kernel
theorem dX8_agree_156 : decode cX8_agree 156 = .ok (.dup2, 1) := by decide +kernel
theorem dX8_agree_157 : decode cX8_agree 157 = .ok (.iaload, 1) := by decide +kernel
theorem dX8_agree_158 : decode cX8_agree 158 = .ok (.aload_n 0, 1) := by decide +kernel
theorem dX8_agree_159 : decode cX8_agree 159 = .ok (.getfield 72, 3) := by decide +kernel
theorem dX8_agree_162 : decode cX8_agree 162 = .ok (.iload_n 2, 1) := by decide +kernel
theorem dX8_agree_163 : decode cX8_agree 163 = .ok (.iconst 2, 1) := by decide +kernel
theorem dX8_agree_164 : decode cX8_agree 164 = .ok (.iadd, 1) := by decide +kernel
theorem dX8_agree_165 : decode cX8_agree 165 = .ok (.iaload, 1) := by decide +kernel
theorem dX8_agree_166 : decode cX8_agree 166 = .ok (.iadd, 1) := by decide +kernel
theorem dX8_agree_167 : decode cX8_agree 167 = .ok (.iastore, 1) := by decide +kernel
theorem dX8_agree_168 : decode cX8_agree 168 = .ok (.aload_n 0, 1) := by decide +kernel
theorem dX8_agree_169 : decode cX8_agree 169 = .ok (.getfield 9, 3) := by decide +kernel
theorem dX8_agree_172 : decode cX8_agree 172 = .ok (.iload 4, 2) := by decide +kernel
theorem dX8_agree_174 : decode cX8_agree 174 = .ok (.aload_n 0, 1) := by decide +kernel
theorem dX8_agree_175 : decode cX8_agree 175 = .ok (.getfield 72, 3) := by decide +kernel
theorem dX8_agree_178 : decode cX8_agree 178 = .ok (.iload_n 2, 1) := by decide +kernel
theorem dX8_agree_179 : decode cX8_agree 179 = .ok (.bipush 6, 2) := by decide +kernel
theorem dX8_agree_181 : decode cX8_agree 181 = .ok (.iadd, 1) := by decide +kernel
theorem dX8_agree_182 : decode cX8_agree 182 = .ok (.iaload, 1) := by decide +kernel
theorem dX8_agree_183 : decode cX8_agree 183 = .ok (.iadd, 1) := by decide +kernel
theorem dX8_agree_184 : decode cX8_agree 184 = .ok (.dup2, 1) := by decide +kernel
theorem dX8_agree_185 : decode cX8_agree 185 = .ok (.iaload, 1) := by decide +kernel
theorem dX8_agree_186 : decode cX8_agree 186 = .ok (.aload_n 0, 1) := by decide +kernel
theorem dX8_agree_187 : decode cX8_agree 187 = .ok (.getfield 72, 3) := by decide +kernel
theorem dX8_agree_190 : decode cX8_agree 190 = .ok (.iload_n 2, 1) := by decide +kernel
theorem dX8_agree_191 : decode cX8_agree 191 = .ok (.iconst 5, 1) := by decide +kernel
theorem dX8_agree_192 : decode cX8_agree 192 = .ok (.iadd, 1) := by decide +kernel
theorem dX8_agree_193 : decode cX8_agree 193 = .ok (.iaload, 1) := by decide +kernel
theorem dX8_agree_194 : decode cX8_agree 194 = .ok (.iadd, 1) := by decide +kernel
theorem dX8_agree_195 : decode cX8_agree 195 = .ok (.iastore, 1) := by decide +kernel
theorem dX8_agree_196 : decode cX8_agree 196 = .ok (.aload_n 0, 1) := by decide +kernel
theorem dX8_agree_197 : decode cX8_agree 197 = .ok (.getfield 72, 3) := by decide +kernel
theorem dX8_agree_200 : decode cX8_agree 200 = .ok (.iload_n 2, 1) := by decide +kernel
theorem dX8_agree_201 : decode cX8_agree 201 = .ok (.iconst 4, 1) := by decide +kernel
theorem dX8_agree_202 : decode cX8_agree 202 = .ok (.iadd, 1) := by decide +kernel
theorem dX8_agree_203 : decode cX8_agree 203 = .ok (.iaload, 1) := by decide +kernel
theorem dX8_agree_204 : decode cX8_agree 204 = .ok (.ifCond .lt 23, 3) := by decide +kernel
theorem dX8_agree_207 : decode cX8_agree 207 = .ok (.aload_n 0, 1) := by decide +kernel
theorem dX8_agree_208 : decode cX8_agree 208 = .ok (.aload_n 0, 1) := by decide +kernel
theorem dX8_agree_209 : decode cX8_agree 209 = .ok (.getfield 72, 3) := by decide +kernel
theorem dX8_agree_212 : decode cX8_agree 212 = .ok (.iload_n 2, 1) := by decide +kernel
theorem dX8_agree_213 : decode cX8_agree 213 = .ok (.iconst 4, 1) := by decide +kernel
theorem dX8_agree_214 : decode cX8_agree 214 = .ok (.iadd, 1) := by decide +kernel
theorem dX8_agree_215 : decode cX8_agree 215 = .ok (.iaload, 1) := by decide +kernel
theorem dX8_agree_216 : decode cX8_agree 216 = .ok (.aload_n 0, 1) := by decide +kernel
theorem dX8_agree_217 : decode cX8_agree 217 = .ok (.getfield 72, 3) := by decide +kernel
theorem dX8_agree_220 : decode cX8_agree 220 = .ok (.iload_n 2, 1) := by decide +kernel
theorem dX8_agree_221 : decode cX8_agree 221 = .ok (.iconst 1, 1) := by decide +kernel
theorem dX8_agree_222 : decode cX8_agree 222 = .ok (.iadd, 1) := by decide +kernel
theorem dX8_agree_223 : decode cX8_agree 223 = .ok (.iaload, 1) := by decide +kernel
theorem dX8_agree_224 : decode cX8_agree 224 = .ok (.invokevirtual 162, 3) := by decide +kernel
theorem dX8_agree_227 : decode cX8_agree 227 = .ok (.aload_n 0, 1) := by decide +kernel
theorem dX8_agree_228 : decode cX8_agree 228 = .ok (.getfield 72, 3) := by decide +kernel
theorem dX8_agree_231 : decode cX8_agree 231 = .ok (.iload_n 2, 1) := by decide +kernel
theorem dX8_agree_232 : decode cX8_agree 232 = .ok (.bipush 7, 2) := by decide +kernel
theorem dX8_agree_234 : decode cX8_agree 234 = .ok (.iadd, 1) := by decide +kernel
theorem dX8_agree_235 : decode cX8_agree 235 = .ok (.iaload, 1) := by decide +kernel
theorem dX8_agree_236 : decode cX8_agree 236 = .ok (.ifCond .lt 22, 3) := by decide +kernel
theorem dX8_agree_239 : decode cX8_agree 239 = .ok (.aload_n 0, 1) := by decide +kernel
theorem dX8_agree_240 : decode cX8_agree 240 = .ok (.aload_n 0, 1) := by decide +kernel
theorem dX8_agree_241 : decode cX8_agree 241 = .ok (.getfield 72, 3) := by decide +kernel
theorem dX8_agree_244 : decode cX8_agree 244 = .ok (.iload_n 2, 1) := by decide +kernel
theorem dX8_agree_245 : decode cX8_agree 245 = .ok (.bipush 7, 2) := by decide +kernel
theorem dX8_agree_247 : decode cX8_agree 247 = .ok (.iadd, 1) := by decide +kernel
theorem dX8_agree_248 : decode cX8_agree 248 = .ok (.iaload, 1) := by decide +kernel
theorem dX8_agree_249 : decode cX8_agree 249 = .ok (.aload_n 0, 1) := by decide +kernel
theorem dX8_agree_250 : decode cX8_agree 250 = .ok (.getfield 72, 3) := by decide +kernel
theorem dX8_agree_253 : decode cX8_agree 253 = .ok (.iload_n 2, 1) := by decide +kernel
theorem dX8_agree_254 : decode cX8_agree 254 = .ok (.iaload, 1) := by decide +kernel
theorem dX8_agree_255 : decode cX8_agree 255 = .ok (.invokevirtual 162, 3) := by decide +kernel
theorem dX8_agree_258 : decode cX8_agree 258 = .ok (.aload_n 0, 1) := by decide +kernel
theorem dX8_agree_259 : decode cX8_agree 259 = .ok (.getfield 75, 3) := by decide +kernel
theorem dX8_agree_262 : decode cX8_agree 262 = .ok (.iload_n 1, 1) := by decide +kernel
theorem dX8_agree_263 : decode cX8_agree 263 = .ok (.iconst 0, 1) := by decide +kernel
theorem dX8_agree_264 : decode cX8_agree 264 = .ok (.bastore, 1) := by decide +kernel
theorem dX8_agree_265 : decode cX8_agree 265 = .ok (.iconst 0, 1) := by decide +kernel
theorem dX8_agree_266 : decode cX8_agree 266 = .ok (.ireturn, 1) := by decide +kernel
theorem dX8_withdraw_0 : decode cX8_withdraw 0 = .ok (.aload_n 0, 1) := by decide +kernel
theorem dX8_withdraw_1 : decode cX8_withdraw 1 = .ok (.iconst 0, 1) := by decide +kernel
theorem dX8_withdraw_2 : decode cX8_withdraw 2 = .ok (.putfield 87, 3) := by decide +kernel
theorem dX8_withdraw_5 : decode cX8_withdraw 5 = .ok (.aload_n 0, 1) := by decide +kernel
theorem dX8_withdraw_6 : decode cX8_withdraw 6 = .ok (.iload_n 1, 1) := by decide +kernel
theorem dX8_withdraw_7 : decode cX8_withdraw 7 = .ok (.i2l, 1) := by decide +kernel
theorem dX8_withdraw_8 : decode cX8_withdraw 8 = .ok (.lconst 0, 1) := by decide +kernel
theorem dX8_withdraw_9 : decode cX8_withdraw 9 = .ok (.aload_n 0, 1) := by decide +kernel
theorem dX8_withdraw_10 : decode cX8_withdraw 10 = .ok (.getfield 175, 3) := by decide +kernel
theorem dX8_withdraw_13 : decode cX8_withdraw 13 = .ok (.iconst 1, 1) := by decide +kernel
theorem dX8_withdraw_14 : decode cX8_withdraw 14 = .ok (.isub, 1) := by decide +kernel
theorem dX8_withdraw_15 : decode cX8_withdraw 15 = .ok (.i2l, 1) := by decide +kernel
theorem dX8_withdraw_16 : decode cX8_withdraw 16 = .ok (.invokestatic 94, 3) := by decide +kernel
theorem dX8_withdraw_19 : decode cX8_withdraw 19 = .ok (.ifCond .ne 7, 3) := by decide +kernel
theorem dX8_withdraw_22 : decode cX8_withdraw 22 = .ok (.iconst 1, 1) := by decide +kernel
theorem dX8_withdraw_23 : decode cX8_withdraw 23 = .ok (.goto 4, 3) := by decide +kernel
theorem dX8_withdraw_26 : decode cX8_withdraw 26 = .ok (.iconst 0, 1) := by decide +kernel
theorem dX8_withdraw_27 : decode cX8_withdraw 27 = .ok (.iconst 1, 1) := by decide +kernel
theorem dX8_withdraw_28 : decode cX8_withdraw 28 = .ok (.invokevirtual 106, 3) := by decide +kernel
theorem dX8_withdraw_31 : decode cX8_withdraw 31 = .ok (.ifCond .eq 5, 3) := by decide +kernel
theorem dX8_withdraw_34 : decode cX8_withdraw 34 = .ok (.iconst 0, 1) := by decide +kernel
theorem dX8_withdraw_35 : decode cX8_withdraw 35 = .ok (.ireturn, 1) := by decide +kernel
theorem dX8_withdraw_36 : decode cX8_withdraw 36 = .ok (.aload_n 0, 1) := by decide +kernel
theorem dX8_withdraw_37 : decode cX8_withdraw 37 = .ok (.getfield 75, 3) := by decide +kernel
theorem dX8_withdraw_40 : decode cX8_withdraw 40 = .ok (.iload_n 1, 1) := by decide +kernel
theorem dX8_withdraw_41 : decode cX8_withdraw 41 = .ok (.baload, 1) := by decide +kernel
theorem dX8_withdraw_42 : decode cX8_withdraw 42 = .ok (.istore_n 2, 1) := by decide +kernel
theorem dX8_withdraw_43 : decode cX8_withdraw 43 = .ok (.aload_n 0, 1) := by decide +kernel
theorem dX8_withdraw_44 : decode cX8_withdraw 44 = .ok (.getfield 75, 3) := by decide +kernel
theorem dX8_withdraw_47 : decode cX8_withdraw 47 = .ok (.iload_n 1, 1) := by decide +kernel
theorem dX8_withdraw_48 : decode cX8_withdraw 48 = .ok (.iconst 0, 1) := by decide +kernel
theorem dX8_withdraw_49 : decode cX8_withdraw 49 = .ok (.bastore, 1) := by decide +kernel
theorem dX8_withdraw_50 : decode cX8_withdraw 50 = .ok (.iload_n 2, 1) := by decide +kernel
theorem dX8_withdraw_51 : decode cX8_withdraw 51 = .ok (.ireturn, 1) := by decide +kernel
theorem dX8_leaves_0 : decode cX8_leaves 0 = .ok (.aload_n 0, 1) := by decide +kernel
theorem dX8_leaves_1 : decode cX8_leaves 1 = .ok (.getfield 22, 3) := by decide +kernel
theorem dX8_leaves_4 : decode cX8_leaves 4 = .ok (.iconst 4, 1) := by decide +kernel
theorem dX8_leaves_5 : decode cX8_leaves 5 = .ok (.iload_n 1, 1) := by decide +kernel
theorem dX8_leaves_6 : decode cX8_leaves 6 = .ok (.imul, 1) := by decide +kernel
theorem dX8_leaves_7 : decode cX8_leaves 7 = .ok (.iload_n 2, 1) := by decide +kernel
theorem dX8_leaves_8 : decode cX8_leaves 8 = .ok (.iadd, 1) := by decide +kernel
theorem dX8_leaves_9 : decode cX8_leaves 9 = .ok (.iaload, 1) := by decide +kernel
theorem dX8_leaves_10 : decode cX8_leaves 10 = .ok (.aload_n 0, 1) := by decide +kernel
theorem dX8_leaves_11 : decode cX8_leaves 11 = .ok (.getfield 19, 3) := by decide +kernel
theorem dX8_leaves_14 : decode cX8_leaves 14 = .ok (.iconst 4, 1) := by decide +kernel
theorem dX8_leaves_15 : decode cX8_leaves 15 = .ok (.iload_n 1, 1) := by decide +kernel
theorem dX8_leaves_16 : decode cX8_leaves 16 = .ok (.imul, 1) := by decide +kernel
theorem dX8_leaves_17 : decode cX8_leaves 17 = .ok (.iload_n 2, 1) := by decide +kernel
theorem dX8_leaves_18 : decode cX8_leaves 18 = .ok (.iadd, 1) := by decide +kernel
theorem dX8_leaves_19 : decode cX8_leaves 19 = .ok (.iaload, 1) := by decide +kernel
theorem dX8_leaves_20 : decode cX8_leaves 20 = .ok (.isub, 1) := by decide +kernel
theorem dX8_leaves_21 : decode cX8_leaves 21 = .ok (.ireturn, 1) := by decide +kernel
theorem dX8_bounds_0 : decode cX8_bounds 0 = .ok (.iconst 0, 1) := by decide +kernel
theorem dX8_bounds_1 : decode cX8_bounds 1 = .ok (.istore_n 1, 1) := by decide +kernel
theorem dX8_bounds_2 : decode cX8_bounds 2 = .ok (.iload_n 1, 1) := by decide +kernel
theorem dX8_bounds_3 : decode cX8_bounds 3 = .ok (.aload_n 0, 1) := by decide +kernel
theorem dX8_bounds_4 : decode cX8_bounds 4 = .ok (.getfield 186, 3) := by decide +kernel
theorem dX8_bounds_7 : decode cX8_bounds 7 = .ok (.iconst 4, 1) := by decide +kernel
theorem dX8_bounds_8 : decode cX8_bounds 8 = .ok (.iadd, 1) := by decide +kernel
theorem dX8_bounds_9 : decode cX8_bounds 9 = .ok (.if_icmp .ge 72, 3) := by decide +kernel
theorem dX8_bounds_12 : decode cX8_bounds 12 = .ok (.iconst 0, 1) := by decide +kernel
theorem dX8_bounds_13 : decode cX8_bounds 13 = .ok (.istore_n 2, 1) := by decide +kernel
theorem dX8_bounds_14 : decode cX8_bounds 14 = .ok (.iload_n 2, 1) := by decide +kernel
theorem dX8_bounds_15 : decode cX8_bounds 15 = .ok (.aload_n 0, 1) := by decide +kernel
theorem dX8_bounds_16 : decode cX8_bounds 16 = .ok (.getfield 186, 3) := by decide +kernel
theorem dX8_bounds_19 : decode cX8_bounds 19 = .ok (.if_icmp .ge 56, 3) := by decide +kernel
theorem dX8_bounds_22 : decode cX8_bounds 22 = .ok (.aload_n 0, 1) := by decide +kernel
theorem dX8_bounds_23 : decode cX8_bounds 23 = .ok (.getfield 81, 3) := by decide +kernel
theorem dX8_bounds_26 : decode cX8_bounds 26 = .ok (.iconst 4, 1) := by decide +kernel
theorem dX8_bounds_27 : decode cX8_bounds 27 = .ok (.iload_n 1, 1) := by decide +kernel
theorem dX8_bounds_28 : decode cX8_bounds 28 = .ok (.imul, 1) := by decide +kernel
theorem dX8_bounds_29 : decode cX8_bounds 29 = .ok (.iload_n 2, 1) := by decide +kernel
theorem dX8_bounds_30 : decode cX8_bounds 30 = .ok (.iadd, 1) := by decide +kernel
theorem dX8_bounds_31 : decode cX8_bounds 31 = .ok (.iload_n 1, 1) := by decide +kernel
theorem dX8_bounds_32 : decode cX8_bounds 32 = .ok (.aload_n 0, 1) := by decide +kernel
theorem dX8_bounds_33 : decode cX8_bounds 33 = .ok (.getfield 186, 3) := by decide +kernel
theorem dX8_bounds_36 : decode cX8_bounds 36 = .ok (.if_icmp .ge 16, 3) := by decide +kernel
theorem dX8_bounds_39 : decode cX8_bounds 39 = .ok (.iload_n 1, 1) := by decide +kernel
theorem dX8_bounds_40 : decode cX8_bounds 40 = .ok (.iload_n 2, 1) := by decide +kernel
theorem dX8_bounds_41 : decode cX8_bounds 41 = .ok (.if_icmp .ne 7, 3) := by decide +kernel
theorem dX8_bounds_44 : decode cX8_bounds 44 = .ok (.iconst 1, 1) := by decide +kernel
theorem dX8_bounds_45 : decode cX8_bounds 45 = .ok (.goto 23, 3) := by decide +kernel
theorem dX8_bounds_48 : decode cX8_bounds 48 = .ok (.iconst 0, 1) := by decide +kernel
theorem dX8_bounds_49 : decode cX8_bounds 49 = .ok (.goto 19, 3) := by decide +kernel
theorem dX8_bounds_52 : decode cX8_bounds 52 = .ok (.aload_n 0, 1) := by decide +kernel
theorem dX8_bounds_53 : decode cX8_bounds 53 = .ok (.aload_n 0, 1) := by decide +kernel
theorem dX8_bounds_54 : decode cX8_bounds 54 = .ok (.getfield 78, 3) := by decide +kernel
theorem dX8_bounds_57 : decode cX8_bounds 57 = .ok (.iload_n 2, 1) := by decide +kernel
theorem dX8_bounds_58 : decode cX8_bounds 58 = .ok (.iaload, 1) := by decide +kernel
theorem dX8_bounds_59 : decode cX8_bounds 59 = .ok (.iload_n 1, 1) := by decide +kernel
theorem dX8_bounds_60 : decode cX8_bounds 60 = .ok (.aload_n 0, 1) := by decide +kernel
theorem dX8_bounds_61 : decode cX8_bounds 61 = .ok (.getfield 186, 3) := by decide +kernel
theorem dX8_bounds_64 : decode cX8_bounds 64 = .ok (.isub, 1) := by decide +kernel
theorem dX8_bounds_65 : decode cX8_bounds 65 = .ok (.invokevirtual 189, 3) := by decide +kernel
theorem dX8_bounds_68 : decode cX8_bounds 68 = .ok (.iastore, 1) := by decide +kernel
theorem dX8_bounds_69 : decode cX8_bounds 69 = .ok (.iinc 2 1, 3) := by decide +kernel
theorem dX8_bounds_72 : decode cX8_bounds 72 = .ok (.goto (-58), 3) := by decide +kernel
theorem dX8_bounds_75 : decode cX8_bounds 75 = .ok (.iinc 1 1, 3) := by decide +kernel
theorem dX8_bounds_78 : decode cX8_bounds 78 = .ok (.goto (-76), 3) := by decide +kernel
theorem dX8_bounds_81 : decode cX8_bounds 81 = .ok (.return_, 1) := by decide +kernel
theorem dX8_two_0 : decode cX8_two 0 = .ok (.aload_n 0, 1) := by decide +kernel
theorem dX8_two_1 : decode cX8_two 1 = .ok (.getfield 81, 3) := by decide +kernel
theorem dX8_two_4 : decode cX8_two 4 = .ok (.iconst 4, 1) := by decide +kernel
theorem dX8_two_5 : decode cX8_two 5 = .ok (.iload_n 1, 1) := by decide +kernel
theorem dX8_two_6 : decode cX8_two 6 = .ok (.imul, 1) := by decide +kernel
theorem dX8_two_7 : decode cX8_two 7 = .ok (.iload_n 3, 1) := by decide +kernel
theorem dX8_two_8 : decode cX8_two 8 = .ok (.iadd, 1) := by decide +kernel
theorem dX8_two_9 : decode cX8_two 9 = .ok (.iaload, 1) := by decide +kernel
theorem dX8_two_10 : decode cX8_two 10 = .ok (.i2l, 1) := by decide +kernel
theorem dX8_two_11 : decode cX8_two 11 = .ok (.aload_n 0, 1) := by decide +kernel
theorem dX8_two_12 : decode cX8_two 12 = .ok (.getfield 81, 3) := by decide +kernel
theorem dX8_two_15 : decode cX8_two 15 = .ok (.iconst 4, 1) := by decide +kernel
theorem dX8_two_16 : decode cX8_two 16 = .ok (.iload_n 2, 1) := by decide +kernel
theorem dX8_two_17 : decode cX8_two 17 = .ok (.imul, 1) := by decide +kernel
theorem dX8_two_18 : decode cX8_two 18 = .ok (.iload 4, 2) := by decide +kernel
theorem dX8_two_20 : decode cX8_two 20 = .ok (.iadd, 1) := by decide +kernel
theorem dX8_two_21 : decode cX8_two 21 = .ok (.iaload, 1) := by decide +kernel
theorem dX8_two_22 : decode cX8_two 22 = .ok (.i2l, 1) := by decide +kernel
theorem dX8_two_23 : decode cX8_two 23 = .ok (.lmul, 1) := by decide +kernel
theorem dX8_two_24 : decode cX8_two 24 = .ok (.aload_n 0, 1) := by decide +kernel
theorem dX8_two_25 : decode cX8_two 25 = .ok (.getfield 81, 3) := by decide +kernel
theorem dX8_two_28 : decode cX8_two 28 = .ok (.iconst 4, 1) := by decide +kernel
theorem dX8_two_29 : decode cX8_two 29 = .ok (.iload_n 1, 1) := by decide +kernel
theorem dX8_two_30 : decode cX8_two 30 = .ok (.imul, 1) := by decide +kernel
theorem dX8_two_31 : decode cX8_two 31 = .ok (.iload 4, 2) := by decide +kernel
theorem dX8_two_33 : decode cX8_two 33 = .ok (.iadd, 1) := by decide +kernel
theorem dX8_two_34 : decode cX8_two 34 = .ok (.iaload, 1) := by decide +kernel
theorem dX8_two_35 : decode cX8_two 35 = .ok (.i2l, 1) := by decide +kernel
theorem dX8_two_36 : decode cX8_two 36 = .ok (.aload_n 0, 1) := by decide +kernel
theorem dX8_two_37 : decode cX8_two 37 = .ok (.getfield 81, 3) := by decide +kernel
theorem dX8_two_40 : decode cX8_two 40 = .ok (.iconst 4, 1) := by decide +kernel
theorem dX8_two_41 : decode cX8_two 41 = .ok (.iload_n 2, 1) := by decide +kernel
theorem dX8_two_42 : decode cX8_two 42 = .ok (.imul, 1) := by decide +kernel
theorem dX8_two_43 : decode cX8_two 43 = .ok (.iload_n 3, 1) := by decide +kernel
theorem dX8_two_44 : decode cX8_two 44 = .ok (.iadd, 1) := by decide +kernel
theorem dX8_two_45 : decode cX8_two 45 = .ok (.iaload, 1) := by decide +kernel
theorem dX8_two_46 : decode cX8_two 46 = .ok (.i2l, 1) := by decide +kernel
theorem dX8_two_47 : decode cX8_two 47 = .ok (.lmul, 1) := by decide +kernel
theorem dX8_two_48 : decode cX8_two 48 = .ok (.lsub, 1) := by decide +kernel
theorem dX8_two_49 : decode cX8_two 49 = .ok (.lreturn, 1) := by decide +kernel
theorem dX8_three_0 : decode cX8_three 0 = .ok (.aload_n 0, 1) := by decide +kernel
theorem dX8_three_1 : decode cX8_three 1 = .ok (.getfield 81, 3) := by decide +kernel
theorem dX8_three_4 : decode cX8_three 4 = .ok (.iconst 4, 1) := by decide +kernel
theorem dX8_three_5 : decode cX8_three 5 = .ok (.iload_n 1, 1) := by decide +kernel
theorem dX8_three_6 : decode cX8_three 6 = .ok (.imul, 1) := by decide +kernel
theorem dX8_three_7 : decode cX8_three 7 = .ok (.iload 4, 2) := by decide +kernel
theorem dX8_three_9 : decode cX8_three 9 = .ok (.iadd, 1) := by decide +kernel
theorem dX8_three_10 : decode cX8_three 10 = .ok (.iaload, 1) := by decide +kernel
theorem dX8_three_11 : decode cX8_three 11 = .ok (.i2l, 1) := by decide +kernel
theorem dX8_three_12 : decode cX8_three 12 = .ok (.aload_n 0, 1) := by decide +kernel
theorem dX8_three_13 : decode cX8_three 13 = .ok (.iload_n 2, 1) := by decide +kernel
theorem dX8_three_14 : decode cX8_three 14 = .ok (.iload_n 3, 1) := by decide +kernel
theorem dX8_three_15 : decode cX8_three 15 = .ok (.iload 5, 2) := by decide +kernel
theorem dX8_three_17 : decode cX8_three 17 = .ok (.iload 6, 2) := by decide +kernel
theorem dX8_three_19 : decode cX8_three 19 = .ok (.invokevirtual 192, 3) := by decide +kernel
theorem dX8_three_22 : decode cX8_three 22 = .ok (.lmul, 1) := by decide +kernel
theorem dX8_three_23 : decode cX8_three 23 = .ok (.aload_n 0, 1) := by decide +kernel
theorem dX8_three_24 : decode cX8_three 24 = .ok (.getfield 81, 3) := by decide +kernel
theorem dX8_three_27 : decode cX8_three 27 = .ok (.iconst 4, 1) := by decide +kernel
theorem dX8_three_28 : decode cX8_three 28 = .ok (.iload_n 1, 1) := by decide +kernel
theorem dX8_three_29 : decode cX8_three 29 = .ok (.imul, 1) := by decide +kernel
theorem dX8_three_30 : decode cX8_three 30 = .ok (.iload 5, 2) := by decide +kernel
theorem dX8_three_32 : decode cX8_three 32 = .ok (.iadd, 1) := by decide +kernel
theorem dX8_three_33 : decode cX8_three 33 = .ok (.iaload, 1) := by decide +kernel
theorem dX8_three_34 : decode cX8_three 34 = .ok (.i2l, 1) := by decide +kernel
theorem dX8_three_35 : decode cX8_three 35 = .ok (.aload_n 0, 1) := by decide +kernel
theorem dX8_three_36 : decode cX8_three 36 = .ok (.iload_n 2, 1) := by decide +kernel
theorem dX8_three_37 : decode cX8_three 37 = .ok (.iload_n 3, 1) := by decide +kernel
theorem dX8_three_38 : decode cX8_three 38 = .ok (.iload 4, 2) := by decide +kernel
theorem dX8_three_40 : decode cX8_three 40 = .ok (.iload 6, 2) := by decide +kernel
theorem dX8_three_42 : decode cX8_three 42 = .ok (.invokevirtual 192, 3) := by decide +kernel
theorem dX8_three_45 : decode cX8_three 45 = .ok (.lmul, 1) := by decide +kernel
theorem dX8_three_46 : decode cX8_three 46 = .ok (.lsub, 1) := by decide +kernel
theorem dX8_three_47 : decode cX8_three 47 = .ok (.aload_n 0, 1) := by decide +kernel
theorem dX8_three_48 : decode cX8_three 48 = .ok (.getfield 81, 3) := by decide +kernel
theorem dX8_three_51 : decode cX8_three 51 = .ok (.iconst 4, 1) := by decide +kernel
theorem dX8_three_52 : decode cX8_three 52 = .ok (.iload_n 1, 1) := by decide +kernel
theorem dX8_three_53 : decode cX8_three 53 = .ok (.imul, 1) := by decide +kernel
theorem dX8_three_54 : decode cX8_three 54 = .ok (.iload 6, 2) := by decide +kernel
theorem dX8_three_56 : decode cX8_three 56 = .ok (.iadd, 1) := by decide +kernel
theorem dX8_three_57 : decode cX8_three 57 = .ok (.iaload, 1) := by decide +kernel
theorem dX8_three_58 : decode cX8_three 58 = .ok (.i2l, 1) := by decide +kernel
theorem dX8_three_59 : decode cX8_three 59 = .ok (.aload_n 0, 1) := by decide +kernel
theorem dX8_three_60 : decode cX8_three 60 = .ok (.iload_n 2, 1) := by decide +kernel
theorem dX8_three_61 : decode cX8_three 61 = .ok (.iload_n 3, 1) := by decide +kernel
theorem dX8_three_62 : decode cX8_three 62 = .ok (.iload 4, 2) := by decide +kernel
theorem dX8_three_64 : decode cX8_three 64 = .ok (.iload 5, 2) := by decide +kernel
theorem dX8_three_66 : decode cX8_three 66 = .ok (.invokevirtual 192, 3) := by decide +kernel
theorem dX8_three_69 : decode cX8_three 69 = .ok (.lmul, 1) := by decide +kernel
theorem dX8_three_70 : decode cX8_three 70 = .ok (.ladd, 1) := by decide +kernel
theorem dX8_three_71 : decode cX8_three 71 = .ok (.lreturn, 1) := by decide +kernel
theorem dX8_isGain_0 : decode cX8_isGain 0 = .ok (.aload_n 0, 1) := by decide +kernel
theorem dX8_isGain_1 : decode cX8_isGain 1 = .ok (.lconst 1, 1) := by decide +kernel
theorem dX8_isGain_2 : decode cX8_isGain 2 = .ok (.invokevirtual 196, 3) := by decide +kernel
theorem dX8_isGain_5 : decode cX8_isGain 5 = .ok (.ifCond .ne 13, 3) := by decide +kernel
theorem dX8_isGain_8 : decode cX8_isGain 8 = .ok (.aload_n 0, 1) := by decide +kernel
theorem dX8_isGain_9 : decode cX8_isGain 9 = .ok (.ldc2_w 200, 3) := by decide +kernel
theorem dX8_isGain_12 : decode cX8_isGain 12 = .ok (.invokevirtual 196, 3) := by decide +kernel
theorem dX8_isGain_15 : decode cX8_isGain 15 = .ok (.ifCond .eq 7, 3) := by decide +kernel
theorem dX8_isGain_18 : decode cX8_isGain 18 = .ok (.iconst 1, 1) := by decide +kernel
theorem dX8_isGain_19 : decode cX8_isGain 19 = .ok (.goto 4, 3) := by decide +kernel
theorem dX8_isGain_22 : decode cX8_isGain 22 = .ok (.iconst 0, 1) := by decide +kernel
theorem dX8_isGain_23 : decode cX8_isGain 23 = .ok (.ireturn, 1) := by decide +kernel
theorem dX8_isGain__0 : decode cX8_isGain_ 0 = .ok (.iconst 1, 1) := by decide +kernel
theorem dX8_isGain__1 : decode cX8_isGain_ 1 = .ok (.istore_n 3, 1) := by decide +kernel
theorem dX8_isGain__2 : decode cX8_isGain_ 2 = .ok (.iconst 0, 1) := by decide +kernel
theorem dX8_isGain__3 : decode cX8_isGain_ 3 = .ok (.istore 4, 2) := by decide +kernel
theorem dX8_isGain__5 : decode cX8_isGain_ 5 = .ok (.iconst 0, 1) := by decide +kernel
theorem dX8_isGain__6 : decode cX8_isGain_ 6 = .ok (.istore 5, 2) := by decide +kernel
theorem dX8_isGain__8 : decode cX8_isGain_ 8 = .ok (.iload 5, 2) := by decide +kernel
theorem dX8_isGain__10 : decode cX8_isGain_ 10 = .ok (.aload_n 0, 1) := by decide +kernel
theorem dX8_isGain__11 : decode cX8_isGain_ 11 = .ok (.getfield 186, 3) := by decide +kernel
theorem dX8_isGain__14 : decode cX8_isGain_ 14 = .ok (.if_icmp .ge 33, 3) := by decide +kernel
theorem dX8_isGain__17 : decode cX8_isGain_ 17 = .ok (.iload_n 3, 1) := by decide +kernel
theorem dX8_isGain__18 : decode cX8_isGain_ 18 = .ok (.ifCond .eq 21, 3) := by decide +kernel
theorem dX8_isGain__21 : decode cX8_isGain_ 21 = .ok (.lload_n 1, 1) := by decide +kernel
theorem dX8_isGain__22 : decode cX8_isGain_ 22 = .ok (.aload_n 0, 1) := by decide +kernel
theorem dX8_isGain__23 : decode cX8_isGain_ 23 = .ok (.getfield 84, 3) := by decide +kernel
theorem dX8_isGain__26 : decode cX8_isGain_ 26 = .ok (.iload 5, 2) := by decide +kernel
theorem dX8_isGain__28 : decode cX8_isGain_ 28 = .ok (.laload, 1) := by decide +kernel
theorem dX8_isGain__29 : decode cX8_isGain_ 29 = .ok (.lmul, 1) := by decide +kernel
theorem dX8_isGain__30 : decode cX8_isGain_ 30 = .ok (.lconst 0, 1) := by decide +kernel
theorem dX8_isGain__31 : decode cX8_isGain_ 31 = .ok (.lcmp, 1) := by decide +kernel
theorem dX8_isGain__32 : decode cX8_isGain_ 32 = .ok (.ifCond .lt 7, 3) := by decide +kernel
theorem dX8_isGain__35 : decode cX8_isGain_ 35 = .ok (.iconst 1, 1) := by decide +kernel
theorem dX8_isGain__36 : decode cX8_isGain_ 36 = .ok (.goto 4, 3) := by decide +kernel
theorem dX8_isGain__39 : decode cX8_isGain_ 39 = .ok (.iconst 0, 1) := by decide +kernel
theorem dX8_isGain__40 : decode cX8_isGain_ 40 = .ok (.istore_n 3, 1) := by decide +kernel
theorem dX8_isGain__41 : decode cX8_isGain_ 41 = .ok (.iinc 5 1, 3) := by decide +kernel
theorem dX8_isGain__44 : decode cX8_isGain_ 44 = .ok (.goto (-36), 3) := by decide +kernel
theorem dX8_isGain__47 : decode cX8_isGain_ 47 = .ok (.iconst 0, 1) := by decide +kernel
theorem dX8_isGain__48 : decode cX8_isGain_ 48 = .ok (.istore 5, 2) := by decide +kernel
theorem dX8_isGain__50 : decode cX8_isGain_ 50 = .ok (.iload 5, 2) := by decide +kernel
theorem dX8_isGain__52 : decode cX8_isGain_ 52 = .ok (.iconst 4, 1) := by decide +kernel
theorem dX8_isGain__53 : decode cX8_isGain_ 53 = .ok (.if_icmp .ge 95, 3) := by decide +kernel
theorem dX8_isGain__56 : decode cX8_isGain_ 56 = .ok (.lconst 0, 1) := by decide +kernel
theorem dX8_isGain__57 : decode cX8_isGain_ 57 = .ok (.lstore 6, 2) := by decide +kernel
theorem dX8_isGain__59 : decode cX8_isGain_ 59 = .ok (.iconst 0, 1) := by decide +kernel
theorem dX8_isGain__60 : decode cX8_isGain_ 60 = .ok (.istore 8, 2) := by decide +kernel
theorem dX8_isGain__62 : decode cX8_isGain_ 62 = .ok (.iload 8, 2) := by decide +kernel
theorem dX8_isGain__64 : decode cX8_isGain_ 64 = .ok (.aload_n 0, 1) := by decide +kernel
theorem dX8_isGain__65 : decode cX8_isGain_ 65 = .ok (.getfield 186, 3) := by decide +kernel
theorem dX8_isGain__68 : decode cX8_isGain_ 68 = .ok (.if_icmp .ge 38, 3) := by decide +kernel
theorem dX8_isGain__71 : decode cX8_isGain_ 71 = .ok (.lload 6, 2) := by decide +kernel
theorem dX8_isGain__73 : decode cX8_isGain_ 73 = .ok (.lload_n 1, 1) := by decide +kernel
theorem dX8_isGain__74 : decode cX8_isGain_ 74 = .ok (.aload_n 0, 1) := by decide +kernel
theorem dX8_isGain__75 : decode cX8_isGain_ 75 = .ok (.getfield 84, 3) := by decide +kernel
theorem dX8_isGain__78 : decode cX8_isGain_ 78 = .ok (.iload 8, 2) := by decide +kernel
theorem dX8_isGain__80 : decode cX8_isGain_ 80 = .ok (.laload, 1) := by decide +kernel
theorem dX8_isGain__81 : decode cX8_isGain_ 81 = .ok (.lmul, 1) := by decide +kernel
theorem dX8_isGain__82 : decode cX8_isGain_ 82 = .ok (.aload_n 0, 1) := by decide +kernel
theorem dX8_isGain__83 : decode cX8_isGain_ 83 = .ok (.aload_n 0, 1) := by decide +kernel
theorem dX8_isGain__84 : decode cX8_isGain_ 84 = .ok (.getfield 78, 3) := by decide +kernel
theorem dX8_isGain__87 : decode cX8_isGain_ 87 = .ok (.iload 8, 2) := by decide +kernel
theorem dX8_isGain__89 : decode cX8_isGain_ 89 = .ok (.iaload, 1) := by decide +kernel
theorem dX8_isGain__90 : decode cX8_isGain_ 90 = .ok (.iload 5, 2) := by decide +kernel
theorem dX8_isGain__92 : decode cX8_isGain_ 92 = .ok (.invokevirtual 189, 3) := by decide +kernel
theorem dX8_isGain__95 : decode cX8_isGain_ 95 = .ok (.i2l, 1) := by decide +kernel
theorem dX8_isGain__96 : decode cX8_isGain_ 96 = .ok (.lmul, 1) := by decide +kernel
theorem dX8_isGain__97 : decode cX8_isGain_ 97 = .ok (.ladd, 1) := by decide +kernel
theorem dX8_isGain__98 : decode cX8_isGain_ 98 = .ok (.lstore 6, 2) := by decide +kernel
theorem dX8_isGain__100 : decode cX8_isGain_ 100 = .ok (.iinc 8 1, 3) := by decide +kernel
theorem dX8_isGain__103 : decode cX8_isGain_ 103 = .ok (.goto (-41), 3) := by decide +kernel
theorem dX8_isGain__106 : decode cX8_isGain_ 106 = .ok (.iload_n 3, 1) := by decide +kernel
theorem dX8_isGain__107 : decode cX8_isGain_ 107 = .ok (.ifCond .eq 14, 3) := by decide +kernel
theorem dX8_isGain__110 : decode cX8_isGain_ 110 = .ok (.lload 6, 2) := by decide +kernel
theorem dX8_isGain__112 : decode cX8_isGain_ 112 = .ok (.lconst 0, 1) := by decide +kernel
theorem dX8_isGain__113 : decode cX8_isGain_ 113 = .ok (.lcmp, 1) := by decide +kernel
theorem dX8_isGain__114 : decode cX8_isGain_ 114 = .ok (.ifCond .lt 7, 3) := by decide +kernel
theorem dX8_isGain__117 : decode cX8_isGain_ 117 = .ok (.iconst 1, 1) := by decide +kernel
theorem dX8_isGain__118 : decode cX8_isGain_ 118 = .ok (.goto 4, 3) := by decide +kernel
theorem dX8_isGain__121 : decode cX8_isGain_ 121 = .ok (.iconst 0, 1) := by decide +kernel
theorem dX8_isGain__122 : decode cX8_isGain_ 122 = .ok (.istore_n 3, 1) := by decide +kernel
theorem dX8_isGain__123 : decode cX8_isGain_ 123 = .ok (.iload 4, 2) := by decide +kernel
theorem dX8_isGain__125 : decode cX8_isGain_ 125 = .ok (.ifCond .ne 10, 3) := by decide +kernel
theorem dX8_isGain__128 : decode cX8_isGain_ 128 = .ok (.lload 6, 2) := by decide +kernel
theorem dX8_isGain__130 : decode cX8_isGain_ 130 = .ok (.lconst 0, 1) := by decide +kernel
theorem dX8_isGain__131 : decode cX8_isGain_ 131 = .ok (.lcmp, 1) := by decide +kernel
theorem dX8_isGain__132 : decode cX8_isGain_ 132 = .ok (.ifCond .le 7, 3) := by decide +kernel
theorem dX8_isGain__135 : decode cX8_isGain_ 135 = .ok (.iconst 1, 1) := by decide +kernel
theorem dX8_isGain__136 : decode cX8_isGain_ 136 = .ok (.goto 4, 3) := by decide +kernel
theorem dX8_isGain__139 : decode cX8_isGain_ 139 = .ok (.iconst 0, 1) := by decide +kernel
theorem dX8_isGain__140 : decode cX8_isGain_ 140 = .ok (.istore 4, 2) := by decide +kernel
theorem dX8_isGain__142 : decode cX8_isGain_ 142 = .ok (.iinc 5 1, 3) := by decide +kernel
theorem dX8_isGain__145 : decode cX8_isGain_ 145 = .ok (.goto (-95), 3) := by decide +kernel
theorem dX8_isGain__148 : decode cX8_isGain_ 148 = .ok (.iload_n 3, 1) := by decide +kernel
theorem dX8_isGain__149 : decode cX8_isGain_ 149 = .ok (.ifCond .eq 12, 3) := by decide +kernel
theorem dX8_isGain__152 : decode cX8_isGain_ 152 = .ok (.iload 4, 2) := by decide +kernel
theorem dX8_isGain__154 : decode cX8_isGain_ 154 = .ok (.ifCond .eq 7, 3) := by decide +kernel
theorem dX8_isGain__157 : decode cX8_isGain_ 157 = .ok (.iconst 1, 1) := by decide +kernel
theorem dX8_isGain__158 : decode cX8_isGain_ 158 = .ok (.goto 4, 3) := by decide +kernel
theorem dX8_isGain__161 : decode cX8_isGain_ 161 = .ok (.iconst 0, 1) := by decide +kernel
theorem dX8_isGain__162 : decode cX8_isGain_ 162 = .ok (.ireturn, 1) := by decide +kernel
theorem dX8_gainsWithSome_0 : decode cX8_gainsWithSome 0 = .ok (.aload_n 0, 1) := by decide +kernel
theorem dX8_gainsWithSome_1 : decode cX8_gainsWithSome 1 = .ok (.invokevirtual 202, 3) := by decide +kernel
theorem dX8_gainsWithSome_4 : decode cX8_gainsWithSome 4 = .ok (.aload_n 0, 1) := by decide +kernel
theorem dX8_gainsWithSome_5 : decode cX8_gainsWithSome 5 = .ok (.getfield 186, 3) := by decide +kernel
theorem dX8_gainsWithSome_8 : decode cX8_gainsWithSome 8 = .ok (.iconst 4, 1) := by decide +kernel
theorem dX8_gainsWithSome_9 : decode cX8_gainsWithSome 9 = .ok (.iadd, 1) := by decide +kernel
theorem dX8_gainsWithSome_10 : decode cX8_gainsWithSome 10 = .ok (.istore_n 1, 1) := by decide +kernel
theorem dX8_gainsWithSome_11 : decode cX8_gainsWithSome 11 = .ok (.aload_n 0, 1) := by decide +kernel
theorem dX8_gainsWithSome_12 : decode cX8_gainsWithSome 12 = .ok (.getfield 186, 3) := by decide +kernel
theorem dX8_gainsWithSome_15 : decode cX8_gainsWithSome 15 = .ok (.iconst 1, 1) := by decide +kernel
theorem dX8_gainsWithSome_16 : decode cX8_gainsWithSome 16 = .ok (.if_icmp .ne 15, 3) := by decide +kernel
theorem dX8_gainsWithSome_19 : decode cX8_gainsWithSome 19 = .ok (.aload_n 0, 1) := by decide +kernel
theorem dX8_gainsWithSome_20 : decode cX8_gainsWithSome 20 = .ok (.getfield 84, 3) := by decide +kernel
theorem dX8_gainsWithSome_23 : decode cX8_gainsWithSome 23 = .ok (.iconst 0, 1) := by decide +kernel
theorem dX8_gainsWithSome_24 : decode cX8_gainsWithSome 24 = .ok (.lconst 1, 1) := by decide +kernel
theorem dX8_gainsWithSome_25 : decode cX8_gainsWithSome 25 = .ok (.lastore, 1) := by decide +kernel
theorem dX8_gainsWithSome_26 : decode cX8_gainsWithSome 26 = .ok (.aload_n 0, 1) := by decide +kernel
theorem dX8_gainsWithSome_27 : decode cX8_gainsWithSome 27 = .ok (.invokevirtual 205, 3) := by decide +kernel
theorem dX8_gainsWithSome_30 : decode cX8_gainsWithSome 30 = .ok (.ireturn, 1) := by decide +kernel
theorem dX8_gainsWithSome_31 : decode cX8_gainsWithSome 31 = .ok (.iconst 0, 1) := by decide +kernel
theorem dX8_gainsWithSome_32 : decode cX8_gainsWithSome 32 = .ok (.istore_n 2, 1) := by decide +kernel
theorem dX8_gainsWithSome_33 : decode cX8_gainsWithSome 33 = .ok (.iload_n 2, 1) := by decide +kernel
theorem dX8_gainsWithSome_34 : decode cX8_gainsWithSome 34 = .ok (.iload_n 1, 1) := by decide +kernel
theorem dX8_gainsWithSome_35 : decode cX8_gainsWithSome 35 = .ok (.if_icmp .ge 230, 3) := by decide +kernel
theorem dX8_gainsWithSome_38 : decode cX8_gainsWithSome 38 = .ok (.aload_n 0, 1) := by decide +kernel
theorem dX8_gainsWithSome_39 : decode cX8_gainsWithSome 39 = .ok (.getfield 186, 3) := by decide +kernel
theorem dX8_gainsWithSome_42 : decode cX8_gainsWithSome 42 = .ok (.iconst 2, 1) := by decide +kernel
theorem dX8_gainsWithSome_43 : decode cX8_gainsWithSome 43 = .ok (.if_icmp .ne 45, 3) := by decide +kernel
theorem dX8_gainsWithSome_46 : decode cX8_gainsWithSome 46 = .ok (.aload_n 0, 1) := by decide +kernel
theorem dX8_gainsWithSome_47 : decode cX8_gainsWithSome 47 = .ok (.getfield 84, 3) := by decide +kernel
theorem dX8_gainsWithSome_50 : decode cX8_gainsWithSome 50 = .ok (.iconst 0, 1) := by decide +kernel
theorem dX8_gainsWithSome_51 : decode cX8_gainsWithSome 51 = .ok (.aload_n 0, 1) := by decide +kernel
theorem dX8_gainsWithSome_52 : decode cX8_gainsWithSome 52 = .ok (.getfield 81, 3) := by decide +kernel
theorem dX8_gainsWithSome_55 : decode cX8_gainsWithSome 55 = .ok (.iconst 4, 1) := by decide +kernel
theorem dX8_gainsWithSome_56 : decode cX8_gainsWithSome 56 = .ok (.iload_n 2, 1) := by decide +kernel
theorem dX8_gainsWithSome_57 : decode cX8_gainsWithSome 57 = .ok (.imul, 1) := by decide +kernel
theorem dX8_gainsWithSome_58 : decode cX8_gainsWithSome 58 = .ok (.iconst 1, 1) := by decide +kernel
theorem dX8_gainsWithSome_59 : decode cX8_gainsWithSome 59 = .ok (.iadd, 1) := by decide +kernel
theorem dX8_gainsWithSome_60 : decode cX8_gainsWithSome 60 = .ok (.iaload, 1) := by decide +kernel
theorem dX8_gainsWithSome_61 : decode cX8_gainsWithSome 61 = .ok (.i2l, 1) := by decide +kernel
theorem dX8_gainsWithSome_62 : decode cX8_gainsWithSome 62 = .ok (.lastore, 1) := by decide +kernel
theorem dX8_gainsWithSome_63 : decode cX8_gainsWithSome 63 = .ok (.aload_n 0, 1) := by decide +kernel
theorem dX8_gainsWithSome_64 : decode cX8_gainsWithSome 64 = .ok (.getfield 84, 3) := by decide +kernel
theorem dX8_gainsWithSome_67 : decode cX8_gainsWithSome 67 = .ok (.iconst 1, 1) := by decide +kernel
theorem dX8_gainsWithSome_68 : decode cX8_gainsWithSome 68 = .ok (.aload_n 0, 1) := by decide +kernel
theorem dX8_gainsWithSome_69 : decode cX8_gainsWithSome 69 = .ok (.getfield 81, 3) := by decide +kernel
theorem dX8_gainsWithSome_72 : decode cX8_gainsWithSome 72 = .ok (.iconst 4, 1) := by decide +kernel
theorem dX8_gainsWithSome_73 : decode cX8_gainsWithSome 73 = .ok (.iload_n 2, 1) := by decide +kernel
theorem dX8_gainsWithSome_74 : decode cX8_gainsWithSome 74 = .ok (.imul, 1) := by decide +kernel
theorem dX8_gainsWithSome_75 : decode cX8_gainsWithSome 75 = .ok (.iaload, 1) := by decide +kernel
theorem dX8_gainsWithSome_76 : decode cX8_gainsWithSome 76 = .ok (.ineg, 1) := by decide +kernel
theorem dX8_gainsWithSome_77 : decode cX8_gainsWithSome 77 = .ok (.i2l, 1) := by decide +kernel
theorem dX8_gainsWithSome_78 : decode cX8_gainsWithSome 78 = .ok (.lastore, 1) := by decide +kernel
theorem dX8_gainsWithSome_79 : decode cX8_gainsWithSome 79 = .ok (.aload_n 0, 1) := by decide +kernel
theorem dX8_gainsWithSome_80 : decode cX8_gainsWithSome 80 = .ok (.invokevirtual 205, 3) := by decide +kernel
theorem dX8_gainsWithSome_83 : decode cX8_gainsWithSome 83 = .ok (.ifCond .eq 176, 3) := by decide +kernel
theorem dX8_gainsWithSome_86 : decode cX8_gainsWithSome 86 = .ok (.iconst 1, 1) := by decide +kernel
theorem dX8_gainsWithSome_87 : decode cX8_gainsWithSome 87 = .ok (.ireturn, 1) := by decide +kernel
theorem dX8_gainsWithSome_88 : decode cX8_gainsWithSome 88 = .ok (.iload_n 2, 1) := by decide +kernel
theorem dX8_gainsWithSome_89 : decode cX8_gainsWithSome 89 = .ok (.iconst 1, 1) := by decide +kernel
theorem dX8_gainsWithSome_90 : decode cX8_gainsWithSome 90 = .ok (.iadd, 1) := by decide +kernel
theorem dX8_gainsWithSome_91 : decode cX8_gainsWithSome 91 = .ok (.istore_n 3, 1) := by decide +kernel
theorem dX8_gainsWithSome_92 : decode cX8_gainsWithSome 92 = .ok (.iload_n 3, 1) := by decide +kernel
theorem dX8_gainsWithSome_93 : decode cX8_gainsWithSome 93 = .ok (.iload_n 1, 1) := by decide +kernel
theorem dX8_gainsWithSome_94 : decode cX8_gainsWithSome 94 = .ok (.if_icmp .ge 165, 3) := by decide +kernel
theorem dX8_gainsWithSome_97 : decode cX8_gainsWithSome 97 = .ok (.aload_n 0, 1) := by decide +kernel
theorem dX8_gainsWithSome_98 : decode cX8_gainsWithSome 98 = .ok (.getfield 186, 3) := by decide +kernel
theorem dX8_gainsWithSome_101 : decode cX8_gainsWithSome 101 = .ok (.iconst 3, 1) := by decide +kernel
theorem dX8_gainsWithSome_102 : decode cX8_gainsWithSome 102 = .ok (.if_icmp .ne 55, 3) := by decide +kernel
theorem dX8_gainsWithSome_105 : decode cX8_gainsWithSome 105 = .ok (.aload_n 0, 1) := by decide +kernel
theorem dX8_gainsWithSome_106 : decode cX8_gainsWithSome 106 = .ok (.getfield 84, 3) := by decide +kernel
theorem dX8_gainsWithSome_109 : decode cX8_gainsWithSome 109 = .ok (.iconst 0, 1) := by decide +kernel
theorem dX8_gainsWithSome_110 : decode cX8_gainsWithSome 110 = .ok (.aload_n 0, 1) := by decide +kernel
theorem dX8_gainsWithSome_111 : decode cX8_gainsWithSome 111 = .ok (.iload_n 2, 1) := by decide +kernel
theorem dX8_gainsWithSome_112 : decode cX8_gainsWithSome 112 = .ok (.iload_n 3, 1) := by decide +kernel
theorem dX8_gainsWithSome_113 : decode cX8_gainsWithSome 113 = .ok (.iconst 1, 1) := by decide +kernel
theorem dX8_gainsWithSome_114 : decode cX8_gainsWithSome 114 = .ok (.iconst 2, 1) := by decide +kernel
theorem dX8_gainsWithSome_115 : decode cX8_gainsWithSome 115 = .ok (.invokevirtual 192, 3) := by decide +kernel
theorem dX8_gainsWithSome_118 : decode cX8_gainsWithSome 118 = .ok (.lastore, 1) := by decide +kernel
theorem dX8_gainsWithSome_119 : decode cX8_gainsWithSome 119 = .ok (.aload_n 0, 1) := by decide +kernel
theorem dX8_gainsWithSome_120 : decode cX8_gainsWithSome 120 = .ok (.getfield 84, 3) := by decide +kernel
theorem dX8_gainsWithSome_123 : decode cX8_gainsWithSome 123 = .ok (.iconst 1, 1) := by decide +kernel
theorem dX8_gainsWithSome_124 : decode cX8_gainsWithSome 124 = .ok (.aload_n 0, 1) := by decide +kernel
theorem dX8_gainsWithSome_125 : decode cX8_gainsWithSome 125 = .ok (.iload_n 2, 1) := by decide +kernel
theorem dX8_gainsWithSome_126 : decode cX8_gainsWithSome 126 = .ok (.iload_n 3, 1) := by decide +kernel
theorem dX8_gainsWithSome_127 : decode cX8_gainsWithSome 127 = .ok (.iconst 0, 1) := by decide +kernel
theorem dX8_gainsWithSome_128 : decode cX8_gainsWithSome 128 = .ok (.iconst 2, 1) := by decide +kernel
theorem dX8_gainsWithSome_129 : decode cX8_gainsWithSome 129 = .ok (.invokevirtual 192, 3) := by decide +kernel
theorem dX8_gainsWithSome_132 : decode cX8_gainsWithSome 132 = .ok (.lneg, 1) := by decide +kernel
theorem dX8_gainsWithSome_133 : decode cX8_gainsWithSome 133 = .ok (.lastore, 1) := by decide +kernel
theorem dX8_gainsWithSome_134 : decode cX8_gainsWithSome 134 = .ok (.aload_n 0, 1) := by decide +kernel
theorem dX8_gainsWithSome_135 : decode cX8_gainsWithSome 135 = .ok (.getfield 84, 3) := by decide +kernel
theorem dX8_gainsWithSome_138 : decode cX8_gainsWithSome 138 = .ok (.iconst 2, 1) := by decide +kernel
theorem dX8_gainsWithSome_139 : decode cX8_gainsWithSome 139 = .ok (.aload_n 0, 1) := by decide +kernel
theorem dX8_gainsWithSome_140 : decode cX8_gainsWithSome 140 = .ok (.iload_n 2, 1) := by decide +kernel
theorem dX8_gainsWithSome_141 : decode cX8_gainsWithSome 141 = .ok (.iload_n 3, 1) := by decide +kernel
theorem dX8_gainsWithSome_142 : decode cX8_gainsWithSome 142 = .ok (.iconst 0, 1) := by decide +kernel
theorem dX8_gainsWithSome_143 : decode cX8_gainsWithSome 143 = .ok (.iconst 1, 1) := by decide +kernel
theorem dX8_gainsWithSome_144 : decode cX8_gainsWithSome 144 = .ok (.invokevirtual 192, 3) := by decide +kernel
theorem dX8_gainsWithSome_147 : decode cX8_gainsWithSome 147 = .ok (.lastore, 1) := by decide +kernel
theorem dX8_gainsWithSome_148 : decode cX8_gainsWithSome 148 = .ok (.aload_n 0, 1) := by decide +kernel
theorem dX8_gainsWithSome_149 : decode cX8_gainsWithSome 149 = .ok (.invokevirtual 205, 3) := by decide +kernel
theorem dX8_gainsWithSome_152 : decode cX8_gainsWithSome 152 = .ok (.ifCond .eq 101, 3) := by decide +kernel
theorem dX8_gainsWithSome_155 : decode cX8_gainsWithSome 155 = .ok (.iconst 1, 1) := by decide +kernel
theorem dX8_gainsWithSome_156 : decode cX8_gainsWithSome 156 = .ok (.ireturn, 1) := by decide +kernel
theorem dX8_gainsWithSome_157 : decode cX8_gainsWithSome 157 = .ok (.iload_n 3, 1) := by decide +kernel
theorem dX8_gainsWithSome_158 : decode cX8_gainsWithSome 158 = .ok (.iconst 1, 1) := by decide +kernel
theorem dX8_gainsWithSome_159 : decode cX8_gainsWithSome 159 = .ok (.iadd, 1) := by decide +kernel
theorem dX8_gainsWithSome_160 : decode cX8_gainsWithSome 160 = .ok (.istore 4, 2) := by decide +kernel
theorem dX8_gainsWithSome_162 : decode cX8_gainsWithSome 162 = .ok (.iload 4, 2) := by decide +kernel
theorem dX8_gainsWithSome_164 : decode cX8_gainsWithSome 164 = .ok (.iload_n 1, 1) := by decide +kernel
theorem dX8_gainsWithSome_165 : decode cX8_gainsWithSome 165 = .ok (.if_icmp .ge 88, 3) := by decide +kernel
theorem dX8_gainsWithSome_168 : decode cX8_gainsWithSome 168 = .ok (.aload_n 0, 1) := by decide +kernel
theorem dX8_gainsWithSome_169 : decode cX8_gainsWithSome 169 = .ok (.getfield 84, 3) := by decide +kernel
theorem dX8_gainsWithSome_172 : decode cX8_gainsWithSome 172 = .ok (.iconst 0, 1) := by decide +kernel
theorem dX8_gainsWithSome_173 : decode cX8_gainsWithSome 173 = .ok (.aload_n 0, 1) := by decide +kernel
theorem dX8_gainsWithSome_174 : decode cX8_gainsWithSome 174 = .ok (.iload_n 2, 1) := by decide +kernel
theorem dX8_gainsWithSome_175 : decode cX8_gainsWithSome 175 = .ok (.iload_n 3, 1) := by decide +kernel
theorem dX8_gainsWithSome_176 : decode cX8_gainsWithSome 176 = .ok (.iload 4, 2) := by decide +kernel
theorem dX8_gainsWithSome_178 : decode cX8_gainsWithSome 178 = .ok (.iconst 1, 1) := by decide +kernel
theorem dX8_gainsWithSome_179 : decode cX8_gainsWithSome 179 = .ok (.iconst 2, 1) := by decide +kernel
theorem dX8_gainsWithSome_180 : decode cX8_gainsWithSome 180 = .ok (.iconst 3, 1) := by decide +kernel
theorem dX8_gainsWithSome_181 : decode cX8_gainsWithSome 181 = .ok (.invokevirtual 208, 3) := by decide +kernel
theorem dX8_gainsWithSome_184 : decode cX8_gainsWithSome 184 = .ok (.lastore, 1) := by decide +kernel
theorem dX8_gainsWithSome_185 : decode cX8_gainsWithSome 185 = .ok (.aload_n 0, 1) := by decide +kernel
theorem dX8_gainsWithSome_186 : decode cX8_gainsWithSome 186 = .ok (.getfield 84, 3) := by decide +kernel
theorem dX8_gainsWithSome_189 : decode cX8_gainsWithSome 189 = .ok (.iconst 1, 1) := by decide +kernel
theorem dX8_gainsWithSome_190 : decode cX8_gainsWithSome 190 = .ok (.aload_n 0, 1) := by decide +kernel
theorem dX8_gainsWithSome_191 : decode cX8_gainsWithSome 191 = .ok (.iload_n 2, 1) := by decide +kernel
theorem dX8_gainsWithSome_192 : decode cX8_gainsWithSome 192 = .ok (.iload_n 3, 1) := by decide +kernel
theorem dX8_gainsWithSome_193 : decode cX8_gainsWithSome 193 = .ok (.iload 4, 2) := by decide +kernel
theorem dX8_gainsWithSome_195 : decode cX8_gainsWithSome 195 = .ok (.iconst 0, 1) := by decide +kernel
theorem dX8_gainsWithSome_196 : decode cX8_gainsWithSome 196 = .ok (.iconst 2, 1) := by decide +kernel
theorem dX8_gainsWithSome_197 : decode cX8_gainsWithSome 197 = .ok (.iconst 3, 1) := by decide +kernel
theorem dX8_gainsWithSome_198 : decode cX8_gainsWithSome 198 = .ok (.invokevirtual 208, 3) := by decide +kernel
theorem dX8_gainsWithSome_201 : decode cX8_gainsWithSome 201 = .ok (.lneg, 1) := by decide +kernel
theorem dX8_gainsWithSome_202 : decode cX8_gainsWithSome 202 = .ok (.lastore, 1) := by decide +kernel
theorem dX8_gainsWithSome_203 : decode cX8_gainsWithSome 203 = .ok (.aload_n 0, 1) := by decide +kernel
theorem dX8_gainsWithSome_204 : decode cX8_gainsWithSome 204 = .ok (.getfield 84, 3) := by decide +kernel
theorem dX8_gainsWithSome_207 : decode cX8_gainsWithSome 207 = .ok (.iconst 2, 1) := by decide +kernel
theorem dX8_gainsWithSome_208 : decode cX8_gainsWithSome 208 = .ok (.aload_n 0, 1) := by decide +kernel
theorem dX8_gainsWithSome_209 : decode cX8_gainsWithSome 209 = .ok (.iload_n 2, 1) := by decide +kernel
theorem dX8_gainsWithSome_210 : decode cX8_gainsWithSome 210 = .ok (.iload_n 3, 1) := by decide +kernel
theorem dX8_gainsWithSome_211 : decode cX8_gainsWithSome 211 = .ok (.iload 4, 2) := by decide +kernel
theorem dX8_gainsWithSome_213 : decode cX8_gainsWithSome 213 = .ok (.iconst 0, 1) := by decide +kernel
theorem dX8_gainsWithSome_214 : decode cX8_gainsWithSome 214 = .ok (.iconst 1, 1) := by decide +kernel
theorem dX8_gainsWithSome_215 : decode cX8_gainsWithSome 215 = .ok (.iconst 3, 1) := by decide +kernel
theorem dX8_gainsWithSome_216 : decode cX8_gainsWithSome 216 = .ok (.invokevirtual 208, 3) := by decide +kernel
theorem dX8_gainsWithSome_219 : decode cX8_gainsWithSome 219 = .ok (.lastore, 1) := by decide +kernel
theorem dX8_gainsWithSome_220 : decode cX8_gainsWithSome 220 = .ok (.aload_n 0, 1) := by decide +kernel
theorem dX8_gainsWithSome_221 : decode cX8_gainsWithSome 221 = .ok (.getfield 84, 3) := by decide +kernel
theorem dX8_gainsWithSome_224 : decode cX8_gainsWithSome 224 = .ok (.iconst 3, 1) := by decide +kernel
theorem dX8_gainsWithSome_225 : decode cX8_gainsWithSome 225 = .ok (.aload_n 0, 1) := by decide +kernel
theorem dX8_gainsWithSome_226 : decode cX8_gainsWithSome 226 = .ok (.iload_n 2, 1) := by decide +kernel
theorem dX8_gainsWithSome_227 : decode cX8_gainsWithSome 227 = .ok (.iload_n 3, 1) := by decide +kernel
theorem dX8_gainsWithSome_228 : decode cX8_gainsWithSome 228 = .ok (.iload 4, 2) := by decide +kernel
theorem dX8_gainsWithSome_230 : decode cX8_gainsWithSome 230 = .ok (.iconst 0, 1) := by decide +kernel
theorem dX8_gainsWithSome_231 : decode cX8_gainsWithSome 231 = .ok (.iconst 1, 1) := by decide +kernel
theorem dX8_gainsWithSome_232 : decode cX8_gainsWithSome 232 = .ok (.iconst 2, 1) := by decide +kernel
theorem dX8_gainsWithSome_233 : decode cX8_gainsWithSome 233 = .ok (.invokevirtual 208, 3) := by decide +kernel
theorem dX8_gainsWithSome_236 : decode cX8_gainsWithSome 236 = .ok (.lneg, 1) := by decide +kernel
theorem dX8_gainsWithSome_237 : decode cX8_gainsWithSome 237 = .ok (.lastore, 1) := by decide +kernel
theorem dX8_gainsWithSome_238 : decode cX8_gainsWithSome 238 = .ok (.aload_n 0, 1) := by decide +kernel
theorem dX8_gainsWithSome_239 : decode cX8_gainsWithSome 239 = .ok (.invokevirtual 205, 3) := by decide +kernel
theorem dX8_gainsWithSome_242 : decode cX8_gainsWithSome 242 = .ok (.ifCond .eq 5, 3) := by decide +kernel
theorem dX8_gainsWithSome_245 : decode cX8_gainsWithSome 245 = .ok (.iconst 1, 1) := by decide +kernel
theorem dX8_gainsWithSome_246 : decode cX8_gainsWithSome 246 = .ok (.ireturn, 1) := by decide +kernel
theorem dX8_gainsWithSome_247 : decode cX8_gainsWithSome 247 = .ok (.iinc 4 1, 3) := by decide +kernel
theorem dX8_gainsWithSome_250 : decode cX8_gainsWithSome 250 = .ok (.goto (-88), 3) := by decide +kernel
theorem dX8_gainsWithSome_253 : decode cX8_gainsWithSome 253 = .ok (.iinc 3 1, 3) := by decide +kernel
theorem dX8_gainsWithSome_256 : decode cX8_gainsWithSome 256 = .ok (.goto (-164), 3) := by decide +kernel
theorem dX8_gainsWithSome_259 : decode cX8_gainsWithSome 259 = .ok (.iinc 2 1, 3) := by decide +kernel
theorem dX8_gainsWithSome_262 : decode cX8_gainsWithSome 262 = .ok (.goto (-229), 3) := by decide +kernel
theorem dX8_gainsWithSome_265 : decode cX8_gainsWithSome 265 = .ok (.iconst 0, 1) := by decide +kernel
theorem dX8_gainsWithSome_266 : decode cX8_gainsWithSome 266 = .ok (.ireturn, 1) := by decide +kernel
theorem dX8_tries_0 : decode cX8_tries 0 = .ok (.iload_n 2, 1) := by decide +kernel
theorem dX8_tries_1 : decode cX8_tries 1 = .ok (.ifCond .le 17, 3) := by decide +kernel
theorem dX8_tries_4 : decode cX8_tries 4 = .ok (.aload_n 0, 1) := by decide +kernel
theorem dX8_tries_5 : decode cX8_tries 5 = .ok (.iload_n 2, 1) := by decide +kernel
theorem dX8_tries_6 : decode cX8_tries 6 = .ok (.putfield 186, 3) := by decide +kernel
theorem dX8_tries_9 : decode cX8_tries 9 = .ok (.aload_n 0, 1) := by decide +kernel
theorem dX8_tries_10 : decode cX8_tries 10 = .ok (.invokevirtual 212, 3) := by decide +kernel
theorem dX8_tries_13 : decode cX8_tries 13 = .ok (.ifCond .eq 5, 3) := by decide +kernel
theorem dX8_tries_16 : decode cX8_tries 16 = .ok (.iconst 1, 1) := by decide +kernel
theorem dX8_tries_17 : decode cX8_tries 17 = .ok (.ireturn, 1) := by decide +kernel
theorem dX8_tries_18 : decode cX8_tries 18 = .ok (.iload_n 2, 1) := by decide +kernel
theorem dX8_tries_19 : decode cX8_tries 19 = .ok (.iconst 4, 1) := by decide +kernel
theorem dX8_tries_20 : decode cX8_tries 20 = .ok (.if_icmp .ne 5, 3) := by decide +kernel
theorem dX8_tries_23 : decode cX8_tries 23 = .ok (.iconst 0, 1) := by decide +kernel
theorem dX8_tries_24 : decode cX8_tries 24 = .ok (.ireturn, 1) := by decide +kernel
theorem dX8_tries_25 : decode cX8_tries 25 = .ok (.iload_n 1, 1) := by decide +kernel
theorem dX8_tries_26 : decode cX8_tries 26 = .ok (.istore_n 3, 1) := by decide +kernel
theorem dX8_tries_27 : decode cX8_tries 27 = .ok (.iload_n 3, 1) := by decide +kernel
theorem dX8_tries_28 : decode cX8_tries 28 = .ok (.aload_n 0, 1) := by decide +kernel
theorem dX8_tries_29 : decode cX8_tries 29 = .ok (.getfield 98, 3) := by decide +kernel
theorem dX8_tries_32 : decode cX8_tries 32 = .ok (.if_icmp .ge 43, 3) := by decide +kernel
theorem dX8_tries_35 : decode cX8_tries 35 = .ok (.aload_n 0, 1) := by decide +kernel
theorem dX8_tries_36 : decode cX8_tries 36 = .ok (.getfield 25, 3) := by decide +kernel
theorem dX8_tries_39 : decode cX8_tries 39 = .ok (.iload_n 3, 1) := by decide +kernel
theorem dX8_tries_40 : decode cX8_tries 40 = .ok (.baload, 1) := by decide +kernel
theorem dX8_tries_41 : decode cX8_tries 41 = .ok (.ifCond .eq 6, 3) := by decide +kernel
theorem dX8_tries_44 : decode cX8_tries 44 = .ok (.goto 25, 3) := by decide +kernel
theorem dX8_tries_47 : decode cX8_tries 47 = .ok (.aload_n 0, 1) := by decide +kernel
theorem dX8_tries_48 : decode cX8_tries 48 = .ok (.getfield 78, 3) := by decide +kernel
theorem dX8_tries_51 : decode cX8_tries 51 = .ok (.iload_n 2, 1) := by decide +kernel
theorem dX8_tries_52 : decode cX8_tries 52 = .ok (.iload_n 3, 1) := by decide +kernel
theorem dX8_tries_53 : decode cX8_tries 53 = .ok (.iastore, 1) := by decide +kernel
theorem dX8_tries_54 : decode cX8_tries 54 = .ok (.aload_n 0, 1) := by decide +kernel
theorem dX8_tries_55 : decode cX8_tries 55 = .ok (.iload_n 3, 1) := by decide +kernel
theorem dX8_tries_56 : decode cX8_tries 56 = .ok (.iconst 1, 1) := by decide +kernel
theorem dX8_tries_57 : decode cX8_tries 57 = .ok (.iadd, 1) := by decide +kernel
theorem dX8_tries_58 : decode cX8_tries 58 = .ok (.iload_n 2, 1) := by decide +kernel
theorem dX8_tries_59 : decode cX8_tries 59 = .ok (.iconst 1, 1) := by decide +kernel
theorem dX8_tries_60 : decode cX8_tries 60 = .ok (.iadd, 1) := by decide +kernel
theorem dX8_tries_61 : decode cX8_tries 61 = .ok (.invokevirtual 215, 3) := by decide +kernel
theorem dX8_tries_64 : decode cX8_tries 64 = .ok (.ifCond .eq 5, 3) := by decide +kernel
theorem dX8_tries_67 : decode cX8_tries 67 = .ok (.iconst 1, 1) := by decide +kernel
theorem dX8_tries_68 : decode cX8_tries 68 = .ok (.ireturn, 1) := by decide +kernel
theorem dX8_tries_69 : decode cX8_tries 69 = .ok (.iinc 3 1, 3) := by decide +kernel
theorem dX8_tries_72 : decode cX8_tries 72 = .ok (.goto (-45), 3) := by decide +kernel
theorem dX8_tries_75 : decode cX8_tries 75 = .ok (.iconst 0, 1) := by decide +kernel
theorem dX8_tries_76 : decode cX8_tries 76 = .ok (.ireturn, 1) := by decide +kernel
theorem dX8_gains_0 : decode cX8_gains 0 = .ok (.aload_n 0, 1) := by decide +kernel
theorem dX8_gains_1 : decode cX8_gains 1 = .ok (.iconst 0, 1) := by decide +kernel
theorem dX8_gains_2 : decode cX8_gains 2 = .ok (.putfield 87, 3) := by decide +kernel
theorem dX8_gains_5 : decode cX8_gains 5 = .ok (.aload_n 0, 1) := by decide +kernel
theorem dX8_gains_6 : decode cX8_gains 6 = .ok (.iconst 0, 1) := by decide +kernel
theorem dX8_gains_7 : decode cX8_gains 7 = .ok (.iconst 0, 1) := by decide +kernel
theorem dX8_gains_8 : decode cX8_gains 8 = .ok (.invokevirtual 215, 3) := by decide +kernel
theorem dX8_gains_11 : decode cX8_gains 11 = .ok (.ireturn, 1) := by decide +kernel
theorem dX8_times_0 : decode cX8_times 0 = .ok (.aload_n 0, 1) := by decide +kernel
theorem dX8_times_1 : decode cX8_times 1 = .ok (.iconst 0, 1) := by decide +kernel
theorem dX8_times_2 : decode cX8_times 2 = .ok (.putfield 87, 3) := by decide +kernel
theorem dX8_times_5 : decode cX8_times 5 = .ok (.aload_n 0, 1) := by decide +kernel
theorem dX8_times_6 : decode cX8_times 6 = .ok (.aload_n 0, 1) := by decide +kernel
theorem dX8_times_7 : decode cX8_times 7 = .ok (.iload_n 1, 1) := by decide +kernel
theorem dX8_times_8 : decode cX8_times 8 = .ok (.invokevirtual 110, 3) := by decide +kernel
theorem dX8_times_11 : decode cX8_times 11 = .ok (.iconst 1, 1) := by decide +kernel
theorem dX8_times_12 : decode cX8_times 12 = .ok (.invokevirtual 106, 3) := by decide +kernel
theorem dX8_times_15 : decode cX8_times 15 = .ok (.ifCond .ne 28, 3) := by decide +kernel
theorem dX8_times_18 : decode cX8_times 18 = .ok (.aload_n 0, 1) := by decide +kernel
theorem dX8_times_19 : decode cX8_times 19 = .ok (.iload_n 2, 1) := by decide +kernel
theorem dX8_times_20 : decode cX8_times 20 = .ok (.i2l, 1) := by decide +kernel
theorem dX8_times_21 : decode cX8_times 21 = .ok (.lconst 0, 1) := by decide +kernel
theorem dX8_times_22 : decode cX8_times 22 = .ok (.ldc2_w 127, 3) := by decide +kernel
theorem dX8_times_25 : decode cX8_times 25 = .ok (.invokestatic 94, 3) := by decide +kernel
theorem dX8_times_28 : decode cX8_times 28 = .ok (.ifCond .ne 7, 3) := by decide +kernel
theorem dX8_times_31 : decode cX8_times 31 = .ok (.iconst 1, 1) := by decide +kernel
theorem dX8_times_32 : decode cX8_times 32 = .ok (.goto 4, 3) := by decide +kernel
theorem dX8_times_35 : decode cX8_times 35 = .ok (.iconst 0, 1) := by decide +kernel
theorem dX8_times_36 : decode cX8_times 36 = .ok (.iconst 2, 1) := by decide +kernel
theorem dX8_times_37 : decode cX8_times 37 = .ok (.invokevirtual 106, 3) := by decide +kernel
theorem dX8_times_40 : decode cX8_times 40 = .ok (.ifCond .eq 4, 3) := by decide +kernel
theorem dX8_times_43 : decode cX8_times 43 = .ok (.return_, 1) := by decide +kernel
theorem dX8_times_44 : decode cX8_times 44 = .ok (.aload_n 0, 1) := by decide +kernel
theorem dX8_times_45 : decode cX8_times 45 = .ok (.getfield 29, 3) := by decide +kernel
theorem dX8_times_48 : decode cX8_times 48 = .ok (.iload_n 1, 1) := by decide +kernel
theorem dX8_times_49 : decode cX8_times 49 = .ok (.iload_n 2, 1) := by decide +kernel
theorem dX8_times_50 : decode cX8_times 50 = .ok (.iastore, 1) := by decide +kernel
theorem dX8_times_51 : decode cX8_times 51 = .ok (.return_, 1) := by decide +kernel
theorem dX8_earns_0 : decode cX8_earns 0 = .ok (.aload_n 0, 1) := by decide +kernel
theorem dX8_earns_1 : decode cX8_earns 1 = .ok (.iconst 0, 1) := by decide +kernel
theorem dX8_earns_2 : decode cX8_earns 2 = .ok (.putfield 87, 3) := by decide +kernel
theorem dX8_earns_5 : decode cX8_earns 5 = .ok (.iconst 1, 1) := by decide +kernel
theorem dX8_earns_6 : decode cX8_earns 6 = .ok (.istore_n 1, 1) := by decide +kernel
theorem dX8_earns_7 : decode cX8_earns 7 = .ok (.iconst 0, 1) := by decide +kernel
theorem dX8_earns_8 : decode cX8_earns 8 = .ok (.istore_n 2, 1) := by decide +kernel
theorem dX8_earns_9 : decode cX8_earns 9 = .ok (.iconst 0, 1) := by decide +kernel
theorem dX8_earns_10 : decode cX8_earns 10 = .ok (.istore_n 3, 1) := by decide +kernel
theorem dX8_earns_11 : decode cX8_earns 11 = .ok (.iload_n 3, 1) := by decide +kernel
theorem dX8_earns_12 : decode cX8_earns 12 = .ok (.iconst 4, 1) := by decide +kernel
theorem dX8_earns_13 : decode cX8_earns 13 = .ok (.if_icmp .ge 94, 3) := by decide +kernel
theorem dX8_earns_16 : decode cX8_earns 16 = .ok (.iconst 0, 1) := by decide +kernel
theorem dX8_earns_17 : decode cX8_earns 17 = .ok (.istore 4, 2) := by decide +kernel
theorem dX8_earns_19 : decode cX8_earns 19 = .ok (.iconst 0, 1) := by decide +kernel
theorem dX8_earns_20 : decode cX8_earns 20 = .ok (.istore 5, 2) := by decide +kernel
theorem dX8_earns_22 : decode cX8_earns 22 = .ok (.iload 5, 2) := by decide +kernel
theorem dX8_earns_24 : decode cX8_earns 24 = .ok (.aload_n 0, 1) := by decide +kernel
theorem dX8_earns_25 : decode cX8_earns 25 = .ok (.getfield 98, 3) := by decide +kernel
theorem dX8_earns_28 : decode cX8_earns 28 = .ok (.if_icmp .ge 43, 3) := by decide +kernel
theorem dX8_earns_31 : decode cX8_earns 31 = .ok (.iload 4, 2) := by decide +kernel
theorem dX8_earns_33 : decode cX8_earns 33 = .ok (.aload_n 0, 1) := by decide +kernel
theorem dX8_earns_34 : decode cX8_earns 34 = .ok (.getfield 25, 3) := by decide +kernel
theorem dX8_earns_37 : decode cX8_earns 37 = .ok (.iload 5, 2) := by decide +kernel
theorem dX8_earns_39 : decode cX8_earns 39 = .ok (.baload, 1) := by decide +kernel
theorem dX8_earns_40 : decode cX8_earns 40 = .ok (.ifCond .eq 7, 3) := by decide +kernel
theorem dX8_earns_43 : decode cX8_earns 43 = .ok (.iconst 0, 1) := by decide +kernel
theorem dX8_earns_44 : decode cX8_earns 44 = .ok (.goto 18, 3) := by decide +kernel
theorem dX8_earns_47 : decode cX8_earns 47 = .ok (.aload_n 0, 1) := by decide +kernel
theorem dX8_earns_48 : decode cX8_earns 48 = .ok (.getfield 29, 3) := by decide +kernel
theorem dX8_earns_51 : decode cX8_earns 51 = .ok (.iload 5, 2) := by decide +kernel
theorem dX8_earns_53 : decode cX8_earns 53 = .ok (.iaload, 1) := by decide +kernel
theorem dX8_earns_54 : decode cX8_earns 54 = .ok (.aload_n 0, 1) := by decide +kernel
theorem dX8_earns_55 : decode cX8_earns 55 = .ok (.iload 5, 2) := by decide +kernel
theorem dX8_earns_57 : decode cX8_earns 57 = .ok (.iload_n 3, 1) := by decide +kernel
theorem dX8_earns_58 : decode cX8_earns 58 = .ok (.invokevirtual 189, 3) := by decide +kernel
theorem dX8_earns_61 : decode cX8_earns 61 = .ok (.imul, 1) := by decide +kernel
theorem dX8_earns_62 : decode cX8_earns 62 = .ok (.iadd, 1) := by decide +kernel
theorem dX8_earns_63 : decode cX8_earns 63 = .ok (.istore 4, 2) := by decide +kernel
theorem dX8_earns_65 : decode cX8_earns 65 = .ok (.iinc 5 1, 3) := by decide +kernel
theorem dX8_earns_68 : decode cX8_earns 68 = .ok (.goto (-46), 3) := by decide +kernel
theorem dX8_earns_71 : decode cX8_earns 71 = .ok (.iload_n 1, 1) := by decide +kernel
theorem dX8_earns_72 : decode cX8_earns 72 = .ok (.ifCond .eq 12, 3) := by decide +kernel
theorem dX8_earns_75 : decode cX8_earns 75 = .ok (.iload 4, 2) := by decide +kernel
theorem dX8_earns_77 : decode cX8_earns 77 = .ok (.ifCond .lt 7, 3) := by decide +kernel
theorem dX8_earns_80 : decode cX8_earns 80 = .ok (.iconst 1, 1) := by decide +kernel
theorem dX8_earns_81 : decode cX8_earns 81 = .ok (.goto 4, 3) := by decide +kernel
theorem dX8_earns_84 : decode cX8_earns 84 = .ok (.iconst 0, 1) := by decide +kernel
theorem dX8_earns_85 : decode cX8_earns 85 = .ok (.istore_n 1, 1) := by decide +kernel
theorem dX8_earns_86 : decode cX8_earns 86 = .ok (.iload_n 2, 1) := by decide +kernel
theorem dX8_earns_87 : decode cX8_earns 87 = .ok (.ifCond .ne 8, 3) := by decide +kernel
theorem dX8_earns_90 : decode cX8_earns 90 = .ok (.iload 4, 2) := by decide +kernel
theorem dX8_earns_92 : decode cX8_earns 92 = .ok (.ifCond .le 7, 3) := by decide +kernel
theorem dX8_earns_95 : decode cX8_earns 95 = .ok (.iconst 1, 1) := by decide +kernel
theorem dX8_earns_96 : decode cX8_earns 96 = .ok (.goto 4, 3) := by decide +kernel
theorem dX8_earns_99 : decode cX8_earns 99 = .ok (.iconst 0, 1) := by decide +kernel
theorem dX8_earns_100 : decode cX8_earns 100 = .ok (.istore_n 2, 1) := by decide +kernel
theorem dX8_earns_101 : decode cX8_earns 101 = .ok (.iinc 3 1, 3) := by decide +kernel
theorem dX8_earns_104 : decode cX8_earns 104 = .ok (.goto (-93), 3) := by decide +kernel
theorem dX8_earns_107 : decode cX8_earns 107 = .ok (.iload_n 1, 1) := by decide +kernel
theorem dX8_earns_108 : decode cX8_earns 108 = .ok (.ifCond .eq 11, 3) := by decide +kernel
theorem dX8_earns_111 : decode cX8_earns 111 = .ok (.iload_n 2, 1) := by decide +kernel
theorem dX8_earns_112 : decode cX8_earns 112 = .ok (.ifCond .eq 7, 3) := by decide +kernel
theorem dX8_earns_115 : decode cX8_earns 115 = .ok (.iconst 1, 1) := by decide +kernel
theorem dX8_earns_116 : decode cX8_earns 116 = .ok (.goto 4, 3) := by decide +kernel
theorem dX8_earns_119 : decode cX8_earns 119 = .ok (.iconst 0, 1) := by decide +kernel
theorem dX8_earns_120 : decode cX8_earns 120 = .ok (.ireturn, 1) := by decide +kernel
theorem dX8_weigh_0 : decode cX8_weigh 0 = .ok (.aload_n 0, 1) := by decide +kernel
theorem dX8_weigh_1 : decode cX8_weigh 1 = .ok (.iconst 0, 1) := by decide +kernel
theorem dX8_weigh_2 : decode cX8_weigh 2 = .ok (.putfield 87, 3) := by decide +kernel
theorem dX8_weigh_5 : decode cX8_weigh 5 = .ok (.aload_n 0, 1) := by decide +kernel
theorem dX8_weigh_6 : decode cX8_weigh 6 = .ok (.iload_n 1, 1) := by decide +kernel
theorem dX8_weigh_7 : decode cX8_weigh 7 = .ok (.invokestatic 114, 3) := by decide +kernel
theorem dX8_weigh_10 : decode cX8_weigh 10 = .ok (.iconst 1, 1) := by decide +kernel
theorem dX8_weigh_11 : decode cX8_weigh 11 = .ok (.invokevirtual 106, 3) := by decide +kernel
theorem dX8_weigh_14 : decode cX8_weigh 14 = .ok (.ifCond .ne 28, 3) := by decide +kernel
theorem dX8_weigh_17 : decode cX8_weigh 17 = .ok (.aload_n 0, 1) := by decide +kernel
theorem dX8_weigh_18 : decode cX8_weigh 18 = .ok (.iload_n 2, 1) := by decide +kernel
theorem dX8_weigh_19 : decode cX8_weigh 19 = .ok (.i2l, 1) := by decide +kernel
theorem dX8_weigh_20 : decode cX8_weigh 20 = .ok (.lconst 0, 1) := by decide +kernel
theorem dX8_weigh_21 : decode cX8_weigh 21 = .ok (.ldc2_w 127, 3) := by decide +kernel
theorem dX8_weigh_24 : decode cX8_weigh 24 = .ok (.invokestatic 94, 3) := by decide +kernel
theorem dX8_weigh_27 : decode cX8_weigh 27 = .ok (.ifCond .ne 7, 3) := by decide +kernel
theorem dX8_weigh_30 : decode cX8_weigh 30 = .ok (.iconst 1, 1) := by decide +kernel
theorem dX8_weigh_31 : decode cX8_weigh 31 = .ok (.goto 4, 3) := by decide +kernel
theorem dX8_weigh_34 : decode cX8_weigh 34 = .ok (.iconst 0, 1) := by decide +kernel
theorem dX8_weigh_35 : decode cX8_weigh 35 = .ok (.iconst 2, 1) := by decide +kernel
theorem dX8_weigh_36 : decode cX8_weigh 36 = .ok (.invokevirtual 106, 3) := by decide +kernel
theorem dX8_weigh_39 : decode cX8_weigh 39 = .ok (.ifCond .eq 4, 3) := by decide +kernel
theorem dX8_weigh_42 : decode cX8_weigh 42 = .ok (.return_, 1) := by decide +kernel
theorem dX8_weigh_43 : decode cX8_weigh 43 = .ok (.aload_n 0, 1) := by decide +kernel
theorem dX8_weigh_44 : decode cX8_weigh 44 = .ok (.getfield 32, 3) := by decide +kernel
theorem dX8_weigh_47 : decode cX8_weigh 47 = .ok (.iload_n 1, 1) := by decide +kernel
theorem dX8_weigh_48 : decode cX8_weigh 48 = .ok (.iload_n 2, 1) := by decide +kernel
theorem dX8_weigh_49 : decode cX8_weigh 49 = .ok (.iastore, 1) := by decide +kernel
theorem dX8_weigh_50 : decode cX8_weigh 50 = .ok (.return_, 1) := by decide +kernel
theorem dX8_bars_0 : decode cX8_bars 0 = .ok (.aload_n 0, 1) := by decide +kernel
theorem dX8_bars_1 : decode cX8_bars 1 = .ok (.iconst 0, 1) := by decide +kernel
theorem dX8_bars_2 : decode cX8_bars 2 = .ok (.putfield 87, 3) := by decide +kernel
theorem dX8_bars_5 : decode cX8_bars 5 = .ok (.iconst 1, 1) := by decide +kernel
theorem dX8_bars_6 : decode cX8_bars 6 = .ok (.istore_n 1, 1) := by decide +kernel
theorem dX8_bars_7 : decode cX8_bars 7 = .ok (.iconst 0, 1) := by decide +kernel
theorem dX8_bars_8 : decode cX8_bars 8 = .ok (.istore_n 2, 1) := by decide +kernel
theorem dX8_bars_9 : decode cX8_bars 9 = .ok (.iload_n 2, 1) := by decide +kernel
theorem dX8_bars_10 : decode cX8_bars 10 = .ok (.iconst 4, 1) := by decide +kernel
theorem dX8_bars_11 : decode cX8_bars 11 = .ok (.if_icmp .ge 28, 3) := by decide +kernel
theorem dX8_bars_14 : decode cX8_bars 14 = .ok (.iload_n 1, 1) := by decide +kernel
theorem dX8_bars_15 : decode cX8_bars 15 = .ok (.ifCond .eq 16, 3) := by decide +kernel
theorem dX8_bars_18 : decode cX8_bars 18 = .ok (.aload_n 0, 1) := by decide +kernel
theorem dX8_bars_19 : decode cX8_bars 19 = .ok (.getfield 32, 3) := by decide +kernel
theorem dX8_bars_22 : decode cX8_bars 22 = .ok (.iload_n 2, 1) := by decide +kernel
theorem dX8_bars_23 : decode cX8_bars 23 = .ok (.iaload, 1) := by decide +kernel
theorem dX8_bars_24 : decode cX8_bars 24 = .ok (.ifCond .le 7, 3) := by decide +kernel
theorem dX8_bars_27 : decode cX8_bars 27 = .ok (.iconst 1, 1) := by decide +kernel
theorem dX8_bars_28 : decode cX8_bars 28 = .ok (.goto 4, 3) := by decide +kernel
theorem dX8_bars_31 : decode cX8_bars 31 = .ok (.iconst 0, 1) := by decide +kernel
theorem dX8_bars_32 : decode cX8_bars 32 = .ok (.istore_n 1, 1) := by decide +kernel
theorem dX8_bars_33 : decode cX8_bars 33 = .ok (.iinc 2 1, 3) := by decide +kernel
theorem dX8_bars_36 : decode cX8_bars 36 = .ok (.goto (-27), 3) := by decide +kernel
theorem dX8_bars_39 : decode cX8_bars 39 = .ok (.iconst 0, 1) := by decide +kernel
theorem dX8_bars_40 : decode cX8_bars 40 = .ok (.istore_n 2, 1) := by decide +kernel
theorem dX8_bars_41 : decode cX8_bars 41 = .ok (.iload_n 2, 1) := by decide +kernel
theorem dX8_bars_42 : decode cX8_bars 42 = .ok (.aload_n 0, 1) := by decide +kernel
theorem dX8_bars_43 : decode cX8_bars 43 = .ok (.getfield 98, 3) := by decide +kernel
theorem dX8_bars_46 : decode cX8_bars 46 = .ok (.if_icmp .ge 67, 3) := by decide +kernel
theorem dX8_bars_49 : decode cX8_bars 49 = .ok (.iconst 0, 1) := by decide +kernel
theorem dX8_bars_50 : decode cX8_bars 50 = .ok (.istore_n 3, 1) := by decide +kernel
theorem dX8_bars_51 : decode cX8_bars 51 = .ok (.iconst 0, 1) := by decide +kernel
theorem dX8_bars_52 : decode cX8_bars 52 = .ok (.istore 4, 2) := by decide +kernel
theorem dX8_bars_54 : decode cX8_bars 54 = .ok (.iload 4, 2) := by decide +kernel
theorem dX8_bars_56 : decode cX8_bars 56 = .ok (.iconst 4, 1) := by decide +kernel
theorem dX8_bars_57 : decode cX8_bars 57 = .ok (.if_icmp .ge 27, 3) := by decide +kernel
theorem dX8_bars_60 : decode cX8_bars 60 = .ok (.iload_n 3, 1) := by decide +kernel
theorem dX8_bars_61 : decode cX8_bars 61 = .ok (.aload_n 0, 1) := by decide +kernel
theorem dX8_bars_62 : decode cX8_bars 62 = .ok (.getfield 32, 3) := by decide +kernel
theorem dX8_bars_65 : decode cX8_bars 65 = .ok (.iload 4, 2) := by decide +kernel
theorem dX8_bars_67 : decode cX8_bars 67 = .ok (.iaload, 1) := by decide +kernel
theorem dX8_bars_68 : decode cX8_bars 68 = .ok (.aload_n 0, 1) := by decide +kernel
theorem dX8_bars_69 : decode cX8_bars 69 = .ok (.iload_n 2, 1) := by decide +kernel
theorem dX8_bars_70 : decode cX8_bars 70 = .ok (.iload 4, 2) := by decide +kernel
theorem dX8_bars_72 : decode cX8_bars 72 = .ok (.invokevirtual 189, 3) := by decide +kernel
theorem dX8_bars_75 : decode cX8_bars 75 = .ok (.imul, 1) := by decide +kernel
theorem dX8_bars_76 : decode cX8_bars 76 = .ok (.iadd, 1) := by decide +kernel
theorem dX8_bars_77 : decode cX8_bars 77 = .ok (.istore_n 3, 1) := by decide +kernel
theorem dX8_bars_78 : decode cX8_bars 78 = .ok (.iinc 4 1, 3) := by decide +kernel
theorem dX8_bars_81 : decode cX8_bars 81 = .ok (.goto (-27), 3) := by decide +kernel
theorem dX8_bars_84 : decode cX8_bars 84 = .ok (.iload_n 1, 1) := by decide +kernel
theorem dX8_bars_85 : decode cX8_bars 85 = .ok (.ifCond .eq 20, 3) := by decide +kernel
theorem dX8_bars_88 : decode cX8_bars 88 = .ok (.aload_n 0, 1) := by decide +kernel
theorem dX8_bars_89 : decode cX8_bars 89 = .ok (.getfield 25, 3) := by decide +kernel
theorem dX8_bars_92 : decode cX8_bars 92 = .ok (.iload_n 2, 1) := by decide +kernel
theorem dX8_bars_93 : decode cX8_bars 93 = .ok (.baload, 1) := by decide +kernel
theorem dX8_bars_94 : decode cX8_bars 94 = .ok (.ifCond .ne 7, 3) := by decide +kernel
theorem dX8_bars_97 : decode cX8_bars 97 = .ok (.iload_n 3, 1) := by decide +kernel
theorem dX8_bars_98 : decode cX8_bars 98 = .ok (.ifCond .gt 7, 3) := by decide +kernel
theorem dX8_bars_101 : decode cX8_bars 101 = .ok (.iconst 1, 1) := by decide +kernel
theorem dX8_bars_102 : decode cX8_bars 102 = .ok (.goto 4, 3) := by decide +kernel
theorem dX8_bars_105 : decode cX8_bars 105 = .ok (.iconst 0, 1) := by decide +kernel
theorem dX8_bars_106 : decode cX8_bars 106 = .ok (.istore_n 1, 1) := by decide +kernel
theorem dX8_bars_107 : decode cX8_bars 107 = .ok (.iinc 2 1, 3) := by decide +kernel
theorem dX8_bars_110 : decode cX8_bars 110 = .ok (.goto (-69), 3) := by decide +kernel
theorem dX8_bars_113 : decode cX8_bars 113 = .ok (.iload_n 1, 1) := by decide +kernel
theorem dX8_bars_114 : decode cX8_bars 114 = .ok (.ireturn, 1) := by decide +kernel
theorem dX8_count_0 : decode cX8_count 0 = .ok (.aload_n 0, 1) := by decide +kernel
theorem dX8_count_1 : decode cX8_count 1 = .ok (.iconst 0, 1) := by decide +kernel
theorem dX8_count_2 : decode cX8_count 2 = .ok (.putfield 87, 3) := by decide +kernel
theorem dX8_count_5 : decode cX8_count 5 = .ok (.iconst 0, 1) := by decide +kernel
theorem dX8_count_6 : decode cX8_count 6 = .ok (.istore_n 2, 1) := by decide +kernel
theorem dX8_count_7 : decode cX8_count 7 = .ok (.iload_n 1, 1) := by decide +kernel
theorem dX8_count_8 : decode cX8_count 8 = .ok (.tableswitch 185 0 8 #[52, 57, 62, 67, 72, 106, 140, 145, 180], 52) := by decide +kernel
theorem dX8_count_60 : decode cX8_count 60 = .ok (.aload_n 0, 1) := by decide +kernel
theorem dX8_count_61 : decode cX8_count 61 = .ok (.getfield 133, 3) := by decide +kernel
theorem dX8_count_64 : decode cX8_count 64 = .ok (.ireturn, 1) := by decide +kernel
theorem dX8_count_65 : decode cX8_count 65 = .ok (.aload_n 0, 1) := by decide +kernel
theorem dX8_count_66 : decode cX8_count 66 = .ok (.getfield 91, 3) := by decide +kernel
theorem dX8_count_69 : decode cX8_count 69 = .ok (.ireturn, 1) := by decide +kernel
theorem dX8_count_70 : decode cX8_count 70 = .ok (.aload_n 0, 1) := by decide +kernel
theorem dX8_count_71 : decode cX8_count 71 = .ok (.getfield 98, 3) := by decide +kernel
theorem dX8_count_74 : decode cX8_count 74 = .ok (.ireturn, 1) := by decide +kernel
theorem dX8_count_75 : decode cX8_count 75 = .ok (.aload_n 0, 1) := by decide +kernel
theorem dX8_count_76 : decode cX8_count 76 = .ok (.getfield 101, 3) := by decide +kernel
theorem dX8_count_79 : decode cX8_count 79 = .ok (.ireturn, 1) := by decide +kernel
theorem dX8_count_80 : decode cX8_count 80 = .ok (.iconst 0, 1) := by decide +kernel
theorem dX8_count_81 : decode cX8_count 81 = .ok (.istore_n 3, 1) := by decide +kernel
theorem dX8_count_82 : decode cX8_count 82 = .ok (.iload_n 3, 1) := by decide +kernel
theorem dX8_count_83 : decode cX8_count 83 = .ok (.aload_n 0, 1) := by decide +kernel
theorem dX8_count_84 : decode cX8_count 84 = .ok (.getfield 101, 3) := by decide +kernel
theorem dX8_count_87 : decode cX8_count 87 = .ok (.if_icmp .ge 25, 3) := by decide +kernel
theorem dX8_count_90 : decode cX8_count 90 = .ok (.iload_n 2, 1) := by decide +kernel
theorem dX8_count_91 : decode cX8_count 91 = .ok (.aload_n 0, 1) := by decide +kernel
theorem dX8_count_92 : decode cX8_count 92 = .ok (.iload_n 3, 1) := by decide +kernel
theorem dX8_count_93 : decode cX8_count 93 = .ok (.invokevirtual 145, 3) := by decide +kernel
theorem dX8_count_96 : decode cX8_count 96 = .ok (.ifCond .eq 7, 3) := by decide +kernel
theorem dX8_count_99 : decode cX8_count 99 = .ok (.iconst 1, 1) := by decide +kernel
theorem dX8_count_100 : decode cX8_count 100 = .ok (.goto 4, 3) := by decide +kernel
theorem dX8_count_103 : decode cX8_count 103 = .ok (.iconst 0, 1) := by decide +kernel
theorem dX8_count_104 : decode cX8_count 104 = .ok (.iadd, 1) := by decide +kernel
theorem dX8_count_105 : decode cX8_count 105 = .ok (.istore_n 2, 1) := by decide +kernel
theorem dX8_count_106 : decode cX8_count 106 = .ok (.iinc 3 1, 3) := by decide +kernel
theorem dX8_count_109 : decode cX8_count 109 = .ok (.goto (-27), 3) := by decide +kernel
theorem dX8_count_112 : decode cX8_count 112 = .ok (.iload_n 2, 1) := by decide +kernel
theorem dX8_count_113 : decode cX8_count 113 = .ok (.ireturn, 1) := by decide +kernel
theorem dX8_count_114 : decode cX8_count 114 = .ok (.iconst 0, 1) := by decide +kernel
theorem dX8_count_115 : decode cX8_count 115 = .ok (.istore_n 3, 1) := by decide +kernel
theorem dX8_count_116 : decode cX8_count 116 = .ok (.iload_n 3, 1) := by decide +kernel
theorem dX8_count_117 : decode cX8_count 117 = .ok (.aload_n 0, 1) := by decide +kernel
theorem dX8_count_118 : decode cX8_count 118 = .ok (.getfield 101, 3) := by decide +kernel
theorem dX8_count_121 : decode cX8_count 121 = .ok (.if_icmp .ge 25, 3) := by decide +kernel
theorem dX8_count_124 : decode cX8_count 124 = .ok (.iload_n 2, 1) := by decide +kernel
theorem dX8_count_125 : decode cX8_count 125 = .ok (.aload_n 0, 1) := by decide +kernel
theorem dX8_count_126 : decode cX8_count 126 = .ok (.iload_n 3, 1) := by decide +kernel
theorem dX8_count_127 : decode cX8_count 127 = .ok (.invokevirtual 156, 3) := by decide +kernel
theorem dX8_count_130 : decode cX8_count 130 = .ok (.ifCond .eq 7, 3) := by decide +kernel
theorem dX8_count_133 : decode cX8_count 133 = .ok (.iconst 1, 1) := by decide +kernel
theorem dX8_count_134 : decode cX8_count 134 = .ok (.goto 4, 3) := by decide +kernel
theorem dX8_count_137 : decode cX8_count 137 = .ok (.iconst 0, 1) := by decide +kernel
theorem dX8_count_138 : decode cX8_count 138 = .ok (.iadd, 1) := by decide +kernel
theorem dX8_count_139 : decode cX8_count 139 = .ok (.istore_n 2, 1) := by decide +kernel
theorem dX8_count_140 : decode cX8_count 140 = .ok (.iinc 3 1, 3) := by decide +kernel
theorem dX8_count_143 : decode cX8_count 143 = .ok (.goto (-27), 3) := by decide +kernel
theorem dX8_count_146 : decode cX8_count 146 = .ok (.iload_n 2, 1) := by decide +kernel
theorem dX8_count_147 : decode cX8_count 147 = .ok (.ireturn, 1) := by decide +kernel
theorem dX8_count_148 : decode cX8_count 148 = .ok (.aload_n 0, 1) := by decide +kernel
theorem dX8_count_149 : decode cX8_count 149 = .ok (.getfield 175, 3) := by decide +kernel
theorem dX8_count_152 : decode cX8_count 152 = .ok (.ireturn, 1) := by decide +kernel
theorem dX8_count_153 : decode cX8_count 153 = .ok (.iconst 0, 1) := by decide +kernel
theorem dX8_count_154 : decode cX8_count 154 = .ok (.istore_n 3, 1) := by decide +kernel
theorem dX8_count_155 : decode cX8_count 155 = .ok (.iload_n 3, 1) := by decide +kernel
theorem dX8_count_156 : decode cX8_count 156 = .ok (.aload_n 0, 1) := by decide +kernel
theorem dX8_count_157 : decode cX8_count 157 = .ok (.getfield 175, 3) := by decide +kernel
theorem dX8_count_160 : decode cX8_count 160 = .ok (.if_icmp .ge 26, 3) := by decide +kernel
theorem dX8_count_163 : decode cX8_count 163 = .ok (.iload_n 2, 1) := by decide +kernel
theorem dX8_count_164 : decode cX8_count 164 = .ok (.aload_n 0, 1) := by decide +kernel
theorem dX8_count_165 : decode cX8_count 165 = .ok (.getfield 75, 3) := by decide +kernel
theorem dX8_count_168 : decode cX8_count 168 = .ok (.iload_n 3, 1) := by decide +kernel
theorem dX8_count_169 : decode cX8_count 169 = .ok (.baload, 1) := by decide +kernel
theorem dX8_count_170 : decode cX8_count 170 = .ok (.ifCond .eq 7, 3) := by decide +kernel
theorem dX8_count_173 : decode cX8_count 173 = .ok (.iconst 1, 1) := by decide +kernel
theorem dX8_count_174 : decode cX8_count 174 = .ok (.goto 4, 3) := by decide +kernel
theorem dX8_count_177 : decode cX8_count 177 = .ok (.iconst 0, 1) := by decide +kernel
theorem dX8_count_178 : decode cX8_count 178 = .ok (.iadd, 1) := by decide +kernel
theorem dX8_count_179 : decode cX8_count 179 = .ok (.istore_n 2, 1) := by decide +kernel
theorem dX8_count_180 : decode cX8_count 180 = .ok (.iinc 3 1, 3) := by decide +kernel
theorem dX8_count_183 : decode cX8_count 183 = .ok (.goto (-28), 3) := by decide +kernel
theorem dX8_count_186 : decode cX8_count 186 = .ok (.iload_n 2, 1) := by decide +kernel
theorem dX8_count_187 : decode cX8_count 187 = .ok (.ireturn, 1) := by decide +kernel
theorem dX8_count_188 : decode cX8_count 188 = .ok (.aload_n 0, 1) := by decide +kernel
theorem dX8_count_189 : decode cX8_count 189 = .ok (.getfield 121, 3) := by decide +kernel
theorem dX8_count_192 : decode cX8_count 192 = .ok (.ireturn, 1) := by decide +kernel
theorem dX8_count_193 : decode cX8_count 193 = .ok (.iconst (-1), 1) := by decide +kernel
theorem dX8_count_194 : decode cX8_count 194 = .ok (.ireturn, 1) := by decide +kernel
theorem dJ9_max_7cf53_0 : decode cJ9_max_7cf53 0 = .ok (.iload_n 0, 1) := by decide +kernel
theorem dJ9_max_7cf53_1 : decode cJ9_max_7cf53 1 = .ok (.iload_n 1, 1) := by decide +kernel
theorem dJ9_max_7cf53_2 : decode cJ9_max_7cf53 2 = .ok (.if_icmp .lt 7, 3) := by decide +kernel
theorem dJ9_max_7cf53_5 : decode cJ9_max_7cf53 5 = .ok (.iload_n 0, 1) := by decide +kernel
theorem dJ9_max_7cf53_6 : decode cJ9_max_7cf53 6 = .ok (.goto 4, 3) := by decide +kernel
theorem dJ9_max_7cf53_9 : decode cJ9_max_7cf53 9 = .ok (.iload_n 1, 1) := by decide +kernel
theorem dJ9_max_7cf53_10 : decode cJ9_max_7cf53 10 = .ok (.ireturn, 1) := by decide +kernel
theorem dJ9_min_7cf53_0 : decode cJ9_min_7cf53 0 = .ok (.iload_n 0, 1) := by decide +kernel
theorem dJ9_min_7cf53_1 : decode cJ9_min_7cf53 1 = .ok (.iload_n 1, 1) := by decide +kernel
theorem dJ9_min_7cf53_2 : decode cJ9_min_7cf53 2 = .ok (.if_icmp .gt 7, 3) := by decide +kernel
theorem dJ9_min_7cf53_5 : decode cJ9_min_7cf53 5 = .ok (.iload_n 0, 1) := by decide +kernel
theorem dJ9_min_7cf53_6 : decode cJ9_min_7cf53 6 = .ok (.goto 4, 3) := by decide +kernel
theorem dJ9_min_7cf53_9 : decode cJ9_min_7cf53 9 = .ok (.iload_n 1, 1) := by decide +kernel
theorem dJ9_min_7cf53_10 : decode cJ9_min_7cf53 10 = .ok (.ireturn, 1) := by decide +kernel
theorem dJxa1e45_init_da8c8_0 : decode cJxa1e45_init_da8c8 0 = .ok (.aload_n 0, 1) := by decide +kernel
theorem dJxa1e45_init_da8c8_1 : decode cJxa1e45_init_da8c8 1 = .ok (.invokespecial 1, 3) := by decide +kernel
theorem dJxa1e45_init_da8c8_4 : decode cJxa1e45_init_da8c8 4 = .ok (.return_, 1) := by decide +kernel
theorem dJxc12de_init_da8c8_0 : decode cJxc12de_init_da8c8 0 = .ok (.aload_n 0, 1) := by decide +kernel
theorem dJxc12de_init_da8c8_1 : decode cJxc12de_init_da8c8 1 = .ok (.invokespecial 1, 3) := by decide +kernel
theorem dJxc12de_init_da8c8_4 : decode cJxc12de_init_da8c8 4 = .ok (.aload_n 0, 1) := by decide +kernel
theorem dJxc12de_init_da8c8_5 : decode cJxc12de_init_da8c8 5 = .ok (.iconst 0, 1) := by decide +kernel
theorem dJxc12de_init_da8c8_6 : decode cJxc12de_init_da8c8 6 = .ok (.putfield 7, 3) := by decide +kernel
theorem dJxc12de_init_da8c8_9 : decode cJxc12de_init_da8c8 9 = .ok (.return_, 1) := by decide +kernel
theorem dJx4a65c_init_da8c8_0 : decode cJx4a65c_init_da8c8 0 = .ok (.aload_n 0, 1) := by decide +kernel
theorem dJx4a65c_init_da8c8_1 : decode cJx4a65c_init_da8c8 1 = .ok (.invokespecial 1, 3) := by decide +kernel
theorem dJx4a65c_init_da8c8_4 : decode cJx4a65c_init_da8c8 4 = .ok (.aload_n 0, 1) := by decide +kernel
theorem dJx4a65c_init_da8c8_5 : decode cJx4a65c_init_da8c8 5 = .ok (.getstatic 39, 3) := by decide +kernel
theorem dJx4a65c_init_da8c8_8 : decode cJx4a65c_init_da8c8 8 = .ok (.putfield 9, 3) := by decide +kernel
theorem dJx4a65c_init_da8c8_11 : decode cJx4a65c_init_da8c8 11 = .ok (.return_, 1) := by decide +kernel
theorem dJx4a65c_grow_92f84_0 : decode cJx4a65c_grow_92f84 0 = .ok (.aload_n 0, 1) := by decide +kernel
theorem dJx4a65c_grow_92f84_1 : decode cJx4a65c_grow_92f84 1 = .ok (.getfield 9, 3) := by decide +kernel
theorem dJx4a65c_grow_92f84_4 : decode cJx4a65c_grow_92f84 4 = .ok (.arraylength, 1) := by decide +kernel
theorem dJx4a65c_grow_92f84_5 : decode cJx4a65c_grow_92f84 5 = .ok (.istore_n 2, 1) := by decide +kernel
theorem dJx4a65c_grow_92f84_6 : decode cJx4a65c_grow_92f84 6 = .ok (.iload_n 2, 1) := by decide +kernel
theorem dJx4a65c_grow_92f84_7 : decode cJx4a65c_grow_92f84 7 = .ok (.ifCond .gt 13, 3) := by decide +kernel
theorem dJx4a65c_grow_92f84_10 : decode cJx4a65c_grow_92f84 10 = .ok (.aload_n 0, 1) := by decide +kernel
theorem dJx4a65c_grow_92f84_11 : decode cJx4a65c_grow_92f84 11 = .ok (.getfield 9, 3) := by decide +kernel
theorem dJx4a65c_grow_92f84_14 : decode cJx4a65c_grow_92f84 14 = .ok (.getstatic 39, 3) := by decide +kernel
theorem dJx4a65c_grow_92f84_17 : decode cJx4a65c_grow_92f84 17 = .ok (.if_acmp .eq 28, 3) := by decide +kernel
theorem dJx4a65c_grow_92f84_20 : decode cJx4a65c_grow_92f84 20 = .ok (.iload_n 2, 1) := by decide +kernel
theorem dJx4a65c_grow_92f84_21 : decode cJx4a65c_grow_92f84 21 = .ok (.iload_n 1, 1) := by decide +kernel
theorem dJx4a65c_grow_92f84_22 : decode cJx4a65c_grow_92f84 22 = .ok (.iload_n 2, 1) := by decide +kernel
theorem dJx4a65c_grow_92f84_23 : decode cJx4a65c_grow_92f84 23 = .ok (.isub, 1) := by decide +kernel
theorem dJx4a65c_grow_92f84_24 : decode cJx4a65c_grow_92f84 24 = .ok (.iload_n 2, 1) := by decide +kernel
theorem dJx4a65c_grow_92f84_25 : decode cJx4a65c_grow_92f84 25 = .ok (.iconst 1, 1) := by decide +kernel
theorem dJx4a65c_grow_92f84_26 : decode cJx4a65c_grow_92f84 26 = .ok (.ishr, 1) := by decide +kernel
theorem dJx4a65c_grow_92f84_27 : decode cJx4a65c_grow_92f84 27 = .ok (.invokestatic 73, 3) := by decide +kernel
theorem dJx4a65c_grow_92f84_30 : decode cJx4a65c_grow_92f84 30 = .ok (.istore_n 3, 1) := by decide +kernel
theorem dJx4a65c_grow_92f84_31 : decode cJx4a65c_grow_92f84 31 = .ok (.aload_n 0, 1) := by decide +kernel
theorem dJx4a65c_grow_92f84_32 : decode cJx4a65c_grow_92f84 32 = .ok (.aload_n 0, 1) := by decide +kernel
theorem dJx4a65c_grow_92f84_33 : decode cJx4a65c_grow_92f84 33 = .ok (.getfield 9, 3) := by decide +kernel
theorem dJx4a65c_grow_92f84_36 : decode cJx4a65c_grow_92f84 36 = .ok (.iload_n 3, 1) := by decide +kernel
theorem dJx4a65c_grow_92f84_37 : decode cJx4a65c_grow_92f84 37 = .ok (.invokestatic 66, 3) := by decide +kernel
theorem dJx4a65c_grow_92f84_40 : decode cJx4a65c_grow_92f84 40 = .ok (.dup_x1, 1) := by decide +kernel
theorem dJx4a65c_grow_92f84_41 : decode cJx4a65c_grow_92f84 41 = .ok (.putfield 9, 3) := by decide +kernel
theorem dJx4a65c_grow_92f84_44 : decode cJx4a65c_grow_92f84 44 = .ok (.areturn, 1) := by decide +kernel
theorem dJx4a65c_grow_92f84_45 : decode cJx4a65c_grow_92f84 45 = .ok (.aload_n 0, 1) := by decide +kernel
theorem dJx4a65c_grow_92f84_46 : decode cJx4a65c_grow_92f84 46 = .ok (.bipush 10, 2) := by decide +kernel
theorem dJx4a65c_grow_92f84_48 : decode cJx4a65c_grow_92f84 48 = .ok (.iload_n 1, 1) := by decide +kernel
theorem dJx4a65c_grow_92f84_49 : decode cJx4a65c_grow_92f84 49 = .ok (.invokestatic 79, 3) := by decide +kernel
theorem dJx4a65c_grow_92f84_52 : decode cJx4a65c_grow_92f84 52 = .ok (.anewarray 7, 3) := by decide +kernel
theorem dJx4a65c_grow_92f84_55 : decode cJx4a65c_grow_92f84 55 = .ok (.dup_x1, 1) := by decide +kernel
theorem dJx4a65c_grow_92f84_56 : decode cJx4a65c_grow_92f84 56 = .ok (.putfield 9, 3) := by decide +kernel
theorem dJx4a65c_grow_92f84_59 : decode cJx4a65c_grow_92f84 59 = .ok (.areturn, 1) := by decide +kernel
theorem dJx4a65c_grow_d5877_0 : decode cJx4a65c_grow_d5877 0 = .ok (.aload_n 0, 1) := by decide +kernel
theorem dJx4a65c_grow_d5877_1 : decode cJx4a65c_grow_d5877 1 = .ok (.aload_n 0, 1) := by decide +kernel
theorem dJx4a65c_grow_d5877_2 : decode cJx4a65c_grow_d5877 2 = .ok (.getfield 48, 3) := by decide +kernel
theorem dJx4a65c_grow_d5877_5 : decode cJx4a65c_grow_d5877 5 = .ok (.iconst 1, 1) := by decide +kernel
theorem dJx4a65c_grow_d5877_6 : decode cJx4a65c_grow_d5877 6 = .ok (.iadd, 1) := by decide +kernel
theorem dJx4a65c_grow_d5877_7 : decode cJx4a65c_grow_d5877 7 = .ok (.invokevirtual 69, 3) := by decide +kernel
theorem dJx4a65c_grow_d5877_10 : decode cJx4a65c_grow_d5877 10 = .ok (.areturn, 1) := by decide +kernel
theorem dJx4a65c_size_8abf5_0 : decode cJx4a65c_size_8abf5 0 = .ok (.aload_n 0, 1) := by decide +kernel
theorem dJx4a65c_size_8abf5_1 : decode cJx4a65c_size_8abf5 1 = .ok (.getfield 48, 3) := by decide +kernel
theorem dJx4a65c_size_8abf5_4 : decode cJx4a65c_size_8abf5 4 = .ok (.ireturn, 1) := by decide +kernel
theorem dJx4a65c_elementData_915e3_0 : decode cJx4a65c_elementData_915e3 0 = .ok (.aload_n 0, 1) := by decide +kernel
theorem dJx4a65c_elementData_915e3_1 : decode cJx4a65c_elementData_915e3 1 = .ok (.getfield 9, 3) := by decide +kernel
theorem dJx4a65c_elementData_915e3_4 : decode cJx4a65c_elementData_915e3 4 = .ok (.iload_n 1, 1) := by decide +kernel
theorem dJx4a65c_elementData_915e3_5 : decode cJx4a65c_elementData_915e3 5 = .ok (.aaload, 1) := by decide +kernel
theorem dJx4a65c_elementData_915e3_6 : decode cJx4a65c_elementData_915e3 6 = .ok (.areturn, 1) := by decide +kernel
theorem dJx4a65c_get_915e3_0 : decode cJx4a65c_get_915e3 0 = .ok (.iload_n 1, 1) := by decide +kernel
theorem dJx4a65c_get_915e3_1 : decode cJx4a65c_get_915e3 1 = .ok (.aload_n 0, 1) := by decide +kernel
theorem dJx4a65c_get_915e3_2 : decode cJx4a65c_get_915e3 2 = .ok (.getfield 48, 3) := by decide +kernel
theorem dJx4a65c_get_915e3_5 : decode cJx4a65c_get_915e3 5 = .ok (.invokestatic 118, 3) := by decide +kernel
theorem dJx4a65c_get_915e3_8 : decode cJx4a65c_get_915e3 8 = .ok (.pop, 1) := by decide +kernel
theorem dJx4a65c_get_915e3_9 : decode cJx4a65c_get_915e3 9 = .ok (.aload_n 0, 1) := by decide +kernel
theorem dJx4a65c_get_915e3_10 : decode cJx4a65c_get_915e3 10 = .ok (.iload_n 1, 1) := by decide +kernel
theorem dJx4a65c_get_915e3_11 : decode cJx4a65c_get_915e3 11 = .ok (.invokevirtual 123, 3) := by decide +kernel
theorem dJx4a65c_get_915e3_14 : decode cJx4a65c_get_915e3 14 = .ok (.areturn, 1) := by decide +kernel
theorem dJx4a65c_add_72be8_0 : decode cJx4a65c_add_72be8 0 = .ok (.iload_n 3, 1) := by decide +kernel
theorem dJx4a65c_add_72be8_1 : decode cJx4a65c_add_72be8 1 = .ok (.aload_n 2, 1) := by decide +kernel
theorem dJx4a65c_add_72be8_2 : decode cJx4a65c_add_72be8 2 = .ok (.arraylength, 1) := by decide +kernel
theorem dJx4a65c_add_72be8_3 : decode cJx4a65c_add_72be8 3 = .ok (.if_icmp .ne 8, 3) := by decide +kernel
theorem dJx4a65c_add_72be8_6 : decode cJx4a65c_add_72be8 6 = .ok (.aload_n 0, 1) := by decide +kernel
theorem dJx4a65c_add_72be8_7 : decode cJx4a65c_add_72be8 7 = .ok (.invokevirtual 129, 3) := by decide +kernel
theorem dJx4a65c_add_72be8_10 : decode cJx4a65c_add_72be8 10 = .ok (.astore_n 2, 1) := by decide +kernel
theorem dJx4a65c_add_72be8_11 : decode cJx4a65c_add_72be8 11 = .ok (.aload_n 2, 1) := by decide +kernel
theorem dJx4a65c_add_72be8_12 : decode cJx4a65c_add_72be8 12 = .ok (.iload_n 3, 1) := by decide +kernel
theorem dJx4a65c_add_72be8_13 : decode cJx4a65c_add_72be8 13 = .ok (.aload_n 1, 1) := by decide +kernel
theorem dJx4a65c_add_72be8_14 : decode cJx4a65c_add_72be8 14 = .ok (.aastore, 1) := by decide +kernel
theorem dJx4a65c_add_72be8_15 : decode cJx4a65c_add_72be8 15 = .ok (.aload_n 0, 1) := by decide +kernel
theorem dJx4a65c_add_72be8_16 : decode cJx4a65c_add_72be8 16 = .ok (.iload_n 3, 1) := by decide +kernel
theorem dJx4a65c_add_72be8_17 : decode cJx4a65c_add_72be8 17 = .ok (.iconst 1, 1) := by decide +kernel
theorem dJx4a65c_add_72be8_18 : decode cJx4a65c_add_72be8 18 = .ok (.iadd, 1) := by decide +kernel
theorem dJx4a65c_add_72be8_19 : decode cJx4a65c_add_72be8 19 = .ok (.putfield 48, 3) := by decide +kernel
theorem dJx4a65c_add_72be8_22 : decode cJx4a65c_add_72be8 22 = .ok (.return_, 1) := by decide +kernel
theorem dJx4a65c_add_9ea2d_0 : decode cJx4a65c_add_9ea2d 0 = .ok (.aload_n 0, 1) := by decide +kernel
theorem dJx4a65c_add_9ea2d_1 : decode cJx4a65c_add_9ea2d 1 = .ok (.dup, 1) := by decide +kernel
theorem dJx4a65c_add_9ea2d_2 : decode cJx4a65c_add_9ea2d 2 = .ok (.getfield 63, 3) := by decide +kernel
theorem dJx4a65c_add_9ea2d_5 : decode cJx4a65c_add_9ea2d 5 = .ok (.iconst 1, 1) := by decide +kernel
theorem dJx4a65c_add_9ea2d_6 : decode cJx4a65c_add_9ea2d 6 = .ok (.iadd, 1) := by decide +kernel
theorem dJx4a65c_add_9ea2d_7 : decode cJx4a65c_add_9ea2d 7 = .ok (.putfield 63, 3) := by decide +kernel
theorem dJx4a65c_add_9ea2d_10 : decode cJx4a65c_add_9ea2d 10 = .ok (.aload_n 0, 1) := by decide +kernel
theorem dJx4a65c_add_9ea2d_11 : decode cJx4a65c_add_9ea2d 11 = .ok (.aload_n 1, 1) := by decide +kernel
theorem dJx4a65c_add_9ea2d_12 : decode cJx4a65c_add_9ea2d 12 = .ok (.aload_n 0, 1) := by decide +kernel
theorem dJx4a65c_add_9ea2d_13 : decode cJx4a65c_add_9ea2d 13 = .ok (.getfield 9, 3) := by decide +kernel
theorem dJx4a65c_add_9ea2d_16 : decode cJx4a65c_add_9ea2d 16 = .ok (.aload_n 0, 1) := by decide +kernel
theorem dJx4a65c_add_9ea2d_17 : decode cJx4a65c_add_9ea2d 17 = .ok (.getfield 48, 3) := by decide +kernel
theorem dJx4a65c_add_9ea2d_20 : decode cJx4a65c_add_9ea2d 20 = .ok (.invokevirtual 131, 3) := by decide +kernel
theorem dJx4a65c_add_9ea2d_23 : decode cJx4a65c_add_9ea2d 23 = .ok (.iconst 1, 1) := by decide +kernel
theorem dJx4a65c_add_9ea2d_24 : decode cJx4a65c_add_9ea2d 24 = .ok (.ireturn, 1) := by decide +kernel
theorem dJ7_copyOf_1904c_0 : decode cJ7_copyOf_1904c 0 = .ok (.aload_n 0, 1) := by decide +kernel
theorem dJ7_copyOf_1904c_1 : decode cJ7_copyOf_1904c 1 = .ok (.iload_n 1, 1) := by decide +kernel
theorem dJ7_copyOf_1904c_2 : decode cJ7_copyOf_1904c 2 = .ok (.aload_n 0, 1) := by decide +kernel
theorem dJ7_copyOf_1904c_3 : decode cJ7_copyOf_1904c 3 = .ok (.invokevirtual 86, 3) := by decide +kernel
theorem dJ7_copyOf_1904c_6 : decode cJ7_copyOf_1904c 6 = .ok (.invokestatic 300, 3) := by decide +kernel
theorem dJ7_copyOf_1904c_9 : decode cJ7_copyOf_1904c 9 = .ok (.areturn, 1) := by decide +kernel
theorem dJ7_copyOf_6403c_0 : decode cJ7_copyOf_6403c 0 = .ok (.aload_n 2, 1) := by decide +kernel
theorem dJ7_copyOf_6403c_1 : decode cJ7_copyOf_6403c 1 = .ok (.ldc 110, 2) := by decide +kernel
theorem dJ7_copyOf_6403c_3 : decode cJ7_copyOf_6403c 3 = .ok (.if_acmp .ne 10, 3) := by decide +kernel
theorem dJ7_copyOf_6403c_6 : decode cJ7_copyOf_6403c 6 = .ok (.iload_n 1, 1) := by decide +kernel
theorem dJ7_copyOf_6403c_7 : decode cJ7_copyOf_6403c 7 = .ok (.anewarray 2, 3) := by decide +kernel
theorem dJ7_copyOf_6403c_10 : decode cJ7_copyOf_6403c 10 = .ok (.goto 14, 3) := by decide +kernel
theorem dJ7_copyOf_6403c_13 : decode cJ7_copyOf_6403c 13 = .ok (.aload_n 2, 1) := by decide +kernel
theorem dJ7_copyOf_6403c_14 : decode cJ7_copyOf_6403c 14 = .ok (.invokevirtual 90, 3) := by decide +kernel
theorem dJ7_copyOf_6403c_17 : decode cJ7_copyOf_6403c 17 = .ok (.iload_n 1, 1) := by decide +kernel
theorem dJ7_copyOf_6403c_18 : decode cJ7_copyOf_6403c 18 = .ok (.invokestatic 95, 3) := by decide +kernel
theorem dJ7_copyOf_6403c_21 : decode cJ7_copyOf_6403c 21 = .ok (.checkcast 110, 3) := by decide +kernel
theorem dJ7_copyOf_6403c_24 : decode cJ7_copyOf_6403c 24 = .ok (.astore_n 3, 1) := by decide +kernel
theorem dJ7_copyOf_6403c_25 : decode cJ7_copyOf_6403c 25 = .ok (.aload_n 0, 1) := by decide +kernel
theorem dJ7_copyOf_6403c_26 : decode cJ7_copyOf_6403c 26 = .ok (.iconst 0, 1) := by decide +kernel
theorem dJ7_copyOf_6403c_27 : decode cJ7_copyOf_6403c 27 = .ok (.aload_n 3, 1) := by decide +kernel
theorem dJ7_copyOf_6403c_28 : decode cJ7_copyOf_6403c 28 = .ok (.iconst 0, 1) := by decide +kernel
theorem dJ7_copyOf_6403c_29 : decode cJ7_copyOf_6403c 29 = .ok (.aload_n 0, 1) := by decide +kernel
theorem dJ7_copyOf_6403c_30 : decode cJ7_copyOf_6403c 30 = .ok (.arraylength, 1) := by decide +kernel
