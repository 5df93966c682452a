theorem dX0_init_0 : decode cX0_init 0 = .ok (.aload_n 0, 1) := by decide +kernel
theorem dX0_init_1 : decode cX0_init 1 = .ok (.invokespecial 3, 3) := by decide +kernel
theorem dX0_init_4 : decode cX0_init 4 = .ok (.aload_n 0, 1) := by decide +kernel
theorem dX0_init_5 : decode cX0_init 5 = .ok (.bipush 20, 2) := by decide +kernel
theorem dX0_init_7 : decode cX0_init 7 = .ok (.newarray .int, 2) := by decide +kernel
theorem dX0_init_9 : decode cX0_init 9 = .ok (.putfield 11, 3) := by decide +kernel
theorem dX0_init_12 : decode cX0_init 12 = .ok (.return_, 1) := by decide +kernel
theorem dX0_forget_0 : decode cX0_forget 0 = .ok (.aload_n 0, 1) := by decide +kernel
theorem dX0_forget_1 : decode cX0_forget 1 = .ok (.iconst 0, 1) := by decide +kernel
theorem dX0_forget_2 : decode cX0_forget 2 = .ok (.putfield 15, 3) := by decide +kernel
theorem dX0_forget_5 : decode cX0_forget 5 = .ok (.return_, 1) := by decide +kernel
theorem dX0_kept_0 : decode cX0_kept 0 = .ok (.aload_n 0, 1) := by decide +kernel
theorem dX0_kept_1 : decode cX0_kept 1 = .ok (.getfield 15, 3) := by decide +kernel
theorem dX0_kept_4 : decode cX0_kept 4 = .ok (.bipush 20, 2) := by decide +kernel
theorem dX0_kept_6 : decode cX0_kept 6 = .ok (.invokestatic 19, 3) := by decide +kernel
theorem dX0_kept_9 : decode cX0_kept 9 = .ok (.ireturn, 1) := by decide +kernel
theorem dX0_run_0 : decode cX0_run 0 = .ok (.aload_n 0, 1) := by decide +kernel
theorem dX0_run_1 : decode cX0_run 1 = .ok (.aload_n 1, 1) := by decide +kernel
theorem dX0_run_2 : decode cX0_run 2 = .ok (.putfield 25, 3) := by decide +kernel
theorem dX0_run_5 : decode cX0_run 5 = .ok (.aload_n 0, 1) := by decide +kernel
theorem dX0_run_6 : decode cX0_run 6 = .ok (.aload_n 1, 1) := by decide +kernel
theorem dX0_run_7 : decode cX0_run 7 = .ok (.getfield 29, 3) := by decide +kernel
theorem dX0_run_10 : decode cX0_run 10 = .ok (.iload_n 2, 1) := by decide +kernel
theorem dX0_run_11 : decode cX0_run 11 = .ok (.iload_n 3, 1) := by decide +kernel
theorem dX0_run_12 : decode cX0_run 12 = .ok (.iconst 0, 1) := by decide +kernel
theorem dX0_run_13 : decode cX0_run 13 = .ok (.invokevirtual 34, 3) := by decide +kernel
theorem dX0_run_16 : decode cX0_run 16 = .ok (.ireturn, 1) := by decide +kernel
theorem dX0_runFrom_0 : decode cX0_runFrom 0 = .ok (.iload 4, 2) := by decide +kernel
theorem dX0_runFrom_2 : decode cX0_runFrom 2 = .ok (.bipush 30, 2) := by decide +kernel
theorem dX0_runFrom_4 : decode cX0_runFrom 4 = .ok (.if_icmp .le 5, 3) := by decide +kernel
theorem dX0_runFrom_7 : decode cX0_runFrom 7 = .ok (.iconst 0, 1) := by decide +kernel
theorem dX0_runFrom_8 : decode cX0_runFrom 8 = .ok (.ireturn, 1) := by decide +kernel
theorem dX0_runFrom_9 : decode cX0_runFrom 9 = .ok (.iload_n 1, 1) := by decide +kernel
theorem dX0_runFrom_10 : decode cX0_runFrom 10 = .ok (.iload_n 2, 1) := by decide +kernel
theorem dX0_runFrom_11 : decode cX0_runFrom 11 = .ok (.invokestatic 38, 3) := by decide +kernel
theorem dX0_runFrom_14 : decode cX0_runFrom 14 = .ok (.istore 5, 2) := by decide +kernel
theorem dX0_runFrom_16 : decode cX0_runFrom 16 = .ok (.aload_n 0, 1) := by decide +kernel
theorem dX0_runFrom_17 : decode cX0_runFrom 17 = .ok (.getfield 15, 3) := by decide +kernel
theorem dX0_runFrom_20 : decode cX0_runFrom 20 = .ok (.bipush 20, 2) := by decide +kernel
theorem dX0_runFrom_22 : decode cX0_runFrom 22 = .ok (.if_icmp .ge 14, 3) := by decide +kernel
theorem dX0_runFrom_25 : decode cX0_runFrom 25 = .ok (.aload_n 0, 1) := by decide +kernel
theorem dX0_runFrom_26 : decode cX0_runFrom 26 = .ok (.getfield 11, 3) := by decide +kernel
theorem dX0_runFrom_29 : decode cX0_runFrom 29 = .ok (.aload_n 0, 1) := by decide +kernel
theorem dX0_runFrom_30 : decode cX0_runFrom 30 = .ok (.getfield 15, 3) := by decide +kernel
theorem dX0_runFrom_33 : decode cX0_runFrom 33 = .ok (.iload 5, 2) := by decide +kernel
theorem dX0_runFrom_35 : decode cX0_runFrom 35 = .ok (.iastore, 1) := by decide +kernel
theorem dX0_runFrom_36 : decode cX0_runFrom 36 = .ok (.aload_n 0, 1) := by decide +kernel
theorem dX0_runFrom_37 : decode cX0_runFrom 37 = .ok (.dup, 1) := by decide +kernel
theorem dX0_runFrom_38 : decode cX0_runFrom 38 = .ok (.getfield 15, 3) := by decide +kernel
theorem dX0_runFrom_41 : decode cX0_runFrom 41 = .ok (.iconst 1, 1) := by decide +kernel
theorem dX0_runFrom_42 : decode cX0_runFrom 42 = .ok (.iadd, 1) := by decide +kernel
theorem dX0_runFrom_43 : decode cX0_runFrom 43 = .ok (.putfield 15, 3) := by decide +kernel
theorem dX0_runFrom_46 : decode cX0_runFrom 46 = .ok (.aload_n 0, 1) := by decide +kernel
theorem dX0_runFrom_47 : decode cX0_runFrom 47 = .ok (.iload 5, 2) := by decide +kernel
theorem dX0_runFrom_49 : decode cX0_runFrom 49 = .ok (.iload_n 3, 1) := by decide +kernel
theorem dX0_runFrom_50 : decode cX0_runFrom 50 = .ok (.iload 4, 2) := by decide +kernel
theorem dX0_runFrom_52 : decode cX0_runFrom 52 = .ok (.iconst 1, 1) := by decide +kernel
theorem dX0_runFrom_53 : decode cX0_runFrom 53 = .ok (.iadd, 1) := by decide +kernel
theorem dX0_runFrom_54 : decode cX0_runFrom 54 = .ok (.invokevirtual 41, 3) := by decide +kernel
theorem dX0_runFrom_57 : decode cX0_runFrom 57 = .ok (.ireturn, 1) := by decide +kernel
theorem dX0_bodyFrom_0 : decode cX0_bodyFrom 0 = .ok (.iload_n 0, 1) := by decide +kernel
theorem dX0_bodyFrom_1 : decode cX0_bodyFrom 1 = .ok (.istore_n 2, 1) := by decide +kernel
theorem dX0_bodyFrom_2 : decode cX0_bodyFrom 2 = .ok (.iconst 0, 1) := by decide +kernel
theorem dX0_bodyFrom_3 : decode cX0_bodyFrom 3 = .ok (.istore_n 3, 1) := by decide +kernel
theorem dX0_bodyFrom_4 : decode cX0_bodyFrom 4 = .ok (.iload_n 3, 1) := by decide +kernel
theorem dX0_bodyFrom_5 : decode cX0_bodyFrom 5 = .ok (.getstatic 45, 3) := by decide +kernel
theorem dX0_bodyFrom_8 : decode cX0_bodyFrom 8 = .ok (.arraylength, 1) := by decide +kernel
theorem dX0_bodyFrom_9 : decode cX0_bodyFrom 9 = .ok (.if_icmp .ge 38, 3) := by decide +kernel
theorem dX0_bodyFrom_12 : decode cX0_bodyFrom 12 = .ok (.iload_n 2, 1) := by decide +kernel
theorem dX0_bodyFrom_13 : decode cX0_bodyFrom 13 = .ok (.ifCond .lt 34, 3) := by decide +kernel
theorem dX0_bodyFrom_16 : decode cX0_bodyFrom 16 = .ok (.getstatic 48, 3) := by decide +kernel
theorem dX0_bodyFrom_19 : decode cX0_bodyFrom 19 = .ok (.iload_n 2, 1) := by decide +kernel
theorem dX0_bodyFrom_20 : decode cX0_bodyFrom 20 = .ok (.iconst 3, 1) := by decide +kernel
theorem dX0_bodyFrom_21 : decode cX0_bodyFrom 21 = .ok (.imul, 1) := by decide +kernel
theorem dX0_bodyFrom_22 : decode cX0_bodyFrom 22 = .ok (.iload_n 1, 1) := by decide +kernel
theorem dX0_bodyFrom_23 : decode cX0_bodyFrom 23 = .ok (.iadd, 1) := by decide +kernel
theorem dX0_bodyFrom_24 : decode cX0_bodyFrom 24 = .ok (.iaload, 1) := by decide +kernel
theorem dX0_bodyFrom_25 : decode cX0_bodyFrom 25 = .ok (.istore 4, 2) := by decide +kernel
theorem dX0_bodyFrom_27 : decode cX0_bodyFrom 27 = .ok (.iload 4, 2) := by decide +kernel
theorem dX0_bodyFrom_29 : decode cX0_bodyFrom 29 = .ok (.ifCond .eq 6, 3) := by decide +kernel
theorem dX0_bodyFrom_32 : decode cX0_bodyFrom 32 = .ok (.iload 4, 2) := by decide +kernel
theorem dX0_bodyFrom_34 : decode cX0_bodyFrom 34 = .ok (.ireturn, 1) := by decide +kernel
theorem dX0_bodyFrom_35 : decode cX0_bodyFrom 35 = .ok (.getstatic 45, 3) := by decide +kernel
theorem dX0_bodyFrom_38 : decode cX0_bodyFrom 38 = .ok (.iload_n 2, 1) := by decide +kernel
theorem dX0_bodyFrom_39 : decode cX0_bodyFrom 39 = .ok (.iaload, 1) := by decide +kernel
theorem dX0_bodyFrom_40 : decode cX0_bodyFrom 40 = .ok (.istore_n 2, 1) := by decide +kernel
theorem dX0_bodyFrom_41 : decode cX0_bodyFrom 41 = .ok (.iinc 3 1, 3) := by decide +kernel
theorem dX0_bodyFrom_44 : decode cX0_bodyFrom 44 = .ok (.goto (-40), 3) := by decide +kernel
theorem dX0_bodyFrom_47 : decode cX0_bodyFrom 47 = .ok (.iconst 0, 1) := by decide +kernel
theorem dX0_bodyFrom_48 : decode cX0_bodyFrom 48 = .ok (.ireturn, 1) := by decide +kernel
theorem dX0_runBody_0 : decode cX0_runBody 0 = .ok (.aload_n 0, 1) := by decide +kernel
theorem dX0_runBody_1 : decode cX0_runBody 1 = .ok (.getfield 25, 3) := by decide +kernel
theorem dX0_runBody_4 : decode cX0_runBody 4 = .ok (.getfield 29, 3) := by decide +kernel
theorem dX0_runBody_7 : decode cX0_runBody 7 = .ok (.istore 4, 2) := by decide +kernel
theorem dX0_runBody_9 : decode cX0_runBody 9 = .ok (.iload_n 1, 1) := by decide +kernel
theorem dX0_runBody_10 : decode cX0_runBody 10 = .ok (.lookupswitch 253 #[(10, 98), (11, 108), (12, 126), (20, 138), (30, 150), (40, 161), (50, 180), (51, 190), (60, 201), (70, 218), (71, 236)], 98) := by decide +kernel
theorem dX0_runBody_108 : decode cX0_runBody 108 = .ok (.iload_n 2, 1) := by decide +kernel
theorem dX0_runBody_109 : decode cX0_runBody 109 = .ok (.aload_n 0, 1) := by decide +kernel
theorem dX0_runBody_110 : decode cX0_runBody 110 = .ok (.getfield 25, 3) := by decide +kernel
theorem dX0_runBody_113 : decode cX0_runBody 113 = .ok (.getfield 51, 3) := by decide +kernel
theorem dX0_runBody_116 : decode cX0_runBody 116 = .ok (.iadd, 1) := by decide +kernel
theorem dX0_runBody_117 : decode cX0_runBody 117 = .ok (.ireturn, 1) := by decide +kernel
theorem dX0_runBody_118 : decode cX0_runBody 118 = .ok (.aload_n 0, 1) := by decide +kernel
theorem dX0_runBody_119 : decode cX0_runBody 119 = .ok (.iload 4, 2) := by decide +kernel
theorem dX0_runBody_121 : decode cX0_runBody 121 = .ok (.iconst 0, 1) := by decide +kernel
theorem dX0_runBody_122 : decode cX0_runBody 122 = .ok (.iload_n 2, 1) := by decide +kernel
theorem dX0_runBody_123 : decode cX0_runBody 123 = .ok (.iload_n 3, 1) := by decide +kernel
theorem dX0_runBody_124 : decode cX0_runBody 124 = .ok (.invokevirtual 34, 3) := by decide +kernel
theorem dX0_runBody_127 : decode cX0_runBody 127 = .ok (.aload_n 0, 1) := by decide +kernel
theorem dX0_runBody_128 : decode cX0_runBody 128 = .ok (.getfield 25, 3) := by decide +kernel
theorem dX0_runBody_131 : decode cX0_runBody 131 = .ok (.getfield 54, 3) := by decide +kernel
theorem dX0_runBody_134 : decode cX0_runBody 134 = .ok (.isub, 1) := by decide +kernel
theorem dX0_runBody_135 : decode cX0_runBody 135 = .ok (.ireturn, 1) := by decide +kernel
theorem dX0_runBody_136 : decode cX0_runBody 136 = .ok (.aload_n 0, 1) := by decide +kernel
theorem dX0_runBody_137 : decode cX0_runBody 137 = .ok (.iload 4, 2) := by decide +kernel
theorem dX0_runBody_139 : decode cX0_runBody 139 = .ok (.iconst 1, 1) := by decide +kernel
theorem dX0_runBody_140 : decode cX0_runBody 140 = .ok (.iload_n 2, 1) := by decide +kernel
theorem dX0_runBody_141 : decode cX0_runBody 141 = .ok (.iload_n 3, 1) := by decide +kernel
theorem dX0_runBody_142 : decode cX0_runBody 142 = .ok (.invokevirtual 34, 3) := by decide +kernel
theorem dX0_runBody_145 : decode cX0_runBody 145 = .ok (.iconst 2, 1) := by decide +kernel
theorem dX0_runBody_146 : decode cX0_runBody 146 = .ok (.imul, 1) := by decide +kernel
theorem dX0_runBody_147 : decode cX0_runBody 147 = .ok (.ireturn, 1) := by decide +kernel
theorem dX0_runBody_148 : decode cX0_runBody 148 = .ok (.aload_n 0, 1) := by decide +kernel
theorem dX0_runBody_149 : decode cX0_runBody 149 = .ok (.iconst 0, 1) := by decide +kernel
theorem dX0_runBody_150 : decode cX0_runBody 150 = .ok (.iconst 1, 1) := by decide +kernel
theorem dX0_runBody_151 : decode cX0_runBody 151 = .ok (.iload_n 2, 1) := by decide +kernel
theorem dX0_runBody_152 : decode cX0_runBody 152 = .ok (.iload_n 3, 1) := by decide +kernel
theorem dX0_runBody_153 : decode cX0_runBody 153 = .ok (.invokevirtual 34, 3) := by decide +kernel
theorem dX0_runBody_156 : decode cX0_runBody 156 = .ok (.bipush 6, 2) := by decide +kernel
theorem dX0_runBody_158 : decode cX0_runBody 158 = .ok (.ixor, 1) := by decide +kernel
theorem dX0_runBody_159 : decode cX0_runBody 159 = .ok (.ireturn, 1) := by decide +kernel
theorem dX0_runBody_160 : decode cX0_runBody 160 = .ok (.aload_n 0, 1) := by decide +kernel
theorem dX0_runBody_161 : decode cX0_runBody 161 = .ok (.iconst 0, 1) := by decide +kernel
theorem dX0_runBody_162 : decode cX0_runBody 162 = .ok (.iconst 0, 1) := by decide +kernel
theorem dX0_runBody_163 : decode cX0_runBody 163 = .ok (.iload_n 2, 1) := by decide +kernel
theorem dX0_runBody_164 : decode cX0_runBody 164 = .ok (.iconst 3, 1) := by decide +kernel
theorem dX0_runBody_165 : decode cX0_runBody 165 = .ok (.imul, 1) := by decide +kernel
theorem dX0_runBody_166 : decode cX0_runBody 166 = .ok (.iload_n 3, 1) := by decide +kernel
theorem dX0_runBody_167 : decode cX0_runBody 167 = .ok (.invokevirtual 34, 3) := by decide +kernel
theorem dX0_runBody_170 : decode cX0_runBody 170 = .ok (.ireturn, 1) := by decide +kernel
theorem dX0_runBody_171 : decode cX0_runBody 171 = .ok (.aload_n 0, 1) := by decide +kernel
theorem dX0_runBody_172 : decode cX0_runBody 172 = .ok (.iconst 0, 1) := by decide +kernel
theorem dX0_runBody_173 : decode cX0_runBody 173 = .ok (.iconst 2, 1) := by decide +kernel
theorem dX0_runBody_174 : decode cX0_runBody 174 = .ok (.iload_n 2, 1) := by decide +kernel
theorem dX0_runBody_175 : decode cX0_runBody 175 = .ok (.iload_n 3, 1) := by decide +kernel
theorem dX0_runBody_176 : decode cX0_runBody 176 = .ok (.invokevirtual 34, 3) := by decide +kernel
theorem dX0_runBody_179 : decode cX0_runBody 179 = .ok (.aload_n 0, 1) := by decide +kernel
theorem dX0_runBody_180 : decode cX0_runBody 180 = .ok (.iload 4, 2) := by decide +kernel
theorem dX0_runBody_182 : decode cX0_runBody 182 = .ok (.iconst 1, 1) := by decide +kernel
theorem dX0_runBody_183 : decode cX0_runBody 183 = .ok (.iconst 1, 1) := by decide +kernel
theorem dX0_runBody_184 : decode cX0_runBody 184 = .ok (.iload_n 3, 1) := by decide +kernel
theorem dX0_runBody_185 : decode cX0_runBody 185 = .ok (.invokevirtual 34, 3) := by decide +kernel
theorem dX0_runBody_188 : decode cX0_runBody 188 = .ok (.iadd, 1) := by decide +kernel
theorem dX0_runBody_189 : decode cX0_runBody 189 = .ok (.ireturn, 1) := by decide +kernel
theorem dX0_runBody_190 : decode cX0_runBody 190 = .ok (.aload_n 0, 1) := by decide +kernel
theorem dX0_runBody_191 : decode cX0_runBody 191 = .ok (.iconst 1, 1) := by decide +kernel
theorem dX0_runBody_192 : decode cX0_runBody 192 = .ok (.iconst 0, 1) := by decide +kernel
theorem dX0_runBody_193 : decode cX0_runBody 193 = .ok (.iload_n 2, 1) := by decide +kernel
theorem dX0_runBody_194 : decode cX0_runBody 194 = .ok (.iload_n 3, 1) := by decide +kernel
theorem dX0_runBody_195 : decode cX0_runBody 195 = .ok (.invokevirtual 34, 3) := by decide +kernel
theorem dX0_runBody_198 : decode cX0_runBody 198 = .ok (.ineg, 1) := by decide +kernel
theorem dX0_runBody_199 : decode cX0_runBody 199 = .ok (.ireturn, 1) := by decide +kernel
theorem dX0_runBody_200 : decode cX0_runBody 200 = .ok (.aload_n 0, 1) := by decide +kernel
theorem dX0_runBody_201 : decode cX0_runBody 201 = .ok (.iconst 1, 1) := by decide +kernel
theorem dX0_runBody_202 : decode cX0_runBody 202 = .ok (.iconst 1, 1) := by decide +kernel
theorem dX0_runBody_203 : decode cX0_runBody 203 = .ok (.iload_n 2, 1) := by decide +kernel
theorem dX0_runBody_204 : decode cX0_runBody 204 = .ok (.iconst 1, 1) := by decide +kernel
theorem dX0_runBody_205 : decode cX0_runBody 205 = .ok (.iadd, 1) := by decide +kernel
theorem dX0_runBody_206 : decode cX0_runBody 206 = .ok (.iload_n 3, 1) := by decide +kernel
theorem dX0_runBody_207 : decode cX0_runBody 207 = .ok (.invokevirtual 34, 3) := by decide +kernel
theorem dX0_runBody_210 : decode cX0_runBody 210 = .ok (.ireturn, 1) := by decide +kernel
theorem dX0_runBody_211 : decode cX0_runBody 211 = .ok (.aload_n 0, 1) := by decide +kernel
theorem dX0_runBody_212 : decode cX0_runBody 212 = .ok (.iconst 2, 1) := by decide +kernel
theorem dX0_runBody_213 : decode cX0_runBody 213 = .ok (.iconst 2, 1) := by decide +kernel
theorem dX0_runBody_214 : decode cX0_runBody 214 = .ok (.iload_n 2, 1) := by decide +kernel
theorem dX0_runBody_215 : decode cX0_runBody 215 = .ok (.aload_n 0, 1) := by decide +kernel
theorem dX0_runBody_216 : decode cX0_runBody 216 = .ok (.getfield 25, 3) := by decide +kernel
theorem dX0_runBody_219 : decode cX0_runBody 219 = .ok (.getfield 51, 3) := by decide +kernel
theorem dX0_runBody_222 : decode cX0_runBody 222 = .ok (.isub, 1) := by decide +kernel
theorem dX0_runBody_223 : decode cX0_runBody 223 = .ok (.iload_n 3, 1) := by decide +kernel
theorem dX0_runBody_224 : decode cX0_runBody 224 = .ok (.invokevirtual 34, 3) := by decide +kernel
theorem dX0_runBody_227 : decode cX0_runBody 227 = .ok (.ireturn, 1) := by decide +kernel
theorem dX0_runBody_228 : decode cX0_runBody 228 = .ok (.aload_n 0, 1) := by decide +kernel
theorem dX0_runBody_229 : decode cX0_runBody 229 = .ok (.iconst 3, 1) := by decide +kernel
theorem dX0_runBody_230 : decode cX0_runBody 230 = .ok (.iconst 1, 1) := by decide +kernel
theorem dX0_runBody_231 : decode cX0_runBody 231 = .ok (.iload_n 2, 1) := by decide +kernel
theorem dX0_runBody_232 : decode cX0_runBody 232 = .ok (.iload_n 3, 1) := by decide +kernel
theorem dX0_runBody_233 : decode cX0_runBody 233 = .ok (.invokevirtual 34, 3) := by decide +kernel
theorem dX0_runBody_236 : decode cX0_runBody 236 = .ok (.aload_n 0, 1) := by decide +kernel
theorem dX0_runBody_237 : decode cX0_runBody 237 = .ok (.iconst 3, 1) := by decide +kernel
theorem dX0_runBody_238 : decode cX0_runBody 238 = .ok (.iconst 0, 1) := by decide +kernel
theorem dX0_runBody_239 : decode cX0_runBody 239 = .ok (.iconst 2, 1) := by decide +kernel
theorem dX0_runBody_240 : decode cX0_runBody 240 = .ok (.iload_n 3, 1) := by decide +kernel
theorem dX0_runBody_241 : decode cX0_runBody 241 = .ok (.invokevirtual 34, 3) := by decide +kernel
theorem dX0_runBody_244 : decode cX0_runBody 244 = .ok (.iadd, 1) := by decide +kernel
theorem dX0_runBody_245 : decode cX0_runBody 245 = .ok (.ireturn, 1) := by decide +kernel
theorem dX0_runBody_246 : decode cX0_runBody 246 = .ok (.aload_n 0, 1) := by decide +kernel
theorem dX0_runBody_247 : decode cX0_runBody 247 = .ok (.iconst 3, 1) := by decide +kernel
theorem dX0_runBody_248 : decode cX0_runBody 248 = .ok (.iconst 0, 1) := by decide +kernel
theorem dX0_runBody_249 : decode cX0_runBody 249 = .ok (.iload_n 2, 1) := by decide +kernel
theorem dX0_runBody_250 : decode cX0_runBody 250 = .ok (.iload_n 3, 1) := by decide +kernel
theorem dX0_runBody_251 : decode cX0_runBody 251 = .ok (.invokevirtual 34, 3) := by decide +kernel
theorem dX0_runBody_254 : decode cX0_runBody 254 = .ok (.aload_n 0, 1) := by decide +kernel
theorem dX0_runBody_255 : decode cX0_runBody 255 = .ok (.getfield 25, 3) := by decide +kernel
theorem dX0_runBody_258 : decode cX0_runBody 258 = .ok (.getfield 54, 3) := by decide +kernel
theorem dX0_runBody_261 : decode cX0_runBody 261 = .ok (.ixor, 1) := by decide +kernel
theorem dX0_runBody_262 : decode cX0_runBody 262 = .ok (.ireturn, 1) := by decide +kernel
theorem dX0_runBody_263 : decode cX0_runBody 263 = .ok (.iconst 0, 1) := by decide +kernel
theorem dX0_runBody_264 : decode cX0_runBody 264 = .ok (.ireturn, 1) := by decide +kernel
theorem dX1_init_0 : decode cX1_init 0 = .ok (.aload_n 0, 1) := by decide +kernel
theorem dX1_init_1 : decode cX1_init 1 = .ok (.invokespecial 3, 3) := by decide +kernel
theorem dX1_init_4 : decode cX1_init 4 = .ok (.aload_n 0, 1) := by decide +kernel
theorem dX1_init_5 : decode cX1_init 5 = .ok (.bipush 20, 2) := by decide +kernel
theorem dX1_init_7 : decode cX1_init 7 = .ok (.newarray .int, 2) := by decide +kernel
theorem dX1_init_9 : decode cX1_init 9 = .ok (.putfield 9, 3) := by decide +kernel
theorem dX1_init_12 : decode cX1_init 12 = .ok (.aload_n 0, 1) := by decide +kernel
theorem dX1_init_13 : decode cX1_init 13 = .ok (.bipush 10, 2) := by decide +kernel
theorem dX1_init_15 : decode cX1_init 15 = .ok (.newarray .int, 2) := by decide +kernel
theorem dX1_init_17 : decode cX1_init 17 = .ok (.putfield 15, 3) := by decide +kernel
theorem dX1_init_20 : decode cX1_init 20 = .ok (.aload_n 0, 1) := by decide +kernel
theorem dX1_init_21 : decode cX1_init 21 = .ok (.bipush 10, 2) := by decide +kernel
theorem dX1_init_23 : decode cX1_init 23 = .ok (.newarray .int, 2) := by decide +kernel
theorem dX1_init_25 : decode cX1_init 25 = .ok (.putfield 18, 3) := by decide +kernel
theorem dX1_init_28 : decode cX1_init 28 = .ok (.aload_n 0, 1) := by decide +kernel
theorem dX1_init_29 : decode cX1_init 29 = .ok (.bipush 10, 2) := by decide +kernel
theorem dX1_init_31 : decode cX1_init 31 = .ok (.newarray .int, 2) := by decide +kernel
theorem dX1_init_33 : decode cX1_init 33 = .ok (.putfield 21, 3) := by decide +kernel
theorem dX1_init_36 : decode cX1_init 36 = .ok (.aload_n 0, 1) := by decide +kernel
theorem dX1_init_37 : decode cX1_init 37 = .ok (.bipush 10, 2) := by decide +kernel
theorem dX1_init_39 : decode cX1_init 39 = .ok (.newarray .int, 2) := by decide +kernel
theorem dX1_init_41 : decode cX1_init 41 = .ok (.putfield 24, 3) := by decide +kernel
theorem dX1_init_44 : decode cX1_init 44 = .ok (.aload_n 0, 1) := by decide +kernel
theorem dX1_init_45 : decode cX1_init 45 = .ok (.bipush 100, 2) := by decide +kernel
theorem dX1_init_47 : decode cX1_init 47 = .ok (.newarray .int, 2) := by decide +kernel
theorem dX1_init_49 : decode cX1_init 49 = .ok (.putfield 27, 3) := by decide +kernel
theorem dX1_init_52 : decode cX1_init 52 = .ok (.aload_n 0, 1) := by decide +kernel
theorem dX1_init_53 : decode cX1_init 53 = .ok (.invokevirtual 30, 3) := by decide +kernel
theorem dX1_init_56 : decode cX1_init 56 = .ok (.return_, 1) := by decide +kernel
theorem dX1_clear_0 : decode cX1_clear 0 = .ok (.iconst 0, 1) := by decide +kernel
theorem dX1_clear_1 : decode cX1_clear 1 = .ok (.istore_n 1, 1) := by decide +kernel
theorem dX1_clear_2 : decode cX1_clear 2 = .ok (.iload_n 1, 1) := by decide +kernel
theorem dX1_clear_3 : decode cX1_clear 3 = .ok (.bipush 10, 2) := by decide +kernel
theorem dX1_clear_5 : decode cX1_clear 5 = .ok (.if_icmp .ge 33, 3) := by decide +kernel
theorem dX1_clear_8 : decode cX1_clear 8 = .ok (.aload_n 0, 1) := by decide +kernel
theorem dX1_clear_9 : decode cX1_clear 9 = .ok (.getfield 9, 3) := by decide +kernel
theorem dX1_clear_12 : decode cX1_clear 12 = .ok (.iload_n 1, 1) := by decide +kernel
theorem dX1_clear_13 : decode cX1_clear 13 = .ok (.iload_n 1, 1) := by decide +kernel
theorem dX1_clear_14 : decode cX1_clear 14 = .ok (.iastore, 1) := by decide +kernel
theorem dX1_clear_15 : decode cX1_clear 15 = .ok (.aload_n 0, 1) := by decide +kernel
theorem dX1_clear_16 : decode cX1_clear 16 = .ok (.getfield 9, 3) := by decide +kernel
theorem dX1_clear_19 : decode cX1_clear 19 = .ok (.bipush 10, 2) := by decide +kernel
theorem dX1_clear_21 : decode cX1_clear 21 = .ok (.iload_n 1, 1) := by decide +kernel
theorem dX1_clear_22 : decode cX1_clear 22 = .ok (.iadd, 1) := by decide +kernel
theorem dX1_clear_23 : decode cX1_clear 23 = .ok (.iload_n 1, 1) := by decide +kernel
theorem dX1_clear_24 : decode cX1_clear 24 = .ok (.iastore, 1) := by decide +kernel
theorem dX1_clear_25 : decode cX1_clear 25 = .ok (.aload_n 0, 1) := by decide +kernel
theorem dX1_clear_26 : decode cX1_clear 26 = .ok (.getfield 15, 3) := by decide +kernel
theorem dX1_clear_29 : decode cX1_clear 29 = .ok (.iload_n 1, 1) := by decide +kernel
theorem dX1_clear_30 : decode cX1_clear 30 = .ok (.iload_n 1, 1) := by decide +kernel
theorem dX1_clear_31 : decode cX1_clear 31 = .ok (.iastore, 1) := by decide +kernel
theorem dX1_clear_32 : decode cX1_clear 32 = .ok (.iinc 1 1, 3) := by decide +kernel
theorem dX1_clear_35 : decode cX1_clear 35 = .ok (.goto (-33), 3) := by decide +kernel
theorem dX1_clear_38 : decode cX1_clear 38 = .ok (.aload_n 0, 1) := by decide +kernel
theorem dX1_clear_39 : decode cX1_clear 39 = .ok (.iconst 1, 1) := by decide +kernel
theorem dX1_clear_40 : decode cX1_clear 40 = .ok (.putfield 33, 3) := by decide +kernel
theorem dX1_clear_43 : decode cX1_clear 43 = .ok (.aload_n 0, 1) := by decide +kernel
theorem dX1_clear_44 : decode cX1_clear 44 = .ok (.iconst 0, 1) := by decide +kernel
theorem dX1_clear_45 : decode cX1_clear 45 = .ok (.putfield 37, 3) := by decide +kernel
theorem dX1_clear_48 : decode cX1_clear 48 = .ok (.aload_n 0, 1) := by decide +kernel
theorem dX1_clear_49 : decode cX1_clear 49 = .ok (.iconst 0, 1) := by decide +kernel
theorem dX1_clear_50 : decode cX1_clear 50 = .ok (.putfield 40, 3) := by decide +kernel
theorem dX1_clear_53 : decode cX1_clear 53 = .ok (.return_, 1) := by decide +kernel
theorem dX1_soundOf_0 : decode cX1_soundOf 0 = .ok (.aload_n 0, 1) := by decide +kernel
theorem dX1_soundOf_1 : decode cX1_soundOf 1 = .ok (.getfield 9, 3) := by decide +kernel
theorem dX1_soundOf_4 : decode cX1_soundOf 4 = .ok (.iload_n 2, 1) := by decide +kernel
theorem dX1_soundOf_5 : decode cX1_soundOf 5 = .ok (.bipush 10, 2) := by decide +kernel
theorem dX1_soundOf_7 : decode cX1_soundOf 7 = .ok (.imul, 1) := by decide +kernel
theorem dX1_soundOf_8 : decode cX1_soundOf 8 = .ok (.iload_n 1, 1) := by decide +kernel
theorem dX1_soundOf_9 : decode cX1_soundOf 9 = .ok (.iadd, 1) := by decide +kernel
theorem dX1_soundOf_10 : decode cX1_soundOf 10 = .ok (.iaload, 1) := by decide +kernel
theorem dX1_soundOf_11 : decode cX1_soundOf 11 = .ok (.ireturn, 1) := by decide +kernel
theorem dX1_swapOf_0 : decode cX1_swapOf 0 = .ok (.aload_n 0, 1) := by decide +kernel
theorem dX1_swapOf_1 : decode cX1_swapOf 1 = .ok (.getfield 15, 3) := by decide +kernel
theorem dX1_swapOf_4 : decode cX1_swapOf 4 = .ok (.iload_n 1, 1) := by decide +kernel
theorem dX1_swapOf_5 : decode cX1_swapOf 5 = .ok (.iaload, 1) := by decide +kernel
theorem dX1_swapOf_6 : decode cX1_swapOf 6 = .ok (.ireturn, 1) := by decide +kernel
theorem dX1_addStep_0 : decode cX1_addStep 0 = .ok (.aload_n 0, 1) := by decide +kernel
theorem dX1_addStep_1 : decode cX1_addStep 1 = .ok (.getfield 40, 3) := by decide +kernel
theorem dX1_addStep_4 : decode cX1_addStep 4 = .ok (.aload_n 0, 1) := by decide +kernel
theorem dX1_addStep_5 : decode cX1_addStep 5 = .ok (.getfield 27, 3) := by decide +kernel
theorem dX1_addStep_8 : decode cX1_addStep 8 = .ok (.arraylength, 1) := by decide +kernel
theorem dX1_addStep_9 : decode cX1_addStep 9 = .ok (.if_icmp .ge 23, 3) := by decide +kernel
theorem dX1_addStep_12 : decode cX1_addStep 12 = .ok (.aload_n 0, 1) := by decide +kernel
theorem dX1_addStep_13 : decode cX1_addStep 13 = .ok (.getfield 27, 3) := by decide +kernel
theorem dX1_addStep_16 : decode cX1_addStep 16 = .ok (.aload_n 0, 1) := by decide +kernel
theorem dX1_addStep_17 : decode cX1_addStep 17 = .ok (.getfield 40, 3) := by decide +kernel
theorem dX1_addStep_20 : decode cX1_addStep 20 = .ok (.iload_n 1, 1) := by decide +kernel
theorem dX1_addStep_21 : decode cX1_addStep 21 = .ok (.iastore, 1) := by decide +kernel
theorem dX1_addStep_22 : decode cX1_addStep 22 = .ok (.aload_n 0, 1) := by decide +kernel
theorem dX1_addStep_23 : decode cX1_addStep 23 = .ok (.dup, 1) := by decide +kernel
theorem dX1_addStep_24 : decode cX1_addStep 24 = .ok (.getfield 40, 3) := by decide +kernel
theorem dX1_addStep_27 : decode cX1_addStep 27 = .ok (.iconst 1, 1) := by decide +kernel
theorem dX1_addStep_28 : decode cX1_addStep 28 = .ok (.iadd, 1) := by decide +kernel
theorem dX1_addStep_29 : decode cX1_addStep 29 = .ok (.putfield 40, 3) := by decide +kernel
theorem dX1_addStep_32 : decode cX1_addStep 32 = .ok (.return_, 1) := by decide +kernel
theorem dX1_addClause_0 : decode cX1_addClause 0 = .ok (.aload_n 0, 1) := by decide +kernel
theorem dX1_addClause_1 : decode cX1_addClause 1 = .ok (.getfield 37, 3) := by decide +kernel
theorem dX1_addClause_4 : decode cX1_addClause 4 = .ok (.bipush 10, 2) := by decide +kernel
theorem dX1_addClause_6 : decode cX1_addClause 6 = .ok (.if_icmp .ge 46, 3) := by decide +kernel
theorem dX1_addClause_9 : decode cX1_addClause 9 = .ok (.aload_n 0, 1) := by decide +kernel
theorem dX1_addClause_10 : decode cX1_addClause 10 = .ok (.getfield 18, 3) := by decide +kernel
theorem dX1_addClause_13 : decode cX1_addClause 13 = .ok (.aload_n 0, 1) := by decide +kernel
theorem dX1_addClause_14 : decode cX1_addClause 14 = .ok (.getfield 37, 3) := by decide +kernel
theorem dX1_addClause_17 : decode cX1_addClause 17 = .ok (.iload_n 1, 1) := by decide +kernel
theorem dX1_addClause_18 : decode cX1_addClause 18 = .ok (.iastore, 1) := by decide +kernel
theorem dX1_addClause_19 : decode cX1_addClause 19 = .ok (.aload_n 0, 1) := by decide +kernel
theorem dX1_addClause_20 : decode cX1_addClause 20 = .ok (.getfield 21, 3) := by decide +kernel
theorem dX1_addClause_23 : decode cX1_addClause 23 = .ok (.aload_n 0, 1) := by decide +kernel
theorem dX1_addClause_24 : decode cX1_addClause 24 = .ok (.getfield 37, 3) := by decide +kernel
theorem dX1_addClause_27 : decode cX1_addClause 27 = .ok (.iload_n 2, 1) := by decide +kernel
theorem dX1_addClause_28 : decode cX1_addClause 28 = .ok (.iastore, 1) := by decide +kernel
theorem dX1_addClause_29 : decode cX1_addClause 29 = .ok (.aload_n 0, 1) := by decide +kernel
theorem dX1_addClause_30 : decode cX1_addClause 30 = .ok (.getfield 24, 3) := by decide +kernel
theorem dX1_addClause_33 : decode cX1_addClause 33 = .ok (.aload_n 0, 1) := by decide +kernel
theorem dX1_addClause_34 : decode cX1_addClause 34 = .ok (.getfield 37, 3) := by decide +kernel
theorem dX1_addClause_37 : decode cX1_addClause 37 = .ok (.aload_n 0, 1) := by decide +kernel
theorem dX1_addClause_38 : decode cX1_addClause 38 = .ok (.getfield 40, 3) := by decide +kernel
theorem dX1_addClause_41 : decode cX1_addClause 41 = .ok (.iastore, 1) := by decide +kernel
theorem dX1_addClause_42 : decode cX1_addClause 42 = .ok (.aload_n 0, 1) := by decide +kernel
theorem dX1_addClause_43 : decode cX1_addClause 43 = .ok (.dup, 1) := by decide +kernel
theorem dX1_addClause_44 : decode cX1_addClause 44 = .ok (.getfield 37, 3) := by decide +kernel
theorem dX1_addClause_47 : decode cX1_addClause 47 = .ok (.iconst 1, 1) := by decide +kernel
theorem dX1_addClause_48 : decode cX1_addClause 48 = .ok (.iadd, 1) := by decide +kernel
theorem dX1_addClause_49 : decode cX1_addClause 49 = .ok (.putfield 37, 3) := by decide +kernel
theorem dX1_addClause_52 : decode cX1_addClause 52 = .ok (.return_, 1) := by decide +kernel
theorem dX1_unsure_0 : decode cX1_unsure 0 = .ok (.iconst 1, 1) := by decide +kernel
theorem dX1_unsure_1 : decode cX1_unsure 1 = .ok (.istore_n 3, 1) := by decide +kernel
theorem dX1_unsure_2 : decode cX1_unsure 2 = .ok (.iconst 0, 1) := by decide +kernel
theorem dX1_unsure_3 : decode cX1_unsure 3 = .ok (.istore 4, 2) := by decide +kernel
theorem dX1_unsure_5 : decode cX1_unsure 5 = .ok (.iload 4, 2) := by decide +kernel
theorem dX1_unsure_7 : decode cX1_unsure 7 = .ok (.aload_n 0, 1) := by decide +kernel
theorem dX1_unsure_8 : decode cX1_unsure 8 = .ok (.getfield 37, 3) := by decide +kernel
theorem dX1_unsure_11 : decode cX1_unsure 11 = .ok (.if_icmp .ge 40, 3) := by decide +kernel
theorem dX1_unsure_14 : decode cX1_unsure 14 = .ok (.aload_n 0, 1) := by decide +kernel
theorem dX1_unsure_15 : decode cX1_unsure 15 = .ok (.getfield 18, 3) := by decide +kernel
theorem dX1_unsure_18 : decode cX1_unsure 18 = .ok (.iload 4, 2) := by decide +kernel
theorem dX1_unsure_20 : decode cX1_unsure 20 = .ok (.iaload, 1) := by decide +kernel
theorem dX1_unsure_21 : decode cX1_unsure 21 = .ok (.iload_n 1, 1) := by decide +kernel
theorem dX1_unsure_22 : decode cX1_unsure 22 = .ok (.if_icmp .ne 23, 3) := by decide +kernel
theorem dX1_unsure_25 : decode cX1_unsure 25 = .ok (.aload_n 0, 1) := by decide +kernel
theorem dX1_unsure_26 : decode cX1_unsure 26 = .ok (.iload 4, 2) := by decide +kernel
theorem dX1_unsure_28 : decode cX1_unsure 28 = .ok (.aload_n 2, 1) := by decide +kernel
theorem dX1_unsure_29 : decode cX1_unsure 29 = .ok (.invokevirtual 43, 3) := by decide +kernel
theorem dX1_unsure_32 : decode cX1_unsure 32 = .ok (.ifCond .eq 13, 3) := by decide +kernel
theorem dX1_unsure_35 : decode cX1_unsure 35 = .ok (.iload_n 3, 1) := by decide +kernel
theorem dX1_unsure_36 : decode cX1_unsure 36 = .ok (.aload_n 0, 1) := by decide +kernel
theorem dX1_unsure_37 : decode cX1_unsure 37 = .ok (.getfield 21, 3) := by decide +kernel
theorem dX1_unsure_40 : decode cX1_unsure 40 = .ok (.iload 4, 2) := by decide +kernel
theorem dX1_unsure_42 : decode cX1_unsure 42 = .ok (.iaload, 1) := by decide +kernel
theorem dX1_unsure_43 : decode cX1_unsure 43 = .ok (.iadd, 1) := by decide +kernel
theorem dX1_unsure_44 : decode cX1_unsure 44 = .ok (.istore_n 3, 1) := by decide +kernel
theorem dX1_unsure_45 : decode cX1_unsure 45 = .ok (.iinc 4 1, 3) := by decide +kernel
theorem dX1_unsure_48 : decode cX1_unsure 48 = .ok (.goto (-43), 3) := by decide +kernel
theorem dX1_unsure_51 : decode cX1_unsure 51 = .ok (.bipush 60, 2) := by decide +kernel
theorem dX1_unsure_53 : decode cX1_unsure 53 = .ok (.iload_n 3, 1) := by decide +kernel
theorem dX1_unsure_54 : decode cX1_unsure 54 = .ok (.invokestatic 47, 3) := by decide +kernel
theorem dX1_unsure_57 : decode cX1_unsure 57 = .ok (.ireturn, 1) := by decide +kernel
theorem dX1_isTrue_0 : decode cX1_isTrue 0 = .ok (.iconst 0, 1) := by decide +kernel
theorem dX1_isTrue_1 : decode cX1_isTrue 1 = .ok (.istore_n 3, 1) := by decide +kernel
theorem dX1_isTrue_2 : decode cX1_isTrue 2 = .ok (.iload_n 1, 1) := by decide +kernel
theorem dX1_isTrue_3 : decode cX1_isTrue 3 = .ok (.ifCond .ne 7, 3) := by decide +kernel
theorem dX1_isTrue_6 : decode cX1_isTrue 6 = .ok (.iconst 0, 1) := by decide +kernel
theorem dX1_isTrue_7 : decode cX1_isTrue 7 = .ok (.goto 11, 3) := by decide +kernel
theorem dX1_isTrue_10 : decode cX1_isTrue 10 = .ok (.aload_n 0, 1) := by decide +kernel
theorem dX1_isTrue_11 : decode cX1_isTrue 11 = .ok (.getfield 24, 3) := by decide +kernel
theorem dX1_isTrue_14 : decode cX1_isTrue 14 = .ok (.iload_n 1, 1) := by decide +kernel
theorem dX1_isTrue_15 : decode cX1_isTrue 15 = .ok (.iconst 1, 1) := by decide +kernel
theorem dX1_isTrue_16 : decode cX1_isTrue 16 = .ok (.isub, 1) := by decide +kernel
theorem dX1_isTrue_17 : decode cX1_isTrue 17 = .ok (.iaload, 1) := by decide +kernel
theorem dX1_isTrue_18 : decode cX1_isTrue 18 = .ok (.istore 4, 2) := by decide +kernel
theorem dX1_isTrue_20 : decode cX1_isTrue 20 = .ok (.iload 4, 2) := by decide +kernel
theorem dX1_isTrue_22 : decode cX1_isTrue 22 = .ok (.aload_n 0, 1) := by decide +kernel
theorem dX1_isTrue_23 : decode cX1_isTrue 23 = .ok (.getfield 24, 3) := by decide +kernel
theorem dX1_isTrue_26 : decode cX1_isTrue 26 = .ok (.iload_n 1, 1) := by decide +kernel
theorem dX1_isTrue_27 : decode cX1_isTrue 27 = .ok (.iaload, 1) := by decide +kernel
theorem dX1_isTrue_28 : decode cX1_isTrue 28 = .ok (.if_icmp .ge 102, 3) := by decide +kernel
theorem dX1_isTrue_31 : decode cX1_isTrue 31 = .ok (.iload_n 3, 1) := by decide +kernel
theorem dX1_isTrue_32 : decode cX1_isTrue 32 = .ok (.iconst 1, 1) := by decide +kernel
theorem dX1_isTrue_33 : decode cX1_isTrue 33 = .ok (.iand, 1) := by decide +kernel
theorem dX1_isTrue_34 : decode cX1_isTrue 34 = .ok (.istore 5, 2) := by decide +kernel
theorem dX1_isTrue_36 : decode cX1_isTrue 36 = .ok (.aload_n 0, 1) := by decide +kernel
theorem dX1_isTrue_37 : decode cX1_isTrue 37 = .ok (.getfield 27, 3) := by decide +kernel
theorem dX1_isTrue_40 : decode cX1_isTrue 40 = .ok (.iload 4, 2) := by decide +kernel
theorem dX1_isTrue_42 : decode cX1_isTrue 42 = .ok (.iaload, 1) := by decide +kernel
theorem dX1_isTrue_43 : decode cX1_isTrue 43 = .ok (.tableswitch 55 0 2 #[25, 32, 45], 25) := by decide +kernel
theorem dX1_isTrue_68 : decode cX1_isTrue 68 = .ok (.iload_n 3, 1) := by decide +kernel
theorem dX1_isTrue_69 : decode cX1_isTrue 69 = .ok (.iconst 1, 1) := by decide +kernel
theorem dX1_isTrue_70 : decode cX1_isTrue 70 = .ok (.ixor, 1) := by decide +kernel
theorem dX1_isTrue_71 : decode cX1_isTrue 71 = .ok (.istore_n 3, 1) := by decide +kernel
theorem dX1_isTrue_72 : decode cX1_isTrue 72 = .ok (.goto 52, 3) := by decide +kernel
theorem dX1_isTrue_75 : decode cX1_isTrue 75 = .ok (.iload_n 3, 1) := by decide +kernel
theorem dX1_isTrue_76 : decode cX1_isTrue 76 = .ok (.iconst 1, 1) := by decide +kernel
theorem dX1_isTrue_77 : decode cX1_isTrue 77 = .ok (.ishr, 1) := by decide +kernel
theorem dX1_isTrue_78 : decode cX1_isTrue 78 = .ok (.iload 5, 2) := by decide +kernel
theorem dX1_isTrue_80 : decode cX1_isTrue 80 = .ok (.bipush (-2), 2) := by decide +kernel
theorem dX1_isTrue_82 : decode cX1_isTrue 82 = .ok (.ior, 1) := by decide +kernel
theorem dX1_isTrue_83 : decode cX1_isTrue 83 = .ok (.iand, 1) := by decide +kernel
theorem dX1_isTrue_84 : decode cX1_isTrue 84 = .ok (.istore_n 3, 1) := by decide +kernel
theorem dX1_isTrue_85 : decode cX1_isTrue 85 = .ok (.goto 39, 3) := by decide +kernel
theorem dX1_isTrue_88 : decode cX1_isTrue 88 = .ok (.iload_n 3, 1) := by decide +kernel
theorem dX1_isTrue_89 : decode cX1_isTrue 89 = .ok (.iconst 1, 1) := by decide +kernel
theorem dX1_isTrue_90 : decode cX1_isTrue 90 = .ok (.ishr, 1) := by decide +kernel
theorem dX1_isTrue_91 : decode cX1_isTrue 91 = .ok (.iload 5, 2) := by decide +kernel
theorem dX1_isTrue_93 : decode cX1_isTrue 93 = .ok (.ior, 1) := by decide +kernel
theorem dX1_isTrue_94 : decode cX1_isTrue 94 = .ok (.istore_n 3, 1) := by decide +kernel
theorem dX1_isTrue_95 : decode cX1_isTrue 95 = .ok (.goto 29, 3) := by decide +kernel
theorem dX1_isTrue_98 : decode cX1_isTrue 98 = .ok (.iload_n 3, 1) := by decide +kernel
theorem dX1_isTrue_99 : decode cX1_isTrue 99 = .ok (.iconst 1, 1) := by decide +kernel
theorem dX1_isTrue_100 : decode cX1_isTrue 100 = .ok (.ishl, 1) := by decide +kernel
theorem dX1_isTrue_101 : decode cX1_isTrue 101 = .ok (.aload_n 0, 1) := by decide +kernel
theorem dX1_isTrue_102 : decode cX1_isTrue 102 = .ok (.getfield 27, 3) := by decide +kernel
theorem dX1_isTrue_105 : decode cX1_isTrue 105 = .ok (.iload 4, 2) := by decide +kernel
theorem dX1_isTrue_107 : decode cX1_isTrue 107 = .ok (.iaload, 1) := by decide +kernel
theorem dX1_isTrue_108 : decode cX1_isTrue 108 = .ok (.iconst 3, 1) := by decide +kernel
theorem dX1_isTrue_109 : decode cX1_isTrue 109 = .ok (.isub, 1) := by decide +kernel
theorem dX1_isTrue_110 : decode cX1_isTrue 110 = .ok (.aload_n 2, 1) := by decide +kernel
theorem dX1_isTrue_111 : decode cX1_isTrue 111 = .ok (.invokestatic 53, 3) := by decide +kernel
theorem dX1_isTrue_114 : decode cX1_isTrue 114 = .ok (.ifCond .eq 7, 3) := by decide +kernel
theorem dX1_isTrue_117 : decode cX1_isTrue 117 = .ok (.iconst 1, 1) := by decide +kernel
theorem dX1_isTrue_118 : decode cX1_isTrue 118 = .ok (.goto 4, 3) := by decide +kernel
theorem dX1_isTrue_121 : decode cX1_isTrue 121 = .ok (.iconst 0, 1) := by decide +kernel
theorem dX1_isTrue_122 : decode cX1_isTrue 122 = .ok (.ior, 1) := by decide +kernel
theorem dX1_isTrue_123 : decode cX1_isTrue 123 = .ok (.istore_n 3, 1) := by decide +kernel
theorem dX1_isTrue_124 : decode cX1_isTrue 124 = .ok (.iinc 4 1, 3) := by decide +kernel
theorem dX1_isTrue_127 : decode cX1_isTrue 127 = .ok (.goto (-107), 3) := by decide +kernel
theorem dX1_isTrue_130 : decode cX1_isTrue 130 = .ok (.iload_n 3, 1) := by decide +kernel
theorem dX1_isTrue_131 : decode cX1_isTrue 131 = .ok (.iconst 1, 1) := by decide +kernel
theorem dX1_isTrue_132 : decode cX1_isTrue 132 = .ok (.iand, 1) := by decide +kernel
theorem dX1_isTrue_133 : decode cX1_isTrue 133 = .ok (.ifCond .eq 7, 3) := by decide +kernel
theorem dX1_isTrue_136 : decode cX1_isTrue 136 = .ok (.iconst 1, 1) := by decide +kernel
theorem dX1_isTrue_137 : decode cX1_isTrue 137 = .ok (.goto 4, 3) := by decide +kernel
theorem dX1_isTrue_140 : decode cX1_isTrue 140 = .ok (.iconst 0, 1) := by decide +kernel
theorem dX1_isTrue_141 : decode cX1_isTrue 141 = .ok (.ireturn, 1) := by decide +kernel
theorem dX1_testStep_0 : decode cX1_testStep 0 = .ok (.iconst 3, 1) := by decide +kernel
theorem dX1_testStep_1 : decode cX1_testStep 1 = .ok (.iload_n 0, 1) := by decide +kernel
theorem dX1_testStep_2 : decode cX1_testStep 2 = .ok (.iconst 3, 1) := by decide +kernel
theorem dX1_testStep_3 : decode cX1_testStep 3 = .ok (.imul, 1) := by decide +kernel
theorem dX1_testStep_4 : decode cX1_testStep 4 = .ok (.iload_n 1, 1) := by decide +kernel
theorem dX1_testStep_5 : decode cX1_testStep 5 = .ok (.iadd, 1) := by decide +kernel
theorem dX1_testStep_6 : decode cX1_testStep 6 = .ok (.bipush 100, 2) := by decide +kernel
theorem dX1_testStep_8 : decode cX1_testStep 8 = .ok (.imul, 1) := by decide +kernel
theorem dX1_testStep_9 : decode cX1_testStep 9 = .ok (.iadd, 1) := by decide +kernel
theorem dX1_testStep_10 : decode cX1_testStep 10 = .ok (.iload_n 2, 1) := by decide +kernel
theorem dX1_testStep_11 : decode cX1_testStep 11 = .ok (.iadd, 1) := by decide +kernel
theorem dX1_testStep_12 : decode cX1_testStep 12 = .ok (.ireturn, 1) := by decide +kernel
theorem dX1_passes_0 : decode cX1_passes 0 = .ok (.iload_n 0, 1) := by decide +kernel
theorem dX1_passes_1 : decode cX1_passes 1 = .ok (.sipush 300, 3) := by decide +kernel
theorem dX1_passes_4 : decode cX1_passes 4 = .ok (.idiv, 1) := by decide +kernel
theorem dX1_passes_5 : decode cX1_passes 5 = .ok (.istore_n 2, 1) := by decide +kernel
theorem dX1_passes_6 : decode cX1_passes 6 = .ok (.iload_n 2, 1) := by decide +kernel
theorem dX1_passes_7 : decode cX1_passes 7 = .ok (.ifCond .lt 9, 3) := by decide +kernel
theorem dX1_passes_10 : decode cX1_passes 10 = .ok (.iload_n 2, 1) := by decide +kernel
theorem dX1_passes_11 : decode cX1_passes 11 = .ok (.aload_n 1, 1) := by decide +kernel
theorem dX1_passes_12 : decode cX1_passes 12 = .ok (.arraylength, 1) := by decide +kernel
theorem dX1_passes_13 : decode cX1_passes 13 = .ok (.if_icmp .lt 5, 3) := by decide +kernel
theorem dX1_passes_16 : decode cX1_passes 16 = .ok (.iconst 0, 1) := by decide +kernel
theorem dX1_passes_17 : decode cX1_passes 17 = .ok (.ireturn, 1) := by decide +kernel
theorem dX1_passes_18 : decode cX1_passes 18 = .ok (.iload_n 0, 1) := by decide +kernel
theorem dX1_passes_19 : decode cX1_passes 19 = .ok (.bipush 100, 2) := by decide +kernel
theorem dX1_passes_21 : decode cX1_passes 21 = .ok (.irem, 1) := by decide +kernel
theorem dX1_passes_22 : decode cX1_passes 22 = .ok (.istore_n 3, 1) := by decide +kernel
theorem dX1_passes_23 : decode cX1_passes 23 = .ok (.iload_n 0, 1) := by decide +kernel
theorem dX1_passes_24 : decode cX1_passes 24 = .ok (.bipush 100, 2) := by decide +kernel
theorem dX1_passes_26 : decode cX1_passes 26 = .ok (.idiv, 1) := by decide +kernel
theorem dX1_passes_27 : decode cX1_passes 27 = .ok (.iconst 3, 1) := by decide +kernel
theorem dX1_passes_28 : decode cX1_passes 28 = .ok (.irem, 1) := by decide +kernel
theorem dX1_passes_29 : decode cX1_passes 29 = .ok (.lookupswitch 53 #[(0, 27), (1, 40)], 27) := by decide +kernel
theorem dX1_passes_56 : decode cX1_passes 56 = .ok (.aload_n 1, 1) := by decide +kernel
theorem dX1_passes_57 : decode cX1_passes 57 = .ok (.iload_n 2, 1) := by decide +kernel
theorem dX1_passes_58 : decode cX1_passes 58 = .ok (.iaload, 1) := by decide +kernel
theorem dX1_passes_59 : decode cX1_passes 59 = .ok (.iload_n 3, 1) := by decide +kernel
theorem dX1_passes_60 : decode cX1_passes 60 = .ok (.if_icmp .ge 7, 3) := by decide +kernel
theorem dX1_passes_63 : decode cX1_passes 63 = .ok (.iconst 1, 1) := by decide +kernel
theorem dX1_passes_64 : decode cX1_passes 64 = .ok (.goto 4, 3) := by decide +kernel
theorem dX1_passes_67 : decode cX1_passes 67 = .ok (.iconst 0, 1) := by decide +kernel
theorem dX1_passes_68 : decode cX1_passes 68 = .ok (.ireturn, 1) := by decide +kernel
theorem dX1_passes_69 : decode cX1_passes 69 = .ok (.aload_n 1, 1) := by decide +kernel
theorem dX1_passes_70 : decode cX1_passes 70 = .ok (.iload_n 2, 1) := by decide +kernel
theorem dX1_passes_71 : decode cX1_passes 71 = .ok (.iaload, 1) := by decide +kernel
theorem dX1_passes_72 : decode cX1_passes 72 = .ok (.iload_n 3, 1) := by decide +kernel
theorem dX1_passes_73 : decode cX1_passes 73 = .ok (.if_icmp .ne 7, 3) := by decide +kernel
theorem dX1_passes_76 : decode cX1_passes 76 = .ok (.iconst 1, 1) := by decide +kernel
theorem dX1_passes_77 : decode cX1_passes 77 = .ok (.goto 4, 3) := by decide +kernel
theorem dX1_passes_80 : decode cX1_passes 80 = .ok (.iconst 0, 1) := by decide +kernel
theorem dX1_passes_81 : decode cX1_passes 81 = .ok (.ireturn, 1) := by decide +kernel
theorem dX1_passes_82 : decode cX1_passes 82 = .ok (.aload_n 1, 1) := by decide +kernel
theorem dX1_passes_83 : decode cX1_passes 83 = .ok (.iload_n 2, 1) := by decide +kernel
theorem dX1_passes_84 : decode cX1_passes 84 = .ok (.iaload, 1) := by decide +kernel
theorem dX1_passes_85 : decode cX1_passes 85 = .ok (.iload_n 3, 1) := by decide +kernel
theorem dX1_passes_86 : decode cX1_passes 86 = .ok (.if_icmp .le 7, 3) := by decide +kernel
theorem dX1_passes_89 : decode cX1_passes 89 = .ok (.iconst 1, 1) := by decide +kernel
theorem dX1_passes_90 : decode cX1_passes 90 = .ok (.goto 4, 3) := by decide +kernel
theorem dX1_passes_93 : decode cX1_passes 93 = .ok (.iconst 0, 1) := by decide +kernel
theorem dX1_passes_94 : decode cX1_passes 94 = .ok (.ireturn, 1) := by decide +kernel
theorem dX2_init_0 : decode cX2_init 0 = .ok (.aload_n 0, 1) := by decide +kernel
theorem dX2_init_1 : decode cX2_init 1 = .ok (.invokespecial 1, 3) := by decide +kernel
theorem dX2_init_4 : decode cX2_init 4 = .ok (.aload_n 0, 1) := by decide +kernel
theorem dX2_init_5 : decode cX2_init 5 = .ok (.iconst 5, 1) := by decide +kernel
theorem dX2_init_6 : decode cX2_init 6 = .ok (.newarray .int, 2) := by decide +kernel
theorem dX2_init_8 : decode cX2_init 8 = .ok (.putfield 7, 3) := by decide +kernel
theorem dX2_init_11 : decode cX2_init 11 = .ok (.return_, 1) := by decide +kernel
theorem dX2_ask_0 : decode cX2_ask 0 = .ok (.aload_n 0, 1) := by decide +kernel
theorem dX2_ask_1 : decode cX2_ask 1 = .ok (.getfield 7, 3) := by decide +kernel
theorem dX2_ask_4 : decode cX2_ask 4 = .ok (.iconst 0, 1) := by decide +kernel
theorem dX2_ask_5 : decode cX2_ask 5 = .ok (.iload_n 1, 1) := by decide +kernel
theorem dX2_ask_6 : decode cX2_ask 6 = .ok (.iastore, 1) := by decide +kernel
theorem dX2_ask_7 : decode cX2_ask 7 = .ok (.aload_n 0, 1) := by decide +kernel
theorem dX2_ask_8 : decode cX2_ask 8 = .ok (.getfield 7, 3) := by decide +kernel
theorem dX2_ask_11 : decode cX2_ask 11 = .ok (.iconst 1, 1) := by decide +kernel
theorem dX2_ask_12 : decode cX2_ask 12 = .ok (.iload_n 2, 1) := by decide +kernel
theorem dX2_ask_13 : decode cX2_ask 13 = .ok (.iastore, 1) := by decide +kernel
theorem dX2_ask_14 : decode cX2_ask 14 = .ok (.aload_n 0, 1) := by decide +kernel
theorem dX2_ask_15 : decode cX2_ask 15 = .ok (.getfield 7, 3) := by decide +kernel
theorem dX2_ask_18 : decode cX2_ask 18 = .ok (.iconst 2, 1) := by decide +kernel
theorem dX2_ask_19 : decode cX2_ask 19 = .ok (.iload_n 3, 1) := by decide +kernel
theorem dX2_ask_20 : decode cX2_ask 20 = .ok (.iastore, 1) := by decide +kernel
theorem dX2_ask_21 : decode cX2_ask 21 = .ok (.aload_n 0, 1) := by decide +kernel
theorem dX2_ask_22 : decode cX2_ask 22 = .ok (.getfield 7, 3) := by decide +kernel
theorem dX2_ask_25 : decode cX2_ask 25 = .ok (.iconst 3, 1) := by decide +kernel
theorem dX2_ask_26 : decode cX2_ask 26 = .ok (.iload 4, 2) := by decide +kernel
theorem dX2_ask_28 : decode cX2_ask 28 = .ok (.iastore, 1) := by decide +kernel
theorem dX2_ask_29 : decode cX2_ask 29 = .ok (.aload_n 0, 1) := by decide +kernel
theorem dX2_ask_30 : decode cX2_ask 30 = .ok (.getfield 7, 3) := by decide +kernel
theorem dX2_ask_33 : decode cX2_ask 33 = .ok (.iconst 4, 1) := by decide +kernel
theorem dX2_ask_34 : decode cX2_ask 34 = .ok (.iload 5, 2) := by decide +kernel
theorem dX2_ask_36 : decode cX2_ask 36 = .ok (.iastore, 1) := by decide +kernel
theorem dX2_ask_37 : decode cX2_ask 37 = .ok (.return_, 1) := by decide +kernel
theorem dX2_reach_0 : decode cX2_reach 0 = .ok (.aload_n 0, 1) := by decide +kernel
theorem dX2_reach_1 : decode cX2_reach 1 = .ok (.getfield 13, 3) := by decide +kernel
theorem dX2_reach_4 : decode cX2_reach 4 = .ok (.aload_n 0, 1) := by decide +kernel
theorem dX2_reach_5 : decode cX2_reach 5 = .ok (.getfield 17, 3) := by decide +kernel
theorem dX2_reach_8 : decode cX2_reach 8 = .ok (.iadd, 1) := by decide +kernel
theorem dX2_reach_9 : decode cX2_reach 9 = .ok (.ireturn, 1) := by decide +kernel
theorem dX2_holdBetween_0 : decode cX2_holdBetween 0 = .ok (.aload_n 0, 1) := by decide +kernel
theorem dX2_holdBetween_1 : decode cX2_holdBetween 1 = .ok (.invokevirtual 20, 3) := by decide +kernel
theorem dX2_holdBetween_4 : decode cX2_holdBetween 4 = .ok (.istore_n 3, 1) := by decide +kernel
theorem dX2_holdBetween_5 : decode cX2_holdBetween 5 = .ok (.aload_n 0, 1) := by decide +kernel
theorem dX2_holdBetween_6 : decode cX2_holdBetween 6 = .ok (.aload_n 0, 1) := by decide +kernel
theorem dX2_holdBetween_7 : decode cX2_holdBetween 7 = .ok (.getfield 24, 3) := by decide +kernel
theorem dX2_holdBetween_10 : decode cX2_holdBetween 10 = .ok (.ifCond .eq 28, 3) := by decide +kernel
theorem dX2_holdBetween_13 : decode cX2_holdBetween 13 = .ok (.iload_n 3, 1) := by decide +kernel
theorem dX2_holdBetween_14 : decode cX2_holdBetween 14 = .ok (.ifCond .le 24, 3) := by decide +kernel
theorem dX2_holdBetween_17 : decode cX2_holdBetween 17 = .ok (.aload_n 0, 1) := by decide +kernel
theorem dX2_holdBetween_18 : decode cX2_holdBetween 18 = .ok (.getfield 28, 3) := by decide +kernel
theorem dX2_holdBetween_21 : decode cX2_holdBetween 21 = .ok (.aload_n 0, 1) := by decide +kernel
theorem dX2_holdBetween_22 : decode cX2_holdBetween 22 = .ok (.getfield 17, 3) := by decide +kernel
theorem dX2_holdBetween_25 : decode cX2_holdBetween 25 = .ok (.imul, 1) := by decide +kernel
theorem dX2_holdBetween_26 : decode cX2_holdBetween 26 = .ok (.iload_n 2, 1) := by decide +kernel
theorem dX2_holdBetween_27 : decode cX2_holdBetween 27 = .ok (.aload_n 0, 1) := by decide +kernel
theorem dX2_holdBetween_28 : decode cX2_holdBetween 28 = .ok (.getfield 13, 3) := by decide +kernel
theorem dX2_holdBetween_31 : decode cX2_holdBetween 31 = .ok (.imul, 1) := by decide +kernel
theorem dX2_holdBetween_32 : decode cX2_holdBetween 32 = .ok (.iadd, 1) := by decide +kernel
theorem dX2_holdBetween_33 : decode cX2_holdBetween 33 = .ok (.iload_n 3, 1) := by decide +kernel
theorem dX2_holdBetween_34 : decode cX2_holdBetween 34 = .ok (.idiv, 1) := by decide +kernel
theorem dX2_holdBetween_35 : decode cX2_holdBetween 35 = .ok (.goto 7, 3) := by decide +kernel
theorem dX2_holdBetween_38 : decode cX2_holdBetween 38 = .ok (.aload_n 0, 1) := by decide +kernel
theorem dX2_holdBetween_39 : decode cX2_holdBetween 39 = .ok (.getfield 28, 3) := by decide +kernel
theorem dX2_holdBetween_42 : decode cX2_holdBetween 42 = .ok (.putfield 31, 3) := by decide +kernel
theorem dX2_holdBetween_45 : decode cX2_holdBetween 45 = .ok (.aload_n 0, 1) := by decide +kernel
theorem dX2_holdBetween_46 : decode cX2_holdBetween 46 = .ok (.aload_n 0, 1) := by decide +kernel
theorem dX2_holdBetween_47 : decode cX2_holdBetween 47 = .ok (.getfield 31, 3) := by decide +kernel
theorem dX2_holdBetween_50 : decode cX2_holdBetween 50 = .ok (.iload_n 2, 1) := by decide +kernel
theorem dX2_holdBetween_51 : decode cX2_holdBetween 51 = .ok (.isub, 1) := by decide +kernel
theorem dX2_holdBetween_52 : decode cX2_holdBetween 52 = .ok (.invokestatic 34, 3) := by decide +kernel
theorem dX2_holdBetween_55 : decode cX2_holdBetween 55 = .ok (.aload_n 0, 1) := by decide +kernel
theorem dX2_holdBetween_56 : decode cX2_holdBetween 56 = .ok (.getfield 31, 3) := by decide +kernel
theorem dX2_holdBetween_59 : decode cX2_holdBetween 59 = .ok (.iload_n 1, 1) := by decide +kernel
theorem dX2_holdBetween_60 : decode cX2_holdBetween 60 = .ok (.isub, 1) := by decide +kernel
theorem dX2_holdBetween_61 : decode cX2_holdBetween 61 = .ok (.invokestatic 34, 3) := by decide +kernel
theorem dX2_holdBetween_64 : decode cX2_holdBetween 64 = .ok (.if_icmp .ge 7, 3) := by decide +kernel
theorem dX2_holdBetween_67 : decode cX2_holdBetween 67 = .ok (.iconst 1, 1) := by decide +kernel
theorem dX2_holdBetween_68 : decode cX2_holdBetween 68 = .ok (.goto 4, 3) := by decide +kernel
theorem dX2_holdBetween_71 : decode cX2_holdBetween 71 = .ok (.iconst 0, 1) := by decide +kernel
theorem dX2_holdBetween_72 : decode cX2_holdBetween 72 = .ok (.putfield 40, 3) := by decide +kernel
theorem dX2_holdBetween_75 : decode cX2_holdBetween 75 = .ok (.return_, 1) := by decide +kernel
theorem dX3_init_0 : decode cX3_init 0 = .ok (.aload_n 0, 1) := by decide +kernel
theorem dX3_init_1 : decode cX3_init 1 = .ok (.invokespecial 3, 3) := by decide +kernel
theorem dX3_init_4 : decode cX3_init 4 = .ok (.return_, 1) := by decide +kernel
theorem dX3_faultOf_0 : decode cX3_faultOf 0 = .ok (.aload_n 0, 1) := by decide +kernel
theorem dX3_faultOf_1 : decode cX3_faultOf 1 = .ok (.aload_n 1, 1) := by decide +kernel
theorem dX3_faultOf_2 : decode cX3_faultOf 2 = .ok (.putfield 9, 3) := by decide +kernel
theorem dX3_faultOf_5 : decode cX3_faultOf 5 = .ok (.aload_n 0, 1) := by decide +kernel
theorem dX3_faultOf_6 : decode cX3_faultOf 6 = .ok (.iload_n 2, 1) := by decide +kernel
theorem dX3_faultOf_7 : decode cX3_faultOf 7 = .ok (.aload_n 1, 1) := by decide +kernel
theorem dX3_faultOf_8 : decode cX3_faultOf 8 = .ok (.arraylength, 1) := by decide +kernel
theorem dX3_faultOf_9 : decode cX3_faultOf 9 = .ok (.invokestatic 15, 3) := by decide +kernel
theorem dX3_faultOf_12 : decode cX3_faultOf 12 = .ok (.putfield 21, 3) := by decide +kernel
theorem dX3_faultOf_15 : decode cX3_faultOf 15 = .ok (.aload_n 0, 1) := by decide +kernel
theorem dX3_faultOf_16 : decode cX3_faultOf 16 = .ok (.iconst 0, 1) := by decide +kernel
theorem dX3_faultOf_17 : decode cX3_faultOf 17 = .ok (.putfield 25, 3) := by decide +kernel
theorem dX3_faultOf_20 : decode cX3_faultOf 20 = .ok (.aload_n 0, 1) := by decide +kernel
theorem dX3_faultOf_21 : decode cX3_faultOf 21 = .ok (.aload_n 3, 1) := by decide +kernel
theorem dX3_faultOf_22 : decode cX3_faultOf 22 = .ok (.putfield 28, 3) := by decide +kernel
theorem dX3_faultOf_25 : decode cX3_faultOf 25 = .ok (.aload_n 0, 1) := by decide +kernel
theorem dX3_faultOf_26 : decode cX3_faultOf 26 = .ok (.getfield 28, 3) := by decide +kernel
theorem dX3_faultOf_29 : decode cX3_faultOf 29 = .ok (.invokevirtual 32, 3) := by decide +kernel
theorem dX3_faultOf_32 : decode cX3_faultOf 32 = .ok (.iconst 1, 1) := by decide +kernel
theorem dX3_faultOf_33 : decode cX3_faultOf 33 = .ok (.istore 4, 2) := by decide +kernel
theorem dX3_faultOf_35 : decode cX3_faultOf 35 = .ok (.iload 4, 2) := by decide +kernel
theorem dX3_faultOf_37 : decode cX3_faultOf 37 = .ok (.bipush 10, 2) := by decide +kernel
theorem dX3_faultOf_39 : decode cX3_faultOf 39 = .ok (.if_icmp .gt 55, 3) := by decide +kernel
theorem dX3_faultOf_42 : decode cX3_faultOf 42 = .ok (.aload_n 0, 1) := by decide +kernel
theorem dX3_faultOf_43 : decode cX3_faultOf 43 = .ok (.invokevirtual 37, 3) := by decide +kernel
theorem dX3_faultOf_46 : decode cX3_faultOf 46 = .ok (.ifCond .ne 8, 3) := by decide +kernel
theorem dX3_faultOf_49 : decode cX3_faultOf 49 = .ok (.aload_n 0, 1) := by decide +kernel
theorem dX3_faultOf_50 : decode cX3_faultOf 50 = .ok (.getfield 25, 3) := by decide +kernel
theorem dX3_faultOf_53 : decode cX3_faultOf 53 = .ok (.ireturn, 1) := by decide +kernel
theorem dX3_faultOf_54 : decode cX3_faultOf 54 = .ok (.aload_n 0, 1) := by decide +kernel
theorem dX3_faultOf_55 : decode cX3_faultOf 55 = .ok (.getfield 25, 3) := by decide +kernel
theorem dX3_faultOf_58 : decode cX3_faultOf 58 = .ok (.aload_n 0, 1) := by decide +kernel
theorem dX3_faultOf_59 : decode cX3_faultOf 59 = .ok (.getfield 21, 3) := by decide +kernel
theorem dX3_faultOf_62 : decode cX3_faultOf 62 = .ok (.if_icmp .lt 5, 3) := by decide +kernel
theorem dX3_faultOf_65 : decode cX3_faultOf 65 = .ok (.iconst (-1), 1) := by decide +kernel
theorem dX3_faultOf_66 : decode cX3_faultOf 66 = .ok (.ireturn, 1) := by decide +kernel
theorem dX3_faultOf_67 : decode cX3_faultOf 67 = .ok (.iload 4, 2) := by decide +kernel
theorem dX3_faultOf_69 : decode cX3_faultOf 69 = .ok (.bipush 10, 2) := by decide +kernel
theorem dX3_faultOf_71 : decode cX3_faultOf 71 = .ok (.if_icmp .eq 12, 3) := by decide +kernel
theorem dX3_faultOf_74 : decode cX3_faultOf 74 = .ok (.aload_n 0, 1) := by decide +kernel
theorem dX3_faultOf_75 : decode cX3_faultOf 75 = .ok (.bipush 59, 2) := by decide +kernel
theorem dX3_faultOf_77 : decode cX3_faultOf 77 = .ok (.invokevirtual 41, 3) := by decide +kernel
theorem dX3_faultOf_80 : decode cX3_faultOf 80 = .ok (.ifCond .ne 8, 3) := by decide +kernel
theorem dX3_faultOf_83 : decode cX3_faultOf 83 = .ok (.aload_n 0, 1) := by decide +kernel
theorem dX3_faultOf_84 : decode cX3_faultOf 84 = .ok (.getfield 25, 3) := by decide +kernel
theorem dX3_faultOf_87 : decode cX3_faultOf 87 = .ok (.ireturn, 1) := by decide +kernel
theorem dX3_faultOf_88 : decode cX3_faultOf 88 = .ok (.iinc 4 1, 3) := by decide +kernel
theorem dX3_faultOf_91 : decode cX3_faultOf 91 = .ok (.goto (-56), 3) := by decide +kernel
theorem dX3_faultOf_94 : decode cX3_faultOf 94 = .ok (.aload_n 0, 1) := by decide +kernel
theorem dX3_faultOf_95 : decode cX3_faultOf 95 = .ok (.getfield 25, 3) := by decide +kernel
theorem dX3_faultOf_98 : decode cX3_faultOf 98 = .ok (.ireturn, 1) := by decide +kernel
theorem dX3_readClause_0 : decode cX3_readClause 0 = .ok (.aload_n 0, 1) := by decide +kernel
theorem dX3_readClause_1 : decode cX3_readClause 1 = .ok (.invokevirtual 45, 3) := by decide +kernel
theorem dX3_readClause_4 : decode cX3_readClause 4 = .ok (.istore_n 1, 1) := by decide +kernel
theorem dX3_readClause_5 : decode cX3_readClause 5 = .ok (.iload_n 1, 1) := by decide +kernel
theorem dX3_readClause_6 : decode cX3_readClause 6 = .ok (.tableswitch 41 2 4 #[26, 31, 36], 26) := by decide +kernel
theorem dX3_readClause_32 : decode cX3_readClause 32 = .ok (.aload_n 0, 1) := by decide +kernel
theorem dX3_readClause_33 : decode cX3_readClause 33 = .ok (.invokevirtual 49, 3) := by decide +kernel
theorem dX3_readClause_36 : decode cX3_readClause 36 = .ok (.ireturn, 1) := by decide +kernel
theorem dX3_readClause_37 : decode cX3_readClause 37 = .ok (.aload_n 0, 1) := by decide +kernel
theorem dX3_readClause_38 : decode cX3_readClause 38 = .ok (.invokevirtual 52, 3) := by decide +kernel
theorem dX3_readClause_41 : decode cX3_readClause 41 = .ok (.ireturn, 1) := by decide +kernel
theorem dX3_readClause_42 : decode cX3_readClause 42 = .ok (.aload_n 0, 1) := by decide +kernel
theorem dX3_readClause_43 : decode cX3_readClause 43 = .ok (.invokevirtual 55, 3) := by decide +kernel
theorem dX3_readClause_46 : decode cX3_readClause 46 = .ok (.ireturn, 1) := by decide +kernel
theorem dX3_readClause_47 : decode cX3_readClause 47 = .ok (.iload_n 1, 1) := by decide +kernel
theorem dX3_readClause_48 : decode cX3_readClause 48 = .ok (.ifCond .lt 12, 3) := by decide +kernel
theorem dX3_readClause_51 : decode cX3_readClause 51 = .ok (.aload_n 0, 1) := by decide +kernel
theorem dX3_readClause_52 : decode cX3_readClause 52 = .ok (.bipush 32, 2) := by decide +kernel
theorem dX3_readClause_54 : decode cX3_readClause 54 = .ok (.invokevirtual 41, 3) := by decide +kernel
theorem dX3_readClause_57 : decode cX3_readClause 57 = .ok (.ifCond .ne 5, 3) := by decide +kernel
theorem dX3_readClause_60 : decode cX3_readClause 60 = .ok (.iconst 0, 1) := by decide +kernel
theorem dX3_readClause_61 : decode cX3_readClause 61 = .ok (.ireturn, 1) := by decide +kernel
theorem dX3_readClause_62 : decode cX3_readClause 62 = .ok (.aload_n 0, 1) := by decide +kernel
theorem dX3_readClause_63 : decode cX3_readClause 63 = .ok (.invokevirtual 58, 3) := by decide +kernel
theorem dX3_readClause_66 : decode cX3_readClause 66 = .ok (.istore_n 2, 1) := by decide +kernel
theorem dX3_readClause_67 : decode cX3_readClause 67 = .ok (.iload_n 2, 1) := by decide +kernel
theorem dX3_readClause_68 : decode cX3_readClause 68 = .ok (.ifCond .lt 20, 3) := by decide +kernel
theorem dX3_readClause_71 : decode cX3_readClause 71 = .ok (.aload_n 0, 1) := by decide +kernel
theorem dX3_readClause_72 : decode cX3_readClause 72 = .ok (.bipush 32, 2) := by decide +kernel
theorem dX3_readClause_74 : decode cX3_readClause 74 = .ok (.invokevirtual 41, 3) := by decide +kernel
theorem dX3_readClause_77 : decode cX3_readClause 77 = .ok (.ifCond .eq 11, 3) := by decide +kernel
theorem dX3_readClause_80 : decode cX3_readClause 80 = .ok (.aload_n 0, 1) := by decide +kernel
theorem dX3_readClause_81 : decode cX3_readClause 81 = .ok (.iconst 0, 1) := by decide +kernel
theorem dX3_readClause_82 : decode cX3_readClause 82 = .ok (.invokevirtual 61, 3) := by decide +kernel
theorem dX3_readClause_85 : decode cX3_readClause 85 = .ok (.ifCond .ne 5, 3) := by decide +kernel
theorem dX3_readClause_88 : decode cX3_readClause 88 = .ok (.iconst 0, 1) := by decide +kernel
theorem dX3_readClause_89 : decode cX3_readClause 89 = .ok (.ireturn, 1) := by decide +kernel
theorem dX3_readClause_90 : decode cX3_readClause 90 = .ok (.aload_n 0, 1) := by decide +kernel
theorem dX3_readClause_91 : decode cX3_readClause 91 = .ok (.getfield 28, 3) := by decide +kernel
theorem dX3_readClause_94 : decode cX3_readClause 94 = .ok (.iload_n 1, 1) := by decide +kernel
theorem dX3_readClause_95 : decode cX3_readClause 95 = .ok (.iload_n 2, 1) := by decide +kernel
theorem dX3_readClause_96 : decode cX3_readClause 96 = .ok (.invokevirtual 65, 3) := by decide +kernel
theorem dX3_readClause_99 : decode cX3_readClause 99 = .ok (.iconst 1, 1) := by decide +kernel
theorem dX3_readClause_100 : decode cX3_readClause 100 = .ok (.ireturn, 1) := by decide +kernel
theorem dX3_wordOf_0 : decode cX3_wordOf 0 = .ok (.iload_n 0, 1) := by decide +kernel
theorem dX3_wordOf_1 : decode cX3_wordOf 1 = .ok (.tableswitch 43 0 3 #[31, 34, 37, 40], 31) := by decide +kernel
theorem dX3_wordOf_32 : decode cX3_wordOf 32 = .ok (.ldc 69, 2) := by decide +kernel
theorem dX3_wordOf_34 : decode cX3_wordOf 34 = .ok (.areturn, 1) := by decide +kernel
theorem dX3_wordOf_35 : decode cX3_wordOf 35 = .ok (.ldc 71, 2) := by decide +kernel
theorem dX3_wordOf_37 : decode cX3_wordOf 37 = .ok (.areturn, 1) := by decide +kernel
theorem dX3_wordOf_38 : decode cX3_wordOf 38 = .ok (.ldc 73, 2) := by decide +kernel
theorem dX3_wordOf_40 : decode cX3_wordOf 40 = .ok (.areturn, 1) := by decide +kernel
theorem dX3_wordOf_41 : decode cX3_wordOf 41 = .ok (.ldc 75, 2) := by decide +kernel
theorem dX3_wordOf_43 : decode cX3_wordOf 43 = .ok (.areturn, 1) := by decide +kernel
theorem dX3_wordOf_44 : decode cX3_wordOf 44 = .ok (.ldc 77, 2) := by decide +kernel
theorem dX3_wordOf_46 : decode cX3_wordOf 46 = .ok (.areturn, 1) := by decide +kernel
theorem dX3_readWord_0 : decode cX3_readWord 0 = .ok (.iconst 0, 1) := by decide +kernel
theorem dX3_readWord_1 : decode cX3_readWord 1 = .ok (.istore_n 1, 1) := by decide +kernel
theorem dX3_readWord_2 : decode cX3_readWord 2 = .ok (.iconst 0, 1) := by decide +kernel
theorem dX3_readWord_3 : decode cX3_readWord 3 = .ok (.istore_n 2, 1) := by decide +kernel
theorem dX3_readWord_4 : decode cX3_readWord 4 = .ok (.iload_n 2, 1) := by decide +kernel
theorem dX3_readWord_5 : decode cX3_readWord 5 = .ok (.iconst 4, 1) := by decide +kernel
theorem dX3_readWord_6 : decode cX3_readWord 6 = .ok (.if_icmp .gt 50, 3) := by decide +kernel
theorem dX3_readWord_9 : decode cX3_readWord 9 = .ok (.iload_n 2, 1) := by decide +kernel
theorem dX3_readWord_10 : decode cX3_readWord 10 = .ok (.invokestatic 79, 3) := by decide +kernel
theorem dX3_readWord_13 : decode cX3_readWord 13 = .ok (.astore_n 3, 1) := by decide +kernel
theorem dX3_readWord_14 : decode cX3_readWord 14 = .ok (.aload_n 0, 1) := by decide +kernel
theorem dX3_readWord_15 : decode cX3_readWord 15 = .ok (.aload_n 3, 1) := by decide +kernel
theorem dX3_readWord_16 : decode cX3_readWord 16 = .ok (.invokevirtual 83, 3) := by decide +kernel
theorem dX3_readWord_19 : decode cX3_readWord 19 = .ok (.istore 4, 2) := by decide +kernel
theorem dX3_readWord_21 : decode cX3_readWord 21 = .ok (.iload 4, 2) := by decide +kernel
theorem dX3_readWord_23 : decode cX3_readWord 23 = .ok (.aload_n 3, 1) := by decide +kernel
theorem dX3_readWord_24 : decode cX3_readWord 24 = .ok (.invokevirtual 87, 3) := by decide +kernel
theorem dX3_readWord_27 : decode cX3_readWord 27 = .ok (.if_icmp .ne 16, 3) := by decide +kernel
theorem dX3_readWord_30 : decode cX3_readWord 30 = .ok (.aload_n 0, 1) := by decide +kernel
theorem dX3_readWord_31 : decode cX3_readWord 31 = .ok (.dup, 1) := by decide +kernel
theorem dX3_readWord_32 : decode cX3_readWord 32 = .ok (.getfield 25, 3) := by decide +kernel
theorem dX3_readWord_35 : decode cX3_readWord 35 = .ok (.iload 4, 2) := by decide +kernel
theorem dX3_readWord_37 : decode cX3_readWord 37 = .ok (.iadd, 1) := by decide +kernel
theorem dX3_readWord_38 : decode cX3_readWord 38 = .ok (.putfield 25, 3) := by decide +kernel
theorem dX3_readWord_41 : decode cX3_readWord 41 = .ok (.iload_n 2, 1) := by decide +kernel
theorem dX3_readWord_42 : decode cX3_readWord 42 = .ok (.ireturn, 1) := by decide +kernel
theorem dX3_readWord_43 : decode cX3_readWord 43 = .ok (.iload_n 1, 1) := by decide +kernel
theorem dX3_readWord_44 : decode cX3_readWord 44 = .ok (.iload 4, 2) := by decide +kernel
theorem dX3_readWord_46 : decode cX3_readWord 46 = .ok (.invokestatic 91, 3) := by decide +kernel
theorem dX3_readWord_49 : decode cX3_readWord 49 = .ok (.istore_n 1, 1) := by decide +kernel
theorem dX3_readWord_50 : decode cX3_readWord 50 = .ok (.iinc 2 1, 3) := by decide +kernel
theorem dX3_readWord_53 : decode cX3_readWord 53 = .ok (.goto (-49), 3) := by decide +kernel
theorem dX3_readWord_56 : decode cX3_readWord 56 = .ok (.aload_n 0, 1) := by decide +kernel
theorem dX3_readWord_57 : decode cX3_readWord 57 = .ok (.dup, 1) := by decide +kernel
theorem dX3_readWord_58 : decode cX3_readWord 58 = .ok (.getfield 25, 3) := by decide +kernel
theorem dX3_readWord_61 : decode cX3_readWord 61 = .ok (.iload_n 1, 1) := by decide +kernel
theorem dX3_readWord_62 : decode cX3_readWord 62 = .ok (.iadd, 1) := by decide +kernel
theorem dX3_readWord_63 : decode cX3_readWord 63 = .ok (.putfield 25, 3) := by decide +kernel
theorem dX3_readWord_66 : decode cX3_readWord 66 = .ok (.iconst (-1), 1) := by decide +kernel
theorem dX3_readWord_67 : decode cX3_readWord 67 = .ok (.ireturn, 1) := by decide +kernel
theorem dX3_sameAs_0 : decode cX3_sameAs 0 = .ok (.iconst 0, 1) := by decide +kernel
theorem dX3_sameAs_1 : decode cX3_sameAs 1 = .ok (.istore_n 2, 1) := by decide +kernel
theorem dX3_sameAs_2 : decode cX3_sameAs 2 = .ok (.iload_n 2, 1) := by decide +kernel
theorem dX3_sameAs_3 : decode cX3_sameAs 3 = .ok (.aload_n 1, 1) := by decide +kernel
theorem dX3_sameAs_4 : decode cX3_sameAs 4 = .ok (.invokevirtual 87, 3) := by decide +kernel
theorem dX3_sameAs_7 : decode cX3_sameAs 7 = .ok (.if_icmp .ge 43, 3) := by decide +kernel
theorem dX3_sameAs_10 : decode cX3_sameAs 10 = .ok (.aload_n 0, 1) := by decide +kernel
theorem dX3_sameAs_11 : decode cX3_sameAs 11 = .ok (.getfield 25, 3) := by decide +kernel
theorem dX3_sameAs_14 : decode cX3_sameAs 14 = .ok (.iload_n 2, 1) := by decide +kernel
theorem dX3_sameAs_15 : decode cX3_sameAs 15 = .ok (.iadd, 1) := by decide +kernel
theorem dX3_sameAs_16 : decode cX3_sameAs 16 = .ok (.aload_n 0, 1) := by decide +kernel
theorem dX3_sameAs_17 : decode cX3_sameAs 17 = .ok (.getfield 21, 3) := by decide +kernel
theorem dX3_sameAs_20 : decode cX3_sameAs 20 = .ok (.if_icmp .ge 22, 3) := by decide +kernel
theorem dX3_sameAs_23 : decode cX3_sameAs 23 = .ok (.aload_n 0, 1) := by decide +kernel
theorem dX3_sameAs_24 : decode cX3_sameAs 24 = .ok (.getfield 9, 3) := by decide +kernel
theorem dX3_sameAs_27 : decode cX3_sameAs 27 = .ok (.aload_n 0, 1) := by decide +kernel
theorem dX3_sameAs_28 : decode cX3_sameAs 28 = .ok (.getfield 25, 3) := by decide +kernel
theorem dX3_sameAs_31 : decode cX3_sameAs 31 = .ok (.iload_n 2, 1) := by decide +kernel
theorem dX3_sameAs_32 : decode cX3_sameAs 32 = .ok (.iadd, 1) := by decide +kernel
theorem dX3_sameAs_33 : decode cX3_sameAs 33 = .ok (.caload, 1) := by decide +kernel
theorem dX3_sameAs_34 : decode cX3_sameAs 34 = .ok (.aload_n 1, 1) := by decide +kernel
theorem dX3_sameAs_35 : decode cX3_sameAs 35 = .ok (.iload_n 2, 1) := by decide +kernel
theorem dX3_sameAs_36 : decode cX3_sameAs 36 = .ok (.invokevirtual 94, 3) := by decide +kernel
theorem dX3_sameAs_39 : decode cX3_sameAs 39 = .ok (.if_icmp .eq 5, 3) := by decide +kernel
theorem dX3_sameAs_42 : decode cX3_sameAs 42 = .ok (.iload_n 2, 1) := by decide +kernel
theorem dX3_sameAs_43 : decode cX3_sameAs 43 = .ok (.ireturn, 1) := by decide +kernel
theorem dX3_sameAs_44 : decode cX3_sameAs 44 = .ok (.iinc 2 1, 3) := by decide +kernel
theorem dX3_sameAs_47 : decode cX3_sameAs 47 = .ok (.goto (-45), 3) := by decide +kernel
theorem dX3_sameAs_50 : decode cX3_sameAs 50 = .ok (.aload_n 1, 1) := by decide +kernel
theorem dX3_sameAs_51 : decode cX3_sameAs 51 = .ok (.invokevirtual 87, 3) := by decide +kernel
theorem dX3_sameAs_54 : decode cX3_sameAs 54 = .ok (.ireturn, 1) := by decide +kernel
theorem dX3_readLate_0 : decode cX3_readLate 0 = .ok (.aload_n 0, 1) := by decide +kernel
theorem dX3_readLate_1 : decode cX3_readLate 1 = .ok (.bipush 32, 2) := by decide +kernel
theorem dX3_readLate_3 : decode cX3_readLate 3 = .ok (.invokevirtual 41, 3) := by decide +kernel
theorem dX3_readLate_6 : decode cX3_readLate 6 = .ok (.ifCond .ne 5, 3) := by decide +kernel
theorem dX3_readLate_9 : decode cX3_readLate 9 = .ok (.iconst 0, 1) := by decide +kernel
theorem dX3_readLate_10 : decode cX3_readLate 10 = .ok (.ireturn, 1) := by decide +kernel
theorem dX3_readLate_11 : decode cX3_readLate 11 = .ok (.aload_n 0, 1) := by decide +kernel
theorem dX3_readLate_12 : decode cX3_readLate 12 = .ok (.invokevirtual 58, 3) := by decide +kernel
theorem dX3_readLate_15 : decode cX3_readLate 15 = .ok (.istore_n 1, 1) := by decide +kernel
theorem dX3_readLate_16 : decode cX3_readLate 16 = .ok (.iload_n 1, 1) := by decide +kernel
theorem dX3_readLate_17 : decode cX3_readLate 17 = .ok (.ifCond .ge 5, 3) := by decide +kernel
theorem dX3_readLate_20 : decode cX3_readLate 20 = .ok (.iconst 0, 1) := by decide +kernel
theorem dX3_readLate_21 : decode cX3_readLate 21 = .ok (.ireturn, 1) := by decide +kernel
theorem dX3_readLate_22 : decode cX3_readLate 22 = .ok (.aload_n 0, 1) := by decide +kernel
theorem dX3_readLate_23 : decode cX3_readLate 23 = .ok (.getfield 28, 3) := by decide +kernel
theorem dX3_readLate_26 : decode cX3_readLate 26 = .ok (.iload_n 1, 1) := by decide +kernel
theorem dX3_readLate_27 : decode cX3_readLate 27 = .ok (.putfield 98, 3) := by decide +kernel
theorem dX3_readLate_30 : decode cX3_readLate 30 = .ok (.iconst 1, 1) := by decide +kernel
theorem dX3_readLate_31 : decode cX3_readLate 31 = .ok (.ireturn, 1) := by decide +kernel
theorem dX3_readHears_0 : decode cX3_readHears 0 = .ok (.aload_n 0, 1) := by decide +kernel
theorem dX3_readHears_1 : decode cX3_readHears 1 = .ok (.bipush 9, 2) := by decide +kernel
theorem dX3_readHears_3 : decode cX3_readHears 3 = .ok (.invokevirtual 100, 3) := by decide +kernel
theorem dX3_readHears_6 : decode cX3_readHears 6 = .ok (.istore_n 1, 1) := by decide +kernel
theorem dX3_readHears_7 : decode cX3_readHears 7 = .ok (.iload_n 1, 1) := by decide +kernel
theorem dX3_readHears_8 : decode cX3_readHears 8 = .ok (.ifCond .ge 7, 3) := by decide +kernel
theorem dX3_readHears_11 : decode cX3_readHears 11 = .ok (.iconst (-1), 1) := by decide +kernel
theorem dX3_readHears_12 : decode cX3_readHears 12 = .ok (.goto 8, 3) := by decide +kernel
theorem dX3_readHears_15 : decode cX3_readHears 15 = .ok (.aload_n 0, 1) := by decide +kernel
theorem dX3_readHears_16 : decode cX3_readHears 16 = .ok (.iconst 1, 1) := by decide +kernel
theorem dX3_readHears_17 : decode cX3_readHears 17 = .ok (.invokevirtual 100, 3) := by decide +kernel
theorem dX3_readHears_20 : decode cX3_readHears 20 = .ok (.istore_n 2, 1) := by decide +kernel
theorem dX3_readHears_21 : decode cX3_readHears 21 = .ok (.iload_n 2, 1) := by decide +kernel
theorem dX3_readHears_22 : decode cX3_readHears 22 = .ok (.ifCond .ge 7, 3) := by decide +kernel
theorem dX3_readHears_25 : decode cX3_readHears 25 = .ok (.iconst (-1), 1) := by decide +kernel
theorem dX3_readHears_26 : decode cX3_readHears 26 = .ok (.goto 9, 3) := by decide +kernel
theorem dX3_readHears_29 : decode cX3_readHears 29 = .ok (.aload_n 0, 1) := by decide +kernel
theorem dX3_readHears_30 : decode cX3_readHears 30 = .ok (.bipush 9, 2) := by decide +kernel
theorem dX3_readHears_32 : decode cX3_readHears 32 = .ok (.invokevirtual 100, 3) := by decide +kernel
theorem dX3_readHears_35 : decode cX3_readHears 35 = .ok (.istore_n 3, 1) := by decide +kernel
theorem dX3_readHears_36 : decode cX3_readHears 36 = .ok (.iload_n 3, 1) := by decide +kernel
theorem dX3_readHears_37 : decode cX3_readHears 37 = .ok (.ifCond .ge 5, 3) := by decide +kernel
theorem dX3_readHears_40 : decode cX3_readHears 40 = .ok (.iconst 0, 1) := by decide +kernel
theorem dX3_readHears_41 : decode cX3_readHears 41 = .ok (.ireturn, 1) := by decide +kernel
theorem dX3_readHears_42 : decode cX3_readHears 42 = .ok (.aload_n 0, 1) := by decide +kernel
theorem dX3_readHears_43 : decode cX3_readHears 43 = .ok (.getfield 28, 3) := by decide +kernel
theorem dX3_readHears_46 : decode cX3_readHears 46 = .ok (.getfield 104, 3) := by decide +kernel
theorem dX3_readHears_49 : decode cX3_readHears 49 = .ok (.iload_n 2, 1) := by decide +kernel
theorem dX3_readHears_50 : decode cX3_readHears 50 = .ok (.bipush 10, 2) := by decide +kernel
theorem dX3_readHears_52 : decode cX3_readHears 52 = .ok (.imul, 1) := by decide +kernel
theorem dX3_readHears_53 : decode cX3_readHears 53 = .ok (.iload_n 1, 1) := by decide +kernel
theorem dX3_readHears_54 : decode cX3_readHears 54 = .ok (.iadd, 1) := by decide +kernel
theorem dX3_readHears_55 : decode cX3_readHears 55 = .ok (.iload_n 3, 1) := by decide +kernel
theorem dX3_readHears_56 : decode cX3_readHears 56 = .ok (.iastore, 1) := by decide +kernel
theorem dX3_readHears_57 : decode cX3_readHears 57 = .ok (.iconst 1, 1) := by decide +kernel
theorem dX3_readHears_58 : decode cX3_readHears 58 = .ok (.ireturn, 1) := by decide +kernel
theorem dX3_readSwap_0 : decode cX3_readSwap 0 = .ok (.aload_n 0, 1) := by decide +kernel
theorem dX3_readSwap_1 : decode cX3_readSwap 1 = .ok (.bipush 9, 2) := by decide +kernel
theorem dX3_readSwap_3 : decode cX3_readSwap 3 = .ok (.invokevirtual 100, 3) := by decide +kernel
theorem dX3_readSwap_6 : decode cX3_readSwap 6 = .ok (.istore_n 1, 1) := by decide +kernel
theorem dX3_readSwap_7 : decode cX3_readSwap 7 = .ok (.iload_n 1, 1) := by decide +kernel
theorem dX3_readSwap_8 : decode cX3_readSwap 8 = .ok (.ifCond .ge 7, 3) := by decide +kernel
theorem dX3_readSwap_11 : decode cX3_readSwap 11 = .ok (.iconst (-1), 1) := by decide +kernel
theorem dX3_readSwap_12 : decode cX3_readSwap 12 = .ok (.goto 9, 3) := by decide +kernel
theorem dX3_readSwap_15 : decode cX3_readSwap 15 = .ok (.aload_n 0, 1) := by decide +kernel
theorem dX3_readSwap_16 : decode cX3_readSwap 16 = .ok (.bipush 9, 2) := by decide +kernel
theorem dX3_readSwap_18 : decode cX3_readSwap 18 = .ok (.invokevirtual 100, 3) := by decide +kernel
theorem dX3_readSwap_21 : decode cX3_readSwap 21 = .ok (.istore_n 2, 1) := by decide +kernel
theorem dX3_readSwap_22 : decode cX3_readSwap 22 = .ok (.iload_n 2, 1) := by decide +kernel
theorem dX3_readSwap_23 : decode cX3_readSwap 23 = .ok (.ifCond .ge 5, 3) := by decide +kernel
theorem dX3_readSwap_26 : decode cX3_readSwap 26 = .ok (.iconst 0, 1) := by decide +kernel
theorem dX3_readSwap_27 : decode cX3_readSwap 27 = .ok (.ireturn, 1) := by decide +kernel
theorem dX3_readSwap_28 : decode cX3_readSwap 28 = .ok (.aload_n 0, 1) := by decide +kernel
theorem dX3_readSwap_29 : decode cX3_readSwap 29 = .ok (.getfield 28, 3) := by decide +kernel
theorem dX3_readSwap_32 : decode cX3_readSwap 32 = .ok (.getfield 108, 3) := by decide +kernel
theorem dX3_readSwap_35 : decode cX3_readSwap 35 = .ok (.iload_n 1, 1) := by decide +kernel
theorem dX3_readSwap_36 : decode cX3_readSwap 36 = .ok (.iload_n 2, 1) := by decide +kernel
theorem dX3_readSwap_37 : decode cX3_readSwap 37 = .ok (.iastore, 1) := by decide +kernel
theorem dX3_readSwap_38 : decode cX3_readSwap 38 = .ok (.iconst 1, 1) := by decide +kernel
theorem dX3_readSwap_39 : decode cX3_readSwap 39 = .ok (.ireturn, 1) := by decide +kernel
theorem dX3_readAny_0 : decode cX3_readAny 0 = .ok (.aload_n 0, 1) := by decide +kernel
theorem dX3_readAny_1 : decode cX3_readAny 1 = .ok (.iload_n 1, 1) := by decide +kernel
theorem dX3_readAny_2 : decode cX3_readAny 2 = .ok (.invokevirtual 111, 3) := by decide +kernel
theorem dX3_readAny_5 : decode cX3_readAny 5 = .ok (.ifCond .ne 5, 3) := by decide +kernel
theorem dX3_readAny_8 : decode cX3_readAny 8 = .ok (.iconst 0, 1) := by decide +kernel
theorem dX3_readAny_9 : decode cX3_readAny 9 = .ok (.ireturn, 1) := by decide +kernel
theorem dX3_readAny_10 : decode cX3_readAny 10 = .ok (.iconst 0, 1) := by decide +kernel
theorem dX3_readAny_11 : decode cX3_readAny 11 = .ok (.istore_n 2, 1) := by decide +kernel
theorem dX3_readAny_12 : decode cX3_readAny 12 = .ok (.iload_n 2, 1) := by decide +kernel
theorem dX3_readAny_13 : decode cX3_readAny 13 = .ok (.aload_n 0, 1) := by decide +kernel
theorem dX3_readAny_14 : decode cX3_readAny 14 = .ok (.getfield 21, 3) := by decide +kernel
theorem dX3_readAny_17 : decode cX3_readAny 17 = .ok (.if_icmp .ge 36, 3) := by decide +kernel
theorem dX3_readAny_20 : decode cX3_readAny 20 = .ok (.aload_n 0, 1) := by decide +kernel
theorem dX3_readAny_21 : decode cX3_readAny 21 = .ok (.bipush 124, 2) := by decide +kernel
theorem dX3_readAny_23 : decode cX3_readAny 23 = .ok (.invokevirtual 41, 3) := by decide +kernel
theorem dX3_readAny_26 : decode cX3_readAny 26 = .ok (.ifCond .eq 27, 3) := by decide +kernel
theorem dX3_readAny_29 : decode cX3_readAny 29 = .ok (.aload_n 0, 1) := by decide +kernel
theorem dX3_readAny_30 : decode cX3_readAny 30 = .ok (.iload_n 1, 1) := by decide +kernel
theorem dX3_readAny_31 : decode cX3_readAny 31 = .ok (.invokevirtual 111, 3) := by decide +kernel
theorem dX3_readAny_34 : decode cX3_readAny 34 = .ok (.ifCond .ne 5, 3) := by decide +kernel
theorem dX3_readAny_37 : decode cX3_readAny 37 = .ok (.iconst 0, 1) := by decide +kernel
theorem dX3_readAny_38 : decode cX3_readAny 38 = .ok (.ireturn, 1) := by decide +kernel
theorem dX3_readAny_39 : decode cX3_readAny 39 = .ok (.aload_n 0, 1) := by decide +kernel
theorem dX3_readAny_40 : decode cX3_readAny 40 = .ok (.getfield 28, 3) := by decide +kernel
theorem dX3_readAny_43 : decode cX3_readAny 43 = .ok (.iconst 2, 1) := by decide +kernel
theorem dX3_readAny_44 : decode cX3_readAny 44 = .ok (.invokevirtual 114, 3) := by decide +kernel
theorem dX3_readAny_47 : decode cX3_readAny 47 = .ok (.iinc 2 1, 3) := by decide +kernel
theorem dX3_readAny_50 : decode cX3_readAny 50 = .ok (.goto (-38), 3) := by decide +kernel
theorem dX3_readAny_53 : decode cX3_readAny 53 = .ok (.iconst 1, 1) := by decide +kernel
theorem dX3_readAny_54 : decode cX3_readAny 54 = .ok (.ireturn, 1) := by decide +kernel
theorem dX3_readAll_0 : decode cX3_readAll 0 = .ok (.aload_n 0, 1) := by decide +kernel
theorem dX3_readAll_1 : decode cX3_readAll 1 = .ok (.iload_n 1, 1) := by decide +kernel
theorem dX3_readAll_2 : decode cX3_readAll 2 = .ok (.invokevirtual 118, 3) := by decide +kernel
theorem dX3_readAll_5 : decode cX3_readAll 5 = .ok (.ifCond .ne 5, 3) := by decide +kernel
theorem dX3_readAll_8 : decode cX3_readAll 8 = .ok (.iconst 0, 1) := by decide +kernel
theorem dX3_readAll_9 : decode cX3_readAll 9 = .ok (.ireturn, 1) := by decide +kernel
theorem dX3_readAll_10 : decode cX3_readAll 10 = .ok (.iconst 0, 1) := by decide +kernel
theorem dX3_readAll_11 : decode cX3_readAll 11 = .ok (.istore_n 2, 1) := by decide +kernel
theorem dX3_readAll_12 : decode cX3_readAll 12 = .ok (.iload_n 2, 1) := by decide +kernel
theorem dX3_readAll_13 : decode cX3_readAll 13 = .ok (.aload_n 0, 1) := by decide +kernel
theorem dX3_readAll_14 : decode cX3_readAll 14 = .ok (.getfield 21, 3) := by decide +kernel
theorem dX3_readAll_17 : decode cX3_readAll 17 = .ok (.if_icmp .ge 36, 3) := by decide +kernel
theorem dX3_readAll_20 : decode cX3_readAll 20 = .ok (.aload_n 0, 1) := by decide +kernel
theorem dX3_readAll_21 : decode cX3_readAll 21 = .ok (.bipush 38, 2) := by decide +kernel
theorem dX3_readAll_23 : decode cX3_readAll 23 = .ok (.invokevirtual 41, 3) := by decide +kernel
theorem dX3_readAll_26 : decode cX3_readAll 26 = .ok (.ifCond .eq 27, 3) := by decide +kernel
theorem dX3_readAll_29 : decode cX3_readAll 29 = .ok (.aload_n 0, 1) := by decide +kernel
theorem dX3_readAll_30 : decode cX3_readAll 30 = .ok (.iload_n 1, 1) := by decide +kernel
theorem dX3_readAll_31 : decode cX3_readAll 31 = .ok (.invokevirtual 118, 3) := by decide +kernel
theorem dX3_readAll_34 : decode cX3_readAll 34 = .ok (.ifCond .ne 5, 3) := by decide +kernel
theorem dX3_readAll_37 : decode cX3_readAll 37 = .ok (.iconst 0, 1) := by decide +kernel
theorem dX3_readAll_38 : decode cX3_readAll 38 = .ok (.ireturn, 1) := by decide +kernel
theorem dX3_readAll_39 : decode cX3_readAll 39 = .ok (.aload_n 0, 1) := by decide +kernel
theorem dX3_readAll_40 : decode cX3_readAll 40 = .ok (.getfield 28, 3) := by decide +kernel
theorem dX3_readAll_43 : decode cX3_readAll 43 = .ok (.iconst 1, 1) := by decide +kernel
theorem dX3_readAll_44 : decode cX3_readAll 44 = .ok (.invokevirtual 114, 3) := by decide +kernel
theorem dX3_readAll_47 : decode cX3_readAll 47 = .ok (.iinc 2 1, 3) := by decide +kernel
theorem dX3_readAll_50 : decode cX3_readAll 50 = .ok (.goto (-38), 3) := by decide +kernel
theorem dX3_readAll_53 : decode cX3_readAll 53 = .ok (.iconst 1, 1) := by decide +kernel
theorem dX3_readAll_54 : decode cX3_readAll 54 = .ok (.ireturn, 1) := by decide +kernel
theorem dX3_readFactor_0 : decode cX3_readFactor 0 = .ok (.aload_n 0, 1) := by decide +kernel
theorem dX3_readFactor_1 : decode cX3_readFactor 1 = .ok (.getfield 25, 3) := by decide +kernel
theorem dX3_readFactor_4 : decode cX3_readFactor 4 = .ok (.aload_n 0, 1) := by decide +kernel
theorem dX3_readFactor_5 : decode cX3_readFactor 5 = .ok (.getfield 21, 3) := by decide +kernel
theorem dX3_readFactor_8 : decode cX3_readFactor 8 = .ok (.if_icmp .ge 31, 3) := by decide +kernel
theorem dX3_readFactor_11 : decode cX3_readFactor 11 = .ok (.aload_n 0, 1) := by decide +kernel
theorem dX3_readFactor_12 : decode cX3_readFactor 12 = .ok (.getfield 9, 3) := by decide +kernel
theorem dX3_readFactor_15 : decode cX3_readFactor 15 = .ok (.aload_n 0, 1) := by decide +kernel
theorem dX3_readFactor_16 : decode cX3_readFactor 16 = .ok (.getfield 25, 3) := by decide +kernel
theorem dX3_readFactor_19 : decode cX3_readFactor 19 = .ok (.caload, 1) := by decide +kernel
theorem dX3_readFactor_20 : decode cX3_readFactor 20 = .ok (.bipush 40, 2) := by decide +kernel
theorem dX3_readFactor_22 : decode cX3_readFactor 22 = .ok (.if_icmp .eq 22, 3) := by decide +kernel
theorem dX3_readFactor_25 : decode cX3_readFactor 25 = .ok (.aload_n 0, 1) := by decide +kernel
theorem dX3_readFactor_26 : decode cX3_readFactor 26 = .ok (.getfield 9, 3) := by decide +kernel
theorem dX3_readFactor_29 : decode cX3_readFactor 29 = .ok (.aload_n 0, 1) := by decide +kernel
theorem dX3_readFactor_30 : decode cX3_readFactor 30 = .ok (.getfield 25, 3) := by decide +kernel
theorem dX3_readFactor_33 : decode cX3_readFactor 33 = .ok (.caload, 1) := by decide +kernel
theorem dX3_readFactor_34 : decode cX3_readFactor 34 = .ok (.bipush 33, 2) := by decide +kernel
theorem dX3_readFactor_36 : decode cX3_readFactor 36 = .ok (.if_icmp .eq 8, 3) := by decide +kernel
theorem dX3_readFactor_39 : decode cX3_readFactor 39 = .ok (.aload_n 0, 1) := by decide +kernel
theorem dX3_readFactor_40 : decode cX3_readFactor 40 = .ok (.invokevirtual 121, 3) := by decide +kernel
theorem dX3_readFactor_43 : decode cX3_readFactor 43 = .ok (.ireturn, 1) := by decide +kernel
theorem dX3_readFactor_44 : decode cX3_readFactor 44 = .ok (.iload_n 1, 1) := by decide +kernel
theorem dX3_readFactor_45 : decode cX3_readFactor 45 = .ok (.iconst 4, 1) := by decide +kernel
theorem dX3_readFactor_46 : decode cX3_readFactor 46 = .ok (.if_icmp .lt 5, 3) := by decide +kernel
theorem dX3_readFactor_49 : decode cX3_readFactor 49 = .ok (.iconst 0, 1) := by decide +kernel
theorem dX3_readFactor_50 : decode cX3_readFactor 50 = .ok (.ireturn, 1) := by decide +kernel
theorem dX3_readFactor_51 : decode cX3_readFactor 51 = .ok (.aload_n 0, 1) := by decide +kernel
theorem dX3_readFactor_52 : decode cX3_readFactor 52 = .ok (.bipush 40, 2) := by decide +kernel
theorem dX3_readFactor_54 : decode cX3_readFactor 54 = .ok (.invokevirtual 41, 3) := by decide +kernel
theorem dX3_readFactor_57 : decode cX3_readFactor 57 = .ok (.ifCond .eq 28, 3) := by decide +kernel
theorem dX3_readFactor_60 : decode cX3_readFactor 60 = .ok (.aload_n 0, 1) := by decide +kernel
theorem dX3_readFactor_61 : decode cX3_readFactor 61 = .ok (.iload_n 1, 1) := by decide +kernel
theorem dX3_readFactor_62 : decode cX3_readFactor 62 = .ok (.iconst 1, 1) := by decide +kernel
theorem dX3_readFactor_63 : decode cX3_readFactor 63 = .ok (.iadd, 1) := by decide +kernel
theorem dX3_readFactor_64 : decode cX3_readFactor 64 = .ok (.invokevirtual 61, 3) := by decide +kernel
theorem dX3_readFactor_67 : decode cX3_readFactor 67 = .ok (.ifCond .eq 16, 3) := by decide +kernel
theorem dX3_readFactor_70 : decode cX3_readFactor 70 = .ok (.aload_n 0, 1) := by decide +kernel
theorem dX3_readFactor_71 : decode cX3_readFactor 71 = .ok (.bipush 41, 2) := by decide +kernel
theorem dX3_readFactor_73 : decode cX3_readFactor 73 = .ok (.invokevirtual 41, 3) := by decide +kernel
theorem dX3_readFactor_76 : decode cX3_readFactor 76 = .ok (.ifCond .eq 7, 3) := by decide +kernel
theorem dX3_readFactor_79 : decode cX3_readFactor 79 = .ok (.iconst 1, 1) := by decide +kernel
theorem dX3_readFactor_80 : decode cX3_readFactor 80 = .ok (.goto 4, 3) := by decide +kernel
theorem dX3_readFactor_83 : decode cX3_readFactor 83 = .ok (.iconst 0, 1) := by decide +kernel
theorem dX3_readFactor_84 : decode cX3_readFactor 84 = .ok (.ireturn, 1) := by decide +kernel
theorem dX3_readFactor_85 : decode cX3_readFactor 85 = .ok (.aload_n 0, 1) := by decide +kernel
theorem dX3_readFactor_86 : decode cX3_readFactor 86 = .ok (.dup, 1) := by decide +kernel
theorem dX3_readFactor_87 : decode cX3_readFactor 87 = .ok (.getfield 25, 3) := by decide +kernel
theorem dX3_readFactor_90 : decode cX3_readFactor 90 = .ok (.iconst 1, 1) := by decide +kernel
theorem dX3_readFactor_91 : decode cX3_readFactor 91 = .ok (.iadd, 1) := by decide +kernel
theorem dX3_readFactor_92 : decode cX3_readFactor 92 = .ok (.putfield 25, 3) := by decide +kernel
theorem dX3_readFactor_95 : decode cX3_readFactor 95 = .ok (.aload_n 0, 1) := by decide +kernel
theorem dX3_readFactor_96 : decode cX3_readFactor 96 = .ok (.iload_n 1, 1) := by decide +kernel
theorem dX3_readFactor_97 : decode cX3_readFactor 97 = .ok (.iconst 1, 1) := by decide +kernel
theorem dX3_readFactor_98 : decode cX3_readFactor 98 = .ok (.iadd, 1) := by decide +kernel
theorem dX3_readFactor_99 : decode cX3_readFactor 99 = .ok (.invokevirtual 118, 3) := by decide +kernel
theorem dX3_readFactor_102 : decode cX3_readFactor 102 = .ok (.ifCond .ne 5, 3) := by decide +kernel
theorem dX3_readFactor_105 : decode cX3_readFactor 105 = .ok (.iconst 0, 1) := by decide +kernel
theorem dX3_readFactor_106 : decode cX3_readFactor 106 = .ok (.ireturn, 1) := by decide +kernel
theorem dX3_readFactor_107 : decode cX3_readFactor 107 = .ok (.aload_n 0, 1) := by decide +kernel
theorem dX3_readFactor_108 : decode cX3_readFactor 108 = .ok (.getfield 28, 3) := by decide +kernel
theorem dX3_readFactor_111 : decode cX3_readFactor 111 = .ok (.iconst 0, 1) := by decide +kernel
theorem dX3_readFactor_112 : decode cX3_readFactor 112 = .ok (.invokevirtual 114, 3) := by decide +kernel
theorem dX3_readFactor_115 : decode cX3_readFactor 115 = .ok (.iconst 1, 1) := by decide +kernel
theorem dX3_readFactor_116 : decode cX3_readFactor 116 = .ok (.ireturn, 1) := by decide +kernel
theorem dX3_readTest_0 : decode cX3_readTest 0 = .ok (.aload_n 0, 1) := by decide +kernel
theorem dX3_readTest_1 : decode cX3_readTest 1 = .ok (.ldc 124, 2) := by decide +kernel
theorem dX3_readTest_3 : decode cX3_readTest 3 = .ok (.invokevirtual 126, 3) := by decide +kernel
theorem dX3_readTest_6 : decode cX3_readTest 6 = .ok (.istore_n 1, 1) := by decide +kernel
theorem dX3_readTest_7 : decode cX3_readTest 7 = .ok (.iload_n 1, 1) := by decide +kernel
theorem dX3_readTest_8 : decode cX3_readTest 8 = .ok (.ifCond .ge 7, 3) := by decide +kernel
theorem dX3_readTest_11 : decode cX3_readTest 11 = .ok (.iconst (-1), 1) := by decide +kernel
theorem dX3_readTest_12 : decode cX3_readTest 12 = .ok (.goto 9, 3) := by decide +kernel
theorem dX3_readTest_15 : decode cX3_readTest 15 = .ok (.aload_n 0, 1) := by decide +kernel
theorem dX3_readTest_16 : decode cX3_readTest 16 = .ok (.ldc 129, 2) := by decide +kernel
theorem dX3_readTest_18 : decode cX3_readTest 18 = .ok (.invokevirtual 126, 3) := by decide +kernel
theorem dX3_readTest_21 : decode cX3_readTest 21 = .ok (.istore_n 2, 1) := by decide +kernel
theorem dX3_readTest_22 : decode cX3_readTest 22 = .ok (.iload_n 2, 1) := by decide +kernel
theorem dX3_readTest_23 : decode cX3_readTest 23 = .ok (.ifCond .ge 7, 3) := by decide +kernel
theorem dX3_readTest_26 : decode cX3_readTest 26 = .ok (.iconst (-1), 1) := by decide +kernel
theorem dX3_readTest_27 : decode cX3_readTest 27 = .ok (.goto 7, 3) := by decide +kernel
theorem dX3_readTest_30 : decode cX3_readTest 30 = .ok (.aload_n 0, 1) := by decide +kernel
theorem dX3_readTest_31 : decode cX3_readTest 31 = .ok (.invokevirtual 58, 3) := by decide +kernel
theorem dX3_readTest_34 : decode cX3_readTest 34 = .ok (.istore_n 3, 1) := by decide +kernel
theorem dX3_readTest_35 : decode cX3_readTest 35 = .ok (.iload_n 3, 1) := by decide +kernel
theorem dX3_readTest_36 : decode cX3_readTest 36 = .ok (.ifCond .ge 5, 3) := by decide +kernel
theorem dX3_readTest_39 : decode cX3_readTest 39 = .ok (.iconst 0, 1) := by decide +kernel
theorem dX3_readTest_40 : decode cX3_readTest 40 = .ok (.ireturn, 1) := by decide +kernel
theorem dX3_readTest_41 : decode cX3_readTest 41 = .ok (.aload_n 0, 1) := by decide +kernel
theorem dX3_readTest_42 : decode cX3_readTest 42 = .ok (.getfield 28, 3) := by decide +kernel
theorem dX3_readTest_45 : decode cX3_readTest 45 = .ok (.iload_n 1, 1) := by decide +kernel
theorem dX3_readTest_46 : decode cX3_readTest 46 = .ok (.iload_n 2, 1) := by decide +kernel
theorem dX3_readTest_47 : decode cX3_readTest 47 = .ok (.iload_n 3, 1) := by decide +kernel
theorem dX3_readTest_48 : decode cX3_readTest 48 = .ok (.invokestatic 131, 3) := by decide +kernel
theorem dX3_readTest_51 : decode cX3_readTest 51 = .ok (.invokevirtual 114, 3) := by decide +kernel
theorem dX3_readTest_54 : decode cX3_readTest 54 = .ok (.iconst 1, 1) := by decide +kernel
theorem dX3_readTest_55 : decode cX3_readTest 55 = .ok (.ireturn, 1) := by decide +kernel
theorem dX3_skip_0 : decode cX3_skip 0 = .ok (.aload_n 0, 1) := by decide +kernel
theorem dX3_skip_1 : decode cX3_skip 1 = .ok (.getfield 25, 3) := by decide +kernel
theorem dX3_skip_4 : decode cX3_skip 4 = .ok (.aload_n 0, 1) := by decide +kernel
theorem dX3_skip_5 : decode cX3_skip 5 = .ok (.getfield 21, 3) := by decide +kernel
theorem dX3_skip_8 : decode cX3_skip 8 = .ok (.if_icmp .ge 16, 3) := by decide +kernel
theorem dX3_skip_11 : decode cX3_skip 11 = .ok (.aload_n 0, 1) := by decide +kernel
theorem dX3_skip_12 : decode cX3_skip 12 = .ok (.getfield 9, 3) := by decide +kernel
theorem dX3_skip_15 : decode cX3_skip 15 = .ok (.aload_n 0, 1) := by decide +kernel
theorem dX3_skip_16 : decode cX3_skip 16 = .ok (.getfield 25, 3) := by decide +kernel
theorem dX3_skip_19 : decode cX3_skip 19 = .ok (.caload, 1) := by decide +kernel
theorem dX3_skip_20 : decode cX3_skip 20 = .ok (.iload_n 1, 1) := by decide +kernel
theorem dX3_skip_21 : decode cX3_skip 21 = .ok (.if_icmp .eq 5, 3) := by decide +kernel
theorem dX3_skip_24 : decode cX3_skip 24 = .ok (.iconst 0, 1) := by decide +kernel
theorem dX3_skip_25 : decode cX3_skip 25 = .ok (.ireturn, 1) := by decide +kernel
theorem dX3_skip_26 : decode cX3_skip 26 = .ok (.aload_n 0, 1) := by decide +kernel
theorem dX3_skip_27 : decode cX3_skip 27 = .ok (.dup, 1) := by decide +kernel
theorem dX3_skip_28 : decode cX3_skip 28 = .ok (.getfield 25, 3) := by decide +kernel
theorem dX3_skip_31 : decode cX3_skip 31 = .ok (.iconst 1, 1) := by decide +kernel
theorem dX3_skip_32 : decode cX3_skip 32 = .ok (.iadd, 1) := by decide +kernel
theorem dX3_skip_33 : decode cX3_skip 33 = .ok (.putfield 25, 3) := by decide +kernel
theorem dX3_skip_36 : decode cX3_skip 36 = .ok (.iconst 1, 1) := by decide +kernel
theorem dX3_skip_37 : decode cX3_skip 37 = .ok (.ireturn, 1) := by decide +kernel
theorem dX3_readOneOf_0 : decode cX3_readOneOf 0 = .ok (.aload_n 0, 1) := by decide +kernel
theorem dX3_readOneOf_1 : decode cX3_readOneOf 1 = .ok (.getfield 25, 3) := by decide +kernel
theorem dX3_readOneOf_4 : decode cX3_readOneOf 4 = .ok (.aload_n 0, 1) := by decide +kernel
theorem dX3_readOneOf_5 : decode cX3_readOneOf 5 = .ok (.getfield 21, 3) := by decide +kernel
theorem dX3_readOneOf_8 : decode cX3_readOneOf 8 = .ok (.if_icmp .lt 7, 3) := by decide +kernel
theorem dX3_readOneOf_11 : decode cX3_readOneOf 11 = .ok (.iconst (-1), 1) := by decide +kernel
theorem dX3_readOneOf_12 : decode cX3_readOneOf 12 = .ok (.goto 16, 3) := by decide +kernel
theorem dX3_readOneOf_15 : decode cX3_readOneOf 15 = .ok (.aload_n 1, 1) := by decide +kernel
theorem dX3_readOneOf_16 : decode cX3_readOneOf 16 = .ok (.aload_n 0, 1) := by decide +kernel
theorem dX3_readOneOf_17 : decode cX3_readOneOf 17 = .ok (.getfield 9, 3) := by decide +kernel
theorem dX3_readOneOf_20 : decode cX3_readOneOf 20 = .ok (.aload_n 0, 1) := by decide +kernel
theorem dX3_readOneOf_21 : decode cX3_readOneOf 21 = .ok (.getfield 25, 3) := by decide +kernel
theorem dX3_readOneOf_24 : decode cX3_readOneOf 24 = .ok (.caload, 1) := by decide +kernel
theorem dX3_readOneOf_25 : decode cX3_readOneOf 25 = .ok (.invokevirtual 135, 3) := by decide +kernel
theorem dX3_readOneOf_28 : decode cX3_readOneOf 28 = .ok (.istore_n 2, 1) := by decide +kernel
theorem dX3_readOneOf_29 : decode cX3_readOneOf 29 = .ok (.iload_n 2, 1) := by decide +kernel
theorem dX3_readOneOf_30 : decode cX3_readOneOf 30 = .ok (.ifCond .lt 13, 3) := by decide +kernel
theorem dX3_readOneOf_33 : decode cX3_readOneOf 33 = .ok (.aload_n 0, 1) := by decide +kernel
theorem dX3_readOneOf_34 : decode cX3_readOneOf 34 = .ok (.dup, 1) := by decide +kernel
theorem dX3_readOneOf_35 : decode cX3_readOneOf 35 = .ok (.getfield 25, 3) := by decide +kernel
theorem dX3_readOneOf_38 : decode cX3_readOneOf 38 = .ok (.iconst 1, 1) := by decide +kernel
theorem dX3_readOneOf_39 : decode cX3_readOneOf 39 = .ok (.iadd, 1) := by decide +kernel
theorem dX3_readOneOf_40 : decode cX3_readOneOf 40 = .ok (.putfield 25, 3) := by decide +kernel
theorem dX3_readOneOf_43 : decode cX3_readOneOf 43 = .ok (.iload_n 2, 1) := by decide +kernel
theorem dX3_readOneOf_44 : decode cX3_readOneOf 44 = .ok (.ireturn, 1) := by decide +kernel
theorem dX3_readFigure_0 : decode cX3_readFigure 0 = .ok (.aload_n 0, 1) := by decide +kernel
theorem dX3_readFigure_1 : decode cX3_readFigure 1 = .ok (.getfield 25, 3) := by decide +kernel
theorem dX3_readFigure_4 : decode cX3_readFigure 4 = .ok (.aload_n 0, 1) := by decide +kernel
theorem dX3_readFigure_5 : decode cX3_readFigure 5 = .ok (.getfield 21, 3) := by decide +kernel
theorem dX3_readFigure_8 : decode cX3_readFigure 8 = .ok (.if_icmp .ge 33, 3) := by decide +kernel
theorem dX3_readFigure_11 : decode cX3_readFigure 11 = .ok (.aload_n 0, 1) := by decide +kernel
theorem dX3_readFigure_12 : decode cX3_readFigure 12 = .ok (.getfield 9, 3) := by decide +kernel
theorem dX3_readFigure_15 : decode cX3_readFigure 15 = .ok (.aload_n 0, 1) := by decide +kernel
theorem dX3_readFigure_16 : decode cX3_readFigure 16 = .ok (.getfield 25, 3) := by decide +kernel
theorem dX3_readFigure_19 : decode cX3_readFigure 19 = .ok (.caload, 1) := by decide +kernel
theorem dX3_readFigure_20 : decode cX3_readFigure 20 = .ok (.bipush 48, 2) := by decide +kernel
theorem dX3_readFigure_22 : decode cX3_readFigure 22 = .ok (.if_icmp .lt 19, 3) := by decide +kernel
theorem dX3_readFigure_25 : decode cX3_readFigure 25 = .ok (.aload_n 0, 1) := by decide +kernel
theorem dX3_readFigure_26 : decode cX3_readFigure 26 = .ok (.getfield 9, 3) := by decide +kernel
theorem dX3_readFigure_29 : decode cX3_readFigure 29 = .ok (.aload_n 0, 1) := by decide +kernel
theorem dX3_readFigure_30 : decode cX3_readFigure 30 = .ok (.getfield 25, 3) := by decide +kernel
theorem dX3_readFigure_33 : decode cX3_readFigure 33 = .ok (.caload, 1) := by decide +kernel
theorem dX3_readFigure_34 : decode cX3_readFigure 34 = .ok (.bipush 48, 2) := by decide +kernel
theorem dX3_readFigure_36 : decode cX3_readFigure 36 = .ok (.iload_n 1, 1) := by decide +kernel
theorem dX3_readFigure_37 : decode cX3_readFigure 37 = .ok (.iadd, 1) := by decide +kernel
theorem dX3_readFigure_38 : decode cX3_readFigure 38 = .ok (.if_icmp .le 5, 3) := by decide +kernel
theorem dX3_readFigure_41 : decode cX3_readFigure 41 = .ok (.iconst (-1), 1) := by decide +kernel
theorem dX3_readFigure_42 : decode cX3_readFigure 42 = .ok (.ireturn, 1) := by decide +kernel
theorem dX3_readFigure_43 : decode cX3_readFigure 43 = .ok (.aload_n 0, 1) := by decide +kernel
theorem dX3_readFigure_44 : decode cX3_readFigure 44 = .ok (.dup, 1) := by decide +kernel
theorem dX3_readFigure_45 : decode cX3_readFigure 45 = .ok (.getfield 25, 3) := by decide +kernel
theorem dX3_readFigure_48 : decode cX3_readFigure 48 = .ok (.iconst 1, 1) := by decide +kernel
theorem dX3_readFigure_49 : decode cX3_readFigure 49 = .ok (.iadd, 1) := by decide +kernel
theorem dX3_readFigure_50 : decode cX3_readFigure 50 = .ok (.putfield 25, 3) := by decide +kernel
theorem dX3_readFigure_53 : decode cX3_readFigure 53 = .ok (.aload_n 0, 1) := by decide +kernel
theorem dX3_readFigure_54 : decode cX3_readFigure 54 = .ok (.getfield 9, 3) := by decide +kernel
theorem dX3_readFigure_57 : decode cX3_readFigure 57 = .ok (.aload_n 0, 1) := by decide +kernel
theorem dX3_readFigure_58 : decode cX3_readFigure 58 = .ok (.getfield 25, 3) := by decide +kernel
theorem dX3_readFigure_61 : decode cX3_readFigure 61 = .ok (.iconst 1, 1) := by decide +kernel
theorem dX3_readFigure_62 : decode cX3_readFigure 62 = .ok (.isub, 1) := by decide +kernel
theorem dX3_readFigure_63 : decode cX3_readFigure 63 = .ok (.caload, 1) := by decide +kernel
theorem dX3_readFigure_64 : decode cX3_readFigure 64 = .ok (.bipush 48, 2) := by decide +kernel
theorem dX3_readFigure_66 : decode cX3_readFigure 66 = .ok (.isub, 1) := by decide +kernel
theorem dX3_readFigure_67 : decode cX3_readFigure 67 = .ok (.ireturn, 1) := by decide +kernel
theorem dX3_readPart_0 : decode cX3_readPart 0 = .ok (.aload_n 0, 1) := by decide +kernel
theorem dX3_readPart_1 : decode cX3_readPart 1 = .ok (.bipush 32, 2) := by decide +kernel
theorem dX3_readPart_3 : decode cX3_readPart 3 = .ok (.invokevirtual 41, 3) := by decide +kernel
theorem dX3_readPart_6 : decode cX3_readPart 6 = .ok (.ifCond .eq 11, 3) := by decide +kernel
theorem dX3_readPart_9 : decode cX3_readPart 9 = .ok (.aload_n 0, 1) := by decide +kernel
theorem dX3_readPart_10 : decode cX3_readPart 10 = .ok (.iload_n 1, 1) := by decide +kernel
theorem dX3_readPart_11 : decode cX3_readPart 11 = .ok (.invokevirtual 138, 3) := by decide +kernel
theorem dX3_readPart_14 : decode cX3_readPart 14 = .ok (.goto 4, 3) := by decide +kernel
theorem dX3_readPart_17 : decode cX3_readPart 17 = .ok (.iconst (-1), 1) := by decide +kernel
theorem dX3_readPart_18 : decode cX3_readPart 18 = .ok (.ireturn, 1) := by decide +kernel
theorem dX3_readNumber_0 : decode cX3_readNumber 0 = .ok (.iconst 0, 1) := by decide +kernel
theorem dX3_readNumber_1 : decode cX3_readNumber 1 = .ok (.istore_n 1, 1) := by decide +kernel
theorem dX3_readNumber_2 : decode cX3_readNumber 2 = .ok (.iconst 0, 1) := by decide +kernel
theorem dX3_readNumber_3 : decode cX3_readNumber 3 = .ok (.istore_n 2, 1) := by decide +kernel
theorem dX3_readNumber_4 : decode cX3_readNumber 4 = .ok (.iload_n 2, 1) := by decide +kernel
theorem dX3_readNumber_5 : decode cX3_readNumber 5 = .ok (.iconst 2, 1) := by decide +kernel
theorem dX3_readNumber_6 : decode cX3_readNumber 6 = .ok (.if_icmp .ge 76, 3) := by decide +kernel
theorem dX3_readNumber_9 : decode cX3_readNumber 9 = .ok (.aload_n 0, 1) := by decide +kernel
theorem dX3_readNumber_10 : decode cX3_readNumber 10 = .ok (.getfield 25, 3) := by decide +kernel
theorem dX3_readNumber_13 : decode cX3_readNumber 13 = .ok (.aload_n 0, 1) := by decide +kernel
theorem dX3_readNumber_14 : decode cX3_readNumber 14 = .ok (.getfield 21, 3) := by decide +kernel
theorem dX3_readNumber_17 : decode cX3_readNumber 17 = .ok (.if_icmp .ge 65, 3) := by decide +kernel
theorem dX3_readNumber_20 : decode cX3_readNumber 20 = .ok (.aload_n 0, 1) := by decide +kernel
theorem dX3_readNumber_21 : decode cX3_readNumber 21 = .ok (.getfield 9, 3) := by decide +kernel
theorem dX3_readNumber_24 : decode cX3_readNumber 24 = .ok (.aload_n 0, 1) := by decide +kernel
theorem dX3_readNumber_25 : decode cX3_readNumber 25 = .ok (.getfield 25, 3) := by decide +kernel
theorem dX3_readNumber_28 : decode cX3_readNumber 28 = .ok (.caload, 1) := by decide +kernel
theorem dX3_readNumber_29 : decode cX3_readNumber 29 = .ok (.bipush 48, 2) := by decide +kernel
theorem dX3_readNumber_31 : decode cX3_readNumber 31 = .ok (.if_icmp .lt 51, 3) := by decide +kernel
theorem dX3_readNumber_34 : decode cX3_readNumber 34 = .ok (.aload_n 0, 1) := by decide +kernel
theorem dX3_readNumber_35 : decode cX3_readNumber 35 = .ok (.getfield 9, 3) := by decide +kernel
theorem dX3_readNumber_38 : decode cX3_readNumber 38 = .ok (.aload_n 0, 1) := by decide +kernel
theorem dX3_readNumber_39 : decode cX3_readNumber 39 = .ok (.getfield 25, 3) := by decide +kernel
theorem dX3_readNumber_42 : decode cX3_readNumber 42 = .ok (.caload, 1) := by decide +kernel
theorem dX3_readNumber_43 : decode cX3_readNumber 43 = .ok (.bipush 57, 2) := by decide +kernel
theorem dX3_readNumber_45 : decode cX3_readNumber 45 = .ok (.if_icmp .gt 37, 3) := by decide +kernel
theorem dX3_readNumber_48 : decode cX3_readNumber 48 = .ok (.bipush 10, 2) := by decide +kernel
theorem dX3_readNumber_50 : decode cX3_readNumber 50 = .ok (.iload_n 1, 1) := by decide +kernel
theorem dX3_readNumber_51 : decode cX3_readNumber 51 = .ok (.imul, 1) := by decide +kernel
theorem dX3_readNumber_52 : decode cX3_readNumber 52 = .ok (.aload_n 0, 1) := by decide +kernel
theorem dX3_readNumber_53 : decode cX3_readNumber 53 = .ok (.getfield 9, 3) := by decide +kernel
theorem dX3_readNumber_56 : decode cX3_readNumber 56 = .ok (.aload_n 0, 1) := by decide +kernel
theorem dX3_readNumber_57 : decode cX3_readNumber 57 = .ok (.getfield 25, 3) := by decide +kernel
theorem dX3_readNumber_60 : decode cX3_readNumber 60 = .ok (.caload, 1) := by decide +kernel
theorem dX3_readNumber_61 : decode cX3_readNumber 61 = .ok (.iadd, 1) := by decide +kernel
theorem dX3_readNumber_62 : decode cX3_readNumber 62 = .ok (.bipush 48, 2) := by decide +kernel
theorem dX3_readNumber_64 : decode cX3_readNumber 64 = .ok (.isub, 1) := by decide +kernel
theorem dX3_readNumber_65 : decode cX3_readNumber 65 = .ok (.istore_n 1, 1) := by decide +kernel
theorem dX3_readNumber_66 : decode cX3_readNumber 66 = .ok (.aload_n 0, 1) := by decide +kernel
theorem dX3_readNumber_67 : decode cX3_readNumber 67 = .ok (.dup, 1) := by decide +kernel
theorem dX3_readNumber_68 : decode cX3_readNumber 68 = .ok (.getfield 25, 3) := by decide +kernel
theorem dX3_readNumber_71 : decode cX3_readNumber 71 = .ok (.iconst 1, 1) := by decide +kernel
theorem dX3_readNumber_72 : decode cX3_readNumber 72 = .ok (.iadd, 1) := by decide +kernel
theorem dX3_readNumber_73 : decode cX3_readNumber 73 = .ok (.putfield 25, 3) := by decide +kernel
theorem dX3_readNumber_76 : decode cX3_readNumber 76 = .ok (.iinc 2 1, 3) := by decide +kernel
theorem dX3_readNumber_79 : decode cX3_readNumber 79 = .ok (.goto (-75), 3) := by decide +kernel
theorem dX3_readNumber_82 : decode cX3_readNumber 82 = .ok (.iload_n 2, 1) := by decide +kernel
theorem dX3_readNumber_83 : decode cX3_readNumber 83 = .ok (.ifCond .ne 7, 3) := by decide +kernel
theorem dX3_readNumber_86 : decode cX3_readNumber 86 = .ok (.iconst (-1), 1) := by decide +kernel
theorem dX3_readNumber_87 : decode cX3_readNumber 87 = .ok (.goto 4, 3) := by decide +kernel
theorem dX3_readNumber_90 : decode cX3_readNumber 90 = .ok (.iload_n 1, 1) := by decide +kernel
theorem dX3_readNumber_91 : decode cX3_readNumber 91 = .ok (.ireturn, 1) := by decide +kernel
theorem dX4_init_0 : decode cX4_init 0 = .ok (.aload_n 0, 1) := by decide +kernel
theorem dX4_init_1 : decode cX4_init 1 = .ok (.invokespecial 3, 3) := by decide +kernel
theorem dX4_init_4 : decode cX4_init 4 = .ok (.aload_n 0, 1) := by decide +kernel
theorem dX4_init_5 : decode cX4_init 5 = .ok (.bipush 20, 2) := by decide +kernel
theorem dX4_init_7 : decode cX4_init 7 = .ok (.putfield 9, 3) := by decide +kernel
theorem dX4_init_10 : decode cX4_init 10 = .ok (.aload_n 0, 1) := by decide +kernel
theorem dX4_init_11 : decode cX4_init 11 = .ok (.bipush 26, 2) := by decide +kernel
theorem dX4_init_13 : decode cX4_init 13 = .ok (.putfield 15, 3) := by decide +kernel
theorem dX4_init_16 : decode cX4_init 16 = .ok (.aload_n 0, 1) := by decide +kernel
theorem dX4_init_17 : decode cX4_init 17 = .ok (.bipush 20, 2) := by decide +kernel
theorem dX4_init_19 : decode cX4_init 19 = .ok (.newarray .int, 2) := by decide +kernel
theorem dX4_init_21 : decode cX4_init 21 = .ok (.putfield 18, 3) := by decide +kernel
theorem dX4_init_24 : decode cX4_init 24 = .ok (.return_, 1) := by decide +kernel
theorem dX4_become_0 : decode cX4_become 0 = .ok (.aload_n 0, 1) := by decide +kernel
theorem dX4_become_1 : decode cX4_become 1 = .ok (.aload_n 1, 1) := by decide +kernel
theorem dX4_become_2 : decode cX4_become 2 = .ok (.getfield 9, 3) := by decide +kernel
theorem dX4_become_5 : decode cX4_become 5 = .ok (.putfield 9, 3) := by decide +kernel
theorem dX4_become_8 : decode cX4_become 8 = .ok (.aload_n 0, 1) := by decide +kernel
theorem dX4_become_9 : decode cX4_become 9 = .ok (.aload_n 1, 1) := by decide +kernel
theorem dX4_become_10 : decode cX4_become 10 = .ok (.getfield 15, 3) := by decide +kernel
theorem dX4_become_13 : decode cX4_become 13 = .ok (.putfield 15, 3) := by decide +kernel
theorem dX4_become_16 : decode cX4_become 16 = .ok (.aload_n 0, 1) := by decide +kernel
theorem dX4_become_17 : decode cX4_become 17 = .ok (.aload_n 1, 1) := by decide +kernel
theorem dX4_become_18 : decode cX4_become 18 = .ok (.getfield 22, 3) := by decide +kernel
theorem dX4_become_21 : decode cX4_become 21 = .ok (.putfield 22, 3) := by decide +kernel
theorem dX4_become_24 : decode cX4_become 24 = .ok (.aload_n 1, 1) := by decide +kernel
theorem dX4_become_25 : decode cX4_become 25 = .ok (.getfield 18, 3) := by decide +kernel
theorem dX4_become_28 : decode cX4_become 28 = .ok (.iconst 0, 1) := by decide +kernel
theorem dX4_become_29 : decode cX4_become 29 = .ok (.aload_n 0, 1) := by decide +kernel
theorem dX4_become_30 : decode cX4_become 30 = .ok (.getfield 18, 3) := by decide +kernel
theorem dX4_become_33 : decode cX4_become 33 = .ok (.iconst 0, 1) := by decide +kernel
theorem dX4_become_34 : decode cX4_become 34 = .ok (.bipush 20, 2) := by decide +kernel
theorem dX4_become_36 : decode cX4_become 36 = .ok (.invokestatic 26, 3) := by decide +kernel
theorem dX4_become_39 : decode cX4_become 39 = .ok (.aload_n 0, 1) := by decide +kernel
theorem dX4_become_40 : decode cX4_become 40 = .ok (.aload_n 1, 1) := by decide +kernel
theorem dX4_become_41 : decode cX4_become 41 = .ok (.getfield 32, 3) := by decide +kernel
theorem dX4_become_44 : decode cX4_become 44 = .ok (.putfield 32, 3) := by decide +kernel
theorem dX4_become_47 : decode cX4_become 47 = .ok (.aload_n 0, 1) := by decide +kernel
theorem dX4_become_48 : decode cX4_become 48 = .ok (.aload_n 1, 1) := by decide +kernel
theorem dX4_become_49 : decode cX4_become 49 = .ok (.getfield 35, 3) := by decide +kernel
theorem dX4_become_52 : decode cX4_become 52 = .ok (.putfield 35, 3) := by decide +kernel
theorem dX4_become_55 : decode cX4_become 55 = .ok (.aload_n 0, 1) := by decide +kernel
theorem dX4_become_56 : decode cX4_become 56 = .ok (.aload_n 1, 1) := by decide +kernel
theorem dX4_become_57 : decode cX4_become 57 = .ok (.getfield 38, 3) := by decide +kernel
theorem dX4_become_60 : decode cX4_become 60 = .ok (.putfield 38, 3) := by decide +kernel
theorem dX4_become_63 : decode cX4_become 63 = .ok (.return_, 1) := by decide +kernel
theorem dX4_tenthsSaidIn_0 : decode cX4_tenthsSaidIn 0 = .ok (.iconst 2, 1) := by decide +kernel
theorem dX4_tenthsSaidIn_1 : decode cX4_tenthsSaidIn 1 = .ok (.aload_n 0, 1) := by decide +kernel
theorem dX4_tenthsSaidIn_2 : decode cX4_tenthsSaidIn 2 = .ok (.getfield 32, 3) := by decide +kernel
theorem dX4_tenthsSaidIn_5 : decode cX4_tenthsSaidIn 5 = .ok (.imul, 1) := by decide +kernel
theorem dX4_tenthsSaidIn_6 : decode cX4_tenthsSaidIn 6 = .ok (.ireturn, 1) := by decide +kernel
theorem dX4_letterIn_0 : decode cX4_letterIn 0 = .ok (.iload_n 1, 1) := by decide +kernel
theorem dX4_letterIn_1 : decode cX4_letterIn 1 = .ok (.aload_n 0, 1) := by decide +kernel
theorem dX4_letterIn_2 : decode cX4_letterIn 2 = .ok (.invokevirtual 41, 3) := by decide +kernel
theorem dX4_letterIn_5 : decode cX4_letterIn 5 = .ok (.if_icmp .ge 14, 3) := by decide +kernel
theorem dX4_letterIn_8 : decode cX4_letterIn 8 = .ok (.aload_n 0, 1) := by decide +kernel
theorem dX4_letterIn_9 : decode cX4_letterIn 9 = .ok (.getfield 18, 3) := by decide +kernel
theorem dX4_letterIn_12 : decode cX4_letterIn 12 = .ok (.iload_n 1, 1) := by decide +kernel
theorem dX4_letterIn_13 : decode cX4_letterIn 13 = .ok (.iconst 2, 1) := by decide +kernel
theorem dX4_letterIn_14 : decode cX4_letterIn 14 = .ok (.idiv, 1) := by decide +kernel
theorem dX4_letterIn_15 : decode cX4_letterIn 15 = .ok (.iaload, 1) := by decide +kernel
theorem dX4_letterIn_16 : decode cX4_letterIn 16 = .ok (.goto 5, 3) := by decide +kernel
theorem dX4_letterIn_19 : decode cX4_letterIn 19 = .ok (.bipush 99, 2) := by decide +kernel
theorem dX4_letterIn_21 : decode cX4_letterIn 21 = .ok (.ireturn, 1) := by decide +kernel
theorem dX5_init_0 : decode cX5_init 0 = .ok (.aload_n 0, 1) := by decide +kernel
theorem dX5_init_1 : decode cX5_init 1 = .ok (.invokespecial 3, 3) := by decide +kernel
theorem dX5_init_4 : decode cX5_init 4 = .ok (.aload_n 0, 1) := by decide +kernel
theorem dX5_init_5 : decode cX5_init 5 = .ok (.iconst (-1), 1) := by decide +kernel
theorem dX5_init_6 : decode cX5_init 6 = .ok (.putfield 11, 3) := by decide +kernel
theorem dX5_init_9 : decode cX5_init 9 = .ok (.aload_n 0, 1) := by decide +kernel
theorem dX5_init_10 : decode cX5_init 10 = .ok (.bipush 60, 2) := by decide +kernel
theorem dX5_init_12 : decode cX5_init 12 = .ok (.newarray .long, 2) := by decide +kernel
theorem dX5_init_14 : decode cX5_init 14 = .ok (.putfield 15, 3) := by decide +kernel
theorem dX5_init_17 : decode cX5_init 17 = .ok (.return_, 1) := by decide +kernel
theorem dX5_lay_0 : decode cX5_lay 0 = .ok (.aload_n 0, 1) := by decide +kernel
theorem dX5_lay_1 : decode cX5_lay 1 = .ok (.iload_n 1, 1) := by decide +kernel
theorem dX5_lay_2 : decode cX5_lay 2 = .ok (.putfield 11, 3) := by decide +kernel
theorem dX5_lay_5 : decode cX5_lay 5 = .ok (.aload_n 0, 1) := by decide +kernel
theorem dX5_lay_6 : decode cX5_lay 6 = .ok (.iload_n 2, 1) := by decide +kernel
theorem dX5_lay_7 : decode cX5_lay 7 = .ok (.putfield 19, 3) := by decide +kernel
theorem dX5_lay_10 : decode cX5_lay 10 = .ok (.iconst 0, 1) := by decide +kernel
theorem dX5_lay_11 : decode cX5_lay 11 = .ok (.istore_n 3, 1) := by decide +kernel
theorem dX5_lay_12 : decode cX5_lay 12 = .ok (.iload_n 3, 1) := by decide +kernel
theorem dX5_lay_13 : decode cX5_lay 13 = .ok (.bipush 60, 2) := by decide +kernel
theorem dX5_lay_15 : decode cX5_lay 15 = .ok (.if_icmp .ge 16, 3) := by decide +kernel
theorem dX5_lay_18 : decode cX5_lay 18 = .ok (.aload_n 0, 1) := by decide +kernel
theorem dX5_lay_19 : decode cX5_lay 19 = .ok (.getfield 15, 3) := by decide +kernel
theorem dX5_lay_22 : decode cX5_lay 22 = .ok (.iload_n 3, 1) := by decide +kernel
theorem dX5_lay_23 : decode cX5_lay 23 = .ok (.lconst 0, 1) := by decide +kernel
theorem dX5_lay_24 : decode cX5_lay 24 = .ok (.lastore, 1) := by decide +kernel
theorem dX5_lay_25 : decode cX5_lay 25 = .ok (.iinc 3 1, 3) := by decide +kernel
theorem dX5_lay_28 : decode cX5_lay 28 = .ok (.goto (-16), 3) := by decide +kernel
theorem dX5_lay_31 : decode cX5_lay 31 = .ok (.return_, 1) := by decide +kernel
theorem dX5_isRow_0 : decode cX5_isRow 0 = .ok (.aload_n 0, 1) := by decide +kernel
theorem dX5_isRow_1 : decode cX5_isRow 1 = .ok (.getfield 11, 3) := by decide +kernel
theorem dX5_isRow_4 : decode cX5_isRow 4 = .ok (.iconst (-1), 1) := by decide +kernel
theorem dX5_isRow_5 : decode cX5_isRow 5 = .ok (.if_icmp .eq 7, 3) := by decide +kernel
theorem dX5_isRow_8 : decode cX5_isRow 8 = .ok (.iconst 1, 1) := by decide +kernel
theorem dX5_isRow_9 : decode cX5_isRow 9 = .ok (.goto 4, 3) := by decide +kernel
theorem dX5_isRow_12 : decode cX5_isRow 12 = .ok (.iconst 0, 1) := by decide +kernel
theorem dX5_isRow_13 : decode cX5_isRow 13 = .ok (.ireturn, 1) := by decide +kernel
theorem dX5_has_0 : decode cX5_has 0 = .ok (.iload_n 1, 1) := by decide +kernel
theorem dX5_has_1 : decode cX5_has 1 = .ok (.ifCond .lt 15, 3) := by decide +kernel
theorem dX5_has_4 : decode cX5_has 4 = .ok (.iload_n 1, 1) := by decide +kernel
theorem dX5_has_5 : decode cX5_has 5 = .ok (.aload_n 0, 1) := by decide +kernel
theorem dX5_has_6 : decode cX5_has 6 = .ok (.getfield 19, 3) := by decide +kernel
theorem dX5_has_9 : decode cX5_has 9 = .ok (.if_icmp .ge 7, 3) := by decide +kernel
theorem dX5_has_12 : decode cX5_has 12 = .ok (.iconst 1, 1) := by decide +kernel
theorem dX5_has_13 : decode cX5_has 13 = .ok (.goto 4, 3) := by decide +kernel
theorem dX5_has_16 : decode cX5_has 16 = .ok (.iconst 0, 1) := by decide +kernel
theorem dX5_has_17 : decode cX5_has 17 = .ok (.ireturn, 1) := by decide +kernel
theorem dX5_hasRun_0 : decode cX5_hasRun 0 = .ok (.iload_n 1, 1) := by decide +kernel
theorem dX5_hasRun_1 : decode cX5_hasRun 1 = .ok (.ifCond .lt 21, 3) := by decide +kernel
theorem dX5_hasRun_4 : decode cX5_hasRun 4 = .ok (.iload_n 2, 1) := by decide +kernel
theorem dX5_hasRun_5 : decode cX5_hasRun 5 = .ok (.ifCond .lt 17, 3) := by decide +kernel
theorem dX5_hasRun_8 : decode cX5_hasRun 8 = .ok (.iload_n 2, 1) := by decide +kernel
theorem dX5_hasRun_9 : decode cX5_hasRun 9 = .ok (.aload_n 0, 1) := by decide +kernel
theorem dX5_hasRun_10 : decode cX5_hasRun 10 = .ok (.getfield 19, 3) := by decide +kernel
theorem dX5_hasRun_13 : decode cX5_hasRun 13 = .ok (.iload_n 1, 1) := by decide +kernel
theorem dX5_hasRun_14 : decode cX5_hasRun 14 = .ok (.isub, 1) := by decide +kernel
theorem dX5_hasRun_15 : decode cX5_hasRun 15 = .ok (.if_icmp .gt 7, 3) := by decide +kernel
theorem dX5_hasRun_18 : decode cX5_hasRun 18 = .ok (.iconst 1, 1) := by decide +kernel
theorem dX5_hasRun_19 : decode cX5_hasRun 19 = .ok (.goto 4, 3) := by decide +kernel
theorem dX5_hasRun_22 : decode cX5_hasRun 22 = .ok (.iconst 0, 1) := by decide +kernel
theorem dX5_hasRun_23 : decode cX5_hasRun 23 = .ok (.ireturn, 1) := by decide +kernel
theorem dX5_put_0 : decode cX5_put 0 = .ok (.aload_n 0, 1) := by decide +kernel
theorem dX5_put_1 : decode cX5_put 1 = .ok (.getfield 11, 3) := by decide +kernel
theorem dX5_put_4 : decode cX5_put 4 = .ok (.tableswitch 80 0 3 #[32, 45, 58, 70], 32) := by decide +kernel
theorem dX5_put_36 : decode cX5_put 36 = .ok (.aload_n 0, 1) := by decide +kernel
theorem dX5_put_37 : decode cX5_put 37 = .ok (.getfield 15, 3) := by decide +kernel
theorem dX5_put_40 : decode cX5_put 40 = .ok (.iload_n 1, 1) := by decide +kernel
theorem dX5_put_41 : decode cX5_put 41 = .ok (.lload_n 2, 1) := by decide +kernel
theorem dX5_put_42 : decode cX5_put 42 = .ok (.l2i, 1) := by decide +kernel
theorem dX5_put_43 : decode cX5_put 43 = .ok (.i2b, 1) := by decide +kernel
theorem dX5_put_44 : decode cX5_put 44 = .ok (.i2l, 1) := by decide +kernel
theorem dX5_put_45 : decode cX5_put 45 = .ok (.lastore, 1) := by decide +kernel
theorem dX5_put_46 : decode cX5_put 46 = .ok (.goto 55, 3) := by decide +kernel
theorem dX5_put_49 : decode cX5_put 49 = .ok (.aload_n 0, 1) := by decide +kernel
theorem dX5_put_50 : decode cX5_put 50 = .ok (.getfield 15, 3) := by decide +kernel
theorem dX5_put_53 : decode cX5_put 53 = .ok (.iload_n 1, 1) := by decide +kernel
theorem dX5_put_54 : decode cX5_put 54 = .ok (.lload_n 2, 1) := by decide +kernel
theorem dX5_put_55 : decode cX5_put 55 = .ok (.l2i, 1) := by decide +kernel
theorem dX5_put_56 : decode cX5_put 56 = .ok (.i2s, 1) := by decide +kernel
theorem dX5_put_57 : decode cX5_put 57 = .ok (.i2l, 1) := by decide +kernel
theorem dX5_put_58 : decode cX5_put 58 = .ok (.lastore, 1) := by decide +kernel
theorem dX5_put_59 : decode cX5_put 59 = .ok (.goto 42, 3) := by decide +kernel
theorem dX5_put_62 : decode cX5_put 62 = .ok (.aload_n 0, 1) := by decide +kernel
theorem dX5_put_63 : decode cX5_put 63 = .ok (.getfield 15, 3) := by decide +kernel
theorem dX5_put_66 : decode cX5_put 66 = .ok (.iload_n 1, 1) := by decide +kernel
theorem dX5_put_67 : decode cX5_put 67 = .ok (.lload_n 2, 1) := by decide +kernel
theorem dX5_put_68 : decode cX5_put 68 = .ok (.l2i, 1) := by decide +kernel
theorem dX5_put_69 : decode cX5_put 69 = .ok (.i2l, 1) := by decide +kernel
theorem dX5_put_70 : decode cX5_put 70 = .ok (.lastore, 1) := by decide +kernel
theorem dX5_put_71 : decode cX5_put 71 = .ok (.goto 30, 3) := by decide +kernel
theorem dX5_put_74 : decode cX5_put 74 = .ok (.aload_n 0, 1) := by decide +kernel
theorem dX5_put_75 : decode cX5_put 75 = .ok (.getfield 15, 3) := by decide +kernel
theorem dX5_put_78 : decode cX5_put 78 = .ok (.iload_n 1, 1) := by decide +kernel
theorem dX5_put_79 : decode cX5_put 79 = .ok (.lload_n 2, 1) := by decide +kernel
theorem dX5_put_80 : decode cX5_put 80 = .ok (.lastore, 1) := by decide +kernel
theorem dX5_put_81 : decode cX5_put 81 = .ok (.goto 20, 3) := by decide +kernel
theorem dX5_put_84 : decode cX5_put 84 = .ok (.aload_n 0, 1) := by decide +kernel
theorem dX5_put_85 : decode cX5_put 85 = .ok (.getfield 15, 3) := by decide +kernel
theorem dX5_put_88 : decode cX5_put 88 = .ok (.iload_n 1, 1) := by decide +kernel
theorem dX5_put_89 : decode cX5_put 89 = .ok (.lload_n 2, 1) := by decide +kernel
theorem dX5_put_90 : decode cX5_put 90 = .ok (.lconst 0, 1) := by decide +kernel
theorem dX5_put_91 : decode cX5_put 91 = .ok (.lcmp, 1) := by decide +kernel
theorem dX5_put_92 : decode cX5_put 92 = .ok (.ifCond .eq 7, 3) := by decide +kernel
theorem dX5_put_95 : decode cX5_put 95 = .ok (.lconst 1, 1) := by decide +kernel
theorem dX5_put_96 : decode cX5_put 96 = .ok (.goto 4, 3) := by decide +kernel
theorem dX5_put_99 : decode cX5_put 99 = .ok (.lconst 0, 1) := by decide +kernel
theorem dX5_put_100 : decode cX5_put 100 = .ok (.lastore, 1) := by decide +kernel
theorem dX5_put_101 : decode cX5_put 101 = .ok (.return_, 1) := by decide +kernel
theorem dX6_init_0 : decode cX6_init 0 = .ok (.aload_n 0, 1) := by decide +kernel
theorem dX6_init_1 : decode cX6_init 1 = .ok (.invokespecial 3, 3) := by decide +kernel
theorem dX6_init_4 : decode cX6_init 4 = .ok (.aload_n 0, 1) := by decide +kernel
theorem dX6_init_5 : decode cX6_init 5 = .ok (.iload_n 1, 1) := by decide +kernel
theorem dX6_init_6 : decode cX6_init 6 = .ok (.putfield 9, 3) := by decide +kernel
theorem dX6_init_9 : decode cX6_init 9 = .ok (.aload_n 0, 1) := by decide +kernel
theorem dX6_init_10 : decode cX6_init 10 = .ok (.iload_n 2, 1) := by decide +kernel
theorem dX6_init_11 : decode cX6_init 11 = .ok (.putfield 15, 3) := by decide +kernel
theorem dX6_init_14 : decode cX6_init 14 = .ok (.aload_n 0, 1) := by decide +kernel
theorem dX6_init_15 : decode cX6_init 15 = .ok (.iload_n 3, 1) := by decide +kernel
theorem dX6_init_16 : decode cX6_init 16 = .ok (.putfield 18, 3) := by decide +kernel
theorem dX6_init_19 : decode cX6_init 19 = .ok (.return_, 1) := by decide +kernel
theorem dX6_isOf_0 : decode cX6_isOf 0 = .ok (.aload_n 0, 1) := by decide +kernel
theorem dX6_isOf_1 : decode cX6_isOf 1 = .ok (.getfield 15, 3) := by decide +kernel
theorem dX6_isOf_4 : decode cX6_isOf 4 = .ok (.istore_n 2, 1) := by decide +kernel
theorem dX6_isOf_5 : decode cX6_isOf 5 = .ok (.iconst 0, 1) := by decide +kernel
theorem dX6_isOf_6 : decode cX6_isOf 6 = .ok (.istore_n 3, 1) := by decide +kernel
theorem dX6_isOf_7 : decode cX6_isOf 7 = .ok (.iload_n 3, 1) := by decide +kernel
theorem dX6_isOf_8 : decode cX6_isOf 8 = .ok (.getstatic 21, 3) := by decide +kernel
theorem dX6_isOf_11 : decode cX6_isOf 11 = .ok (.arraylength, 1) := by decide +kernel
theorem dX6_isOf_12 : decode cX6_isOf 12 = .ok (.if_icmp .ge 26, 3) := by decide +kernel
theorem dX6_isOf_15 : decode cX6_isOf 15 = .ok (.iload_n 2, 1) := by decide +kernel
theorem dX6_isOf_16 : decode cX6_isOf 16 = .ok (.ifCond .lt 22, 3) := by decide +kernel
theorem dX6_isOf_19 : decode cX6_isOf 19 = .ok (.iload_n 2, 1) := by decide +kernel
theorem dX6_isOf_20 : decode cX6_isOf 20 = .ok (.iload_n 1, 1) := by decide +kernel
theorem dX6_isOf_21 : decode cX6_isOf 21 = .ok (.if_icmp .ne 5, 3) := by decide +kernel
theorem dX6_isOf_24 : decode cX6_isOf 24 = .ok (.iconst 1, 1) := by decide +kernel
theorem dX6_isOf_25 : decode cX6_isOf 25 = .ok (.ireturn, 1) := by decide +kernel
theorem dX6_isOf_26 : decode cX6_isOf 26 = .ok (.getstatic 21, 3) := by decide +kernel
theorem dX6_isOf_29 : decode cX6_isOf 29 = .ok (.iload_n 2, 1) := by decide +kernel
theorem dX6_isOf_30 : decode cX6_isOf 30 = .ok (.iaload, 1) := by decide +kernel
theorem dX6_isOf_31 : decode cX6_isOf 31 = .ok (.istore_n 2, 1) := by decide +kernel
theorem dX6_isOf_32 : decode cX6_isOf 32 = .ok (.iinc 3 1, 3) := by decide +kernel
theorem dX6_isOf_35 : decode cX6_isOf 35 = .ok (.goto (-28), 3) := by decide +kernel
theorem dX6_isOf_38 : decode cX6_isOf 38 = .ok (.iconst 0, 1) := by decide +kernel
theorem dX6_isOf_39 : decode cX6_isOf 39 = .ok (.ireturn, 1) := by decide +kernel
theorem dX6_soundsAt_0 : decode cX6_soundsAt 0 = .ok (.aload_n 0, 1) := by decide +kernel
theorem dX6_soundsAt_1 : decode cX6_soundsAt 1 = .ok (.iconst 1, 1) := by decide +kernel
theorem dX6_soundsAt_2 : decode cX6_soundsAt 2 = .ok (.invokevirtual 25, 3) := by decide +kernel
theorem dX6_soundsAt_5 : decode cX6_soundsAt 5 = .ok (.ifCond .eq 32, 3) := by decide +kernel
theorem dX6_soundsAt_8 : decode cX6_soundsAt 8 = .ok (.iload_n 2, 1) := by decide +kernel
theorem dX6_soundsAt_9 : decode cX6_soundsAt 9 = .ok (.iload_n 1, 1) := by decide +kernel
theorem dX6_soundsAt_10 : decode cX6_soundsAt 10 = .ok (.if_icmp .ge 16, 3) := by decide +kernel
theorem dX6_soundsAt_13 : decode cX6_soundsAt 13 = .ok (.iload_n 2, 1) := by decide +kernel
theorem dX6_soundsAt_14 : decode cX6_soundsAt 14 = .ok (.iload_n 1, 1) := by decide +kernel
theorem dX6_soundsAt_15 : decode cX6_soundsAt 15 = .ok (.aload_n 0, 1) := by decide +kernel
theorem dX6_soundsAt_16 : decode cX6_soundsAt 16 = .ok (.getfield 18, 3) := by decide +kernel
theorem dX6_soundsAt_19 : decode cX6_soundsAt 19 = .ok (.isub, 1) := by decide +kernel
theorem dX6_soundsAt_20 : decode cX6_soundsAt 20 = .ok (.invokestatic 29, 3) := by decide +kernel
theorem dX6_soundsAt_23 : decode cX6_soundsAt 23 = .ok (.goto 13, 3) := by decide +kernel
theorem dX6_soundsAt_26 : decode cX6_soundsAt 26 = .ok (.iload_n 2, 1) := by decide +kernel
theorem dX6_soundsAt_27 : decode cX6_soundsAt 27 = .ok (.iload_n 1, 1) := by decide +kernel
theorem dX6_soundsAt_28 : decode cX6_soundsAt 28 = .ok (.aload_n 0, 1) := by decide +kernel
theorem dX6_soundsAt_29 : decode cX6_soundsAt 29 = .ok (.getfield 18, 3) := by decide +kernel
theorem dX6_soundsAt_32 : decode cX6_soundsAt 32 = .ok (.iadd, 1) := by decide +kernel
theorem dX6_soundsAt_33 : decode cX6_soundsAt 33 = .ok (.invokestatic 35, 3) := by decide +kernel
theorem dX6_soundsAt_36 : decode cX6_soundsAt 36 = .ok (.ireturn, 1) := by decide +kernel
theorem dX6_soundsAt_37 : decode cX6_soundsAt 37 = .ok (.aload_n 0, 1) := by decide +kernel
theorem dX6_soundsAt_38 : decode cX6_soundsAt 38 = .ok (.iconst 3, 1) := by decide +kernel
theorem dX6_soundsAt_39 : decode cX6_soundsAt 39 = .ok (.invokevirtual 25, 3) := by decide +kernel
theorem dX6_soundsAt_42 : decode cX6_soundsAt 42 = .ok (.ifCond .eq 33, 3) := by decide +kernel
theorem dX6_soundsAt_45 : decode cX6_soundsAt 45 = .ok (.iload_n 2, 1) := by decide +kernel
theorem dX6_soundsAt_46 : decode cX6_soundsAt 46 = .ok (.iload_n 1, 1) := by decide +kernel
theorem dX6_soundsAt_47 : decode cX6_soundsAt 47 = .ok (.if_icmp .le 16, 3) := by decide +kernel
theorem dX6_soundsAt_50 : decode cX6_soundsAt 50 = .ok (.iconst 0, 1) := by decide +kernel
theorem dX6_soundsAt_51 : decode cX6_soundsAt 51 = .ok (.iload_n 1, 1) := by decide +kernel
theorem dX6_soundsAt_52 : decode cX6_soundsAt 52 = .ok (.aload_n 0, 1) := by decide +kernel
theorem dX6_soundsAt_53 : decode cX6_soundsAt 53 = .ok (.getfield 18, 3) := by decide +kernel
theorem dX6_soundsAt_56 : decode cX6_soundsAt 56 = .ok (.isub, 1) := by decide +kernel
theorem dX6_soundsAt_57 : decode cX6_soundsAt 57 = .ok (.invokestatic 29, 3) := by decide +kernel
theorem dX6_soundsAt_60 : decode cX6_soundsAt 60 = .ok (.goto 14, 3) := by decide +kernel
theorem dX6_soundsAt_63 : decode cX6_soundsAt 63 = .ok (.bipush 40, 2) := by decide +kernel
theorem dX6_soundsAt_65 : decode cX6_soundsAt 65 = .ok (.iload_n 1, 1) := by decide +kernel
theorem dX6_soundsAt_66 : decode cX6_soundsAt 66 = .ok (.aload_n 0, 1) := by decide +kernel
theorem dX6_soundsAt_67 : decode cX6_soundsAt 67 = .ok (.getfield 18, 3) := by decide +kernel
theorem dX6_soundsAt_70 : decode cX6_soundsAt 70 = .ok (.iadd, 1) := by decide +kernel
theorem dX6_soundsAt_71 : decode cX6_soundsAt 71 = .ok (.invokestatic 35, 3) := by decide +kernel
theorem dX6_soundsAt_74 : decode cX6_soundsAt 74 = .ok (.ireturn, 1) := by decide +kernel
theorem dX6_soundsAt_75 : decode cX6_soundsAt 75 = .ok (.iload_n 1, 1) := by decide +kernel
theorem dX6_soundsAt_76 : decode cX6_soundsAt 76 = .ok (.ireturn, 1) := by decide +kernel
theorem dX6_earOf_0 : decode cX6_earOf 0 = .ok (.aload_n 0, 1) := by decide +kernel
theorem dX6_earOf_1 : decode cX6_earOf 1 = .ok (.iconst 2, 1) := by decide +kernel
theorem dX6_earOf_2 : decode cX6_earOf 2 = .ok (.invokevirtual 25, 3) := by decide +kernel
theorem dX6_earOf_5 : decode cX6_earOf 5 = .ok (.ifCond .eq 10, 3) := by decide +kernel
theorem dX6_earOf_8 : decode cX6_earOf 8 = .ok (.iload_n 1, 1) := by decide +kernel
theorem dX6_earOf_9 : decode cX6_earOf 9 = .ok (.aload_n 0, 1) := by decide +kernel
theorem dX6_earOf_10 : decode cX6_earOf 10 = .ok (.getfield 18, 3) := by decide +kernel
theorem dX6_earOf_13 : decode cX6_earOf 13 = .ok (.iadd, 1) := by decide +kernel
theorem dX6_earOf_14 : decode cX6_earOf 14 = .ok (.ireturn, 1) := by decide +kernel
theorem dX6_earOf_15 : decode cX6_earOf 15 = .ok (.aload_n 0, 1) := by decide +kernel
theorem dX6_earOf_16 : decode cX6_earOf 16 = .ok (.iconst 3, 1) := by decide +kernel
theorem dX6_earOf_17 : decode cX6_earOf 17 = .ok (.invokevirtual 25, 3) := by decide +kernel
theorem dX6_earOf_20 : decode cX6_earOf 20 = .ok (.ifCond .eq 9, 3) := by decide +kernel
theorem dX6_earOf_23 : decode cX6_earOf 23 = .ok (.iconst 2, 1) := by decide +kernel
theorem dX6_earOf_24 : decode cX6_earOf 24 = .ok (.iload_n 1, 1) := by decide +kernel
theorem dX6_earOf_25 : decode cX6_earOf 25 = .ok (.imul, 1) := by decide +kernel
theorem dX6_earOf_26 : decode cX6_earOf 26 = .ok (.goto 4, 3) := by decide +kernel
theorem dX6_earOf_29 : decode cX6_earOf 29 = .ok (.iload_n 1, 1) := by decide +kernel
theorem dX6_earOf_30 : decode cX6_earOf 30 = .ok (.ireturn, 1) := by decide +kernel
theorem dX6_movingOf_0 : decode cX6_movingOf 0 = .ok (.aload_n 0, 1) := by decide +kernel
theorem dX6_movingOf_1 : decode cX6_movingOf 1 = .ok (.getfield 15, 3) := by decide +kernel
theorem dX6_movingOf_4 : decode cX6_movingOf 4 = .ok (.bipush 6, 2) := by decide +kernel
theorem dX6_movingOf_6 : decode cX6_movingOf 6 = .ok (.if_icmp .ne 14, 3) := by decide +kernel
theorem dX6_movingOf_9 : decode cX6_movingOf 9 = .ok (.lload_n 1, 1) := by decide +kernel
theorem dX6_movingOf_10 : decode cX6_movingOf 10 = .ok (.aload_n 0, 1) := by decide +kernel
theorem dX6_movingOf_11 : decode cX6_movingOf 11 = .ok (.getfield 18, 3) := by decide +kernel
theorem dX6_movingOf_14 : decode cX6_movingOf 14 = .ok (.invokestatic 38, 3) := by decide +kernel
theorem dX6_movingOf_17 : decode cX6_movingOf 17 = .ok (.goto 4, 3) := by decide +kernel
theorem dX6_movingOf_20 : decode cX6_movingOf 20 = .ok (.lload_n 1, 1) := by decide +kernel
theorem dX6_movingOf_21 : decode cX6_movingOf 21 = .ok (.lreturn, 1) := by decide +kernel
theorem dX6_isApartIn_0 : decode cX6_isApartIn 0 = .ok (.aload_n 0, 1) := by decide +kernel
theorem dX6_isApartIn_1 : decode cX6_isApartIn 1 = .ok (.getfield 15, 3) := by decide +kernel
theorem dX6_isApartIn_4 : decode cX6_isApartIn 4 = .ok (.iconst 4, 1) := by decide +kernel
theorem dX6_isApartIn_5 : decode cX6_isApartIn 5 = .ok (.if_icmp .ne 23, 3) := by decide +kernel
theorem dX6_isApartIn_8 : decode cX6_isApartIn 8 = .ok (.aload_n 0, 1) := by decide +kernel
theorem dX6_isApartIn_9 : decode cX6_isApartIn 9 = .ok (.getfield 18, 3) := by decide +kernel
theorem dX6_isApartIn_12 : decode cX6_isApartIn 12 = .ok (.ifCond .eq 16, 3) := by decide +kernel
theorem dX6_isApartIn_15 : decode cX6_isApartIn 15 = .ok (.iload_n 1, 1) := by decide +kernel
theorem dX6_isApartIn_16 : decode cX6_isApartIn 16 = .ok (.aload_n 0, 1) := by decide +kernel
theorem dX6_isApartIn_17 : decode cX6_isApartIn 17 = .ok (.getfield 18, 3) := by decide +kernel
theorem dX6_isApartIn_20 : decode cX6_isApartIn 20 = .ok (.irem, 1) := by decide +kernel
theorem dX6_isApartIn_21 : decode cX6_isApartIn 21 = .ok (.ifCond .ne 7, 3) := by decide +kernel
theorem dX6_isApartIn_24 : decode cX6_isApartIn 24 = .ok (.iconst 1, 1) := by decide +kernel
theorem dX6_isApartIn_25 : decode cX6_isApartIn 25 = .ok (.goto 4, 3) := by decide +kernel
theorem dX6_isApartIn_28 : decode cX6_isApartIn 28 = .ok (.iconst 0, 1) := by decide +kernel
theorem dX6_isApartIn_29 : decode cX6_isApartIn 29 = .ok (.ireturn, 1) := by decide +kernel
theorem dX7_init_0 : decode cX7_init 0 = .ok (.aload_n 0, 1) := by decide +kernel
theorem dX7_init_1 : decode cX7_init 1 = .ok (.invokespecial 3, 3) := by decide +kernel
theorem dX7_init_4 : decode cX7_init 4 = .ok (.aload_n 0, 1) := by decide +kernel
theorem dX7_init_5 : decode cX7_init 5 = .ok (.new 9, 3) := by decide +kernel
theorem dX7_init_8 : decode cX7_init 8 = .ok (.dup, 1) := by decide +kernel
theorem dX7_init_9 : decode cX7_init 9 = .ok (.invokespecial 11, 3) := by decide +kernel
theorem dX7_init_12 : decode cX7_init 12 = .ok (.putfield 12, 3) := by decide +kernel
theorem dX7_init_15 : decode cX7_init 15 = .ok (.aload_n 0, 1) := by decide +kernel
theorem dX7_init_16 : decode cX7_init 16 = .ok (.new 9, 3) := by decide +kernel
theorem dX7_init_19 : decode cX7_init 19 = .ok (.dup, 1) := by decide +kernel
theorem dX7_init_20 : decode cX7_init 20 = .ok (.invokespecial 11, 3) := by decide +kernel
theorem dX7_init_23 : decode cX7_init 23 = .ok (.putfield 18, 3) := by decide +kernel
theorem dX7_init_26 : decode cX7_init 26 = .ok (.aload_n 0, 1) := by decide +kernel
theorem dX7_init_27 : decode cX7_init 27 = .ok (.bipush 8, 2) := by decide +kernel
theorem dX7_init_29 : decode cX7_init 29 = .ok (.newarray .int, 2) := by decide +kernel
theorem dX7_init_31 : decode cX7_init 31 = .ok (.putfield 21, 3) := by decide +kernel
theorem dX7_init_34 : decode cX7_init 34 = .ok (.aload_n 0, 1) := by decide +kernel
theorem dX7_init_35 : decode cX7_init 35 = .ok (.bipush 8, 2) := by decide +kernel
theorem dX7_init_37 : decode cX7_init 37 = .ok (.newarray .int, 2) := by decide +kernel
theorem dX7_init_39 : decode cX7_init 39 = .ok (.putfield 25, 3) := by decide +kernel
theorem dX7_init_42 : decode cX7_init 42 = .ok (.aload_n 0, 1) := by decide +kernel
theorem dX7_init_43 : decode cX7_init 43 = .ok (.bipush 100, 2) := by decide +kernel
theorem dX7_init_45 : decode cX7_init 45 = .ok (.newarray .char, 2) := by decide +kernel
theorem dX7_init_47 : decode cX7_init 47 = .ok (.putfield 28, 3) := by decide +kernel
theorem dX7_init_50 : decode cX7_init 50 = .ok (.aload_n 0, 1) := by decide +kernel
theorem dX7_init_51 : decode cX7_init 51 = .ok (.bipush 6, 2) := by decide +kernel
theorem dX7_init_53 : decode cX7_init 53 = .ok (.anewarray 32, 3) := by decide +kernel
theorem dX7_init_56 : decode cX7_init 56 = .ok (.putfield 34, 3) := by decide +kernel
theorem dX7_init_59 : decode cX7_init 59 = .ok (.aload_n 0, 1) := by decide +kernel
theorem dX7_init_60 : decode cX7_init 60 = .ok (.new 38, 3) := by decide +kernel
theorem dX7_init_63 : decode cX7_init 63 = .ok (.dup, 1) := by decide +kernel
theorem dX7_init_64 : decode cX7_init 64 = .ok (.invokespecial 40, 3) := by decide +kernel
theorem dX7_init_67 : decode cX7_init 67 = .ok (.putfield 41, 3) := by decide +kernel
theorem dX7_init_70 : decode cX7_init 70 = .ok (.aload_n 0, 1) := by decide +kernel
theorem dX7_init_71 : decode cX7_init 71 = .ok (.bipush 10, 2) := by decide +kernel
theorem dX7_init_73 : decode cX7_init 73 = .ok (.anewarray 45, 3) := by decide +kernel
theorem dX7_init_76 : decode cX7_init 76 = .ok (.putfield 47, 3) := by decide +kernel
theorem dX7_init_79 : decode cX7_init 79 = .ok (.aload_n 0, 1) := by decide +kernel
theorem dX7_init_80 : decode cX7_init 80 = .ok (.new 51, 3) := by decide +kernel
theorem dX7_init_83 : decode cX7_init 83 = .ok (.dup, 1) := by decide +kernel
theorem dX7_init_84 : decode cX7_init 84 = .ok (.invokespecial 53, 3) := by decide +kernel
theorem dX7_init_87 : decode cX7_init 87 = .ok (.putfield 54, 3) := by decide +kernel
theorem dX7_init_90 : decode cX7_init 90 = .ok (.aload_n 0, 1) := by decide +kernel
theorem dX7_init_91 : decode cX7_init 91 = .ok (.bipush 6, 2) := by decide +kernel
theorem dX7_init_93 : decode cX7_init 93 = .ok (.anewarray 58, 3) := by decide +kernel
theorem dX7_init_96 : decode cX7_init 96 = .ok (.putfield 60, 3) := by decide +kernel
theorem dX7_init_99 : decode cX7_init 99 = .ok (.aload_n 0, 1) := by decide +kernel
theorem dX7_init_100 : decode cX7_init 100 = .ok (.new 64, 3) := by decide +kernel
theorem dX7_init_103 : decode cX7_init 103 = .ok (.dup, 1) := by decide +kernel
theorem dX7_init_104 : decode cX7_init 104 = .ok (.invokespecial 66, 3) := by decide +kernel
theorem dX7_init_107 : decode cX7_init 107 = .ok (.putfield 67, 3) := by decide +kernel
theorem dX7_init_110 : decode cX7_init 110 = .ok (.iconst 0, 1) := by decide +kernel
theorem dX7_init_111 : decode cX7_init 111 = .ok (.istore_n 1, 1) := by decide +kernel
theorem dX7_init_112 : decode cX7_init 112 = .ok (.iload_n 1, 1) := by decide +kernel
theorem dX7_init_113 : decode cX7_init 113 = .ok (.aload_n 0, 1) := by decide +kernel
theorem dX7_init_114 : decode cX7_init 114 = .ok (.getfield 34, 3) := by decide +kernel
theorem dX7_init_117 : decode cX7_init 117 = .ok (.arraylength, 1) := by decide +kernel
theorem dX7_init_118 : decode cX7_init 118 = .ok (.if_icmp .ge 22, 3) := by decide +kernel
theorem dX7_init_121 : decode cX7_init 121 = .ok (.aload_n 0, 1) := by decide +kernel
theorem dX7_init_122 : decode cX7_init 122 = .ok (.getfield 34, 3) := by decide +kernel
theorem dX7_init_125 : decode cX7_init 125 = .ok (.iload_n 1, 1) := by decide +kernel
theorem dX7_init_126 : decode cX7_init 126 = .ok (.new 32, 3) := by decide +kernel
theorem dX7_init_129 : decode cX7_init 129 = .ok (.dup, 1) := by decide +kernel
theorem dX7_init_130 : decode cX7_init 130 = .ok (.invokespecial 71, 3) := by decide +kernel
theorem dX7_init_133 : decode cX7_init 133 = .ok (.aastore, 1) := by decide +kernel
theorem dX7_init_134 : decode cX7_init 134 = .ok (.iinc 1 1, 3) := by decide +kernel
theorem dX7_init_137 : decode cX7_init 137 = .ok (.goto (-25), 3) := by decide +kernel
theorem dX7_init_140 : decode cX7_init 140 = .ok (.iconst 0, 1) := by decide +kernel
theorem dX7_init_141 : decode cX7_init 141 = .ok (.istore_n 1, 1) := by decide +kernel
theorem dX7_init_142 : decode cX7_init 142 = .ok (.iload_n 1, 1) := by decide +kernel
theorem dX7_init_143 : decode cX7_init 143 = .ok (.aload_n 0, 1) := by decide +kernel
theorem dX7_init_144 : decode cX7_init 144 = .ok (.getfield 60, 3) := by decide +kernel
theorem dX7_init_147 : decode cX7_init 147 = .ok (.arraylength, 1) := by decide +kernel
theorem dX7_init_148 : decode cX7_init 148 = .ok (.if_icmp .ge 22, 3) := by decide +kernel
theorem dX7_init_151 : decode cX7_init 151 = .ok (.aload_n 0, 1) := by decide +kernel
theorem dX7_init_152 : decode cX7_init 152 = .ok (.getfield 60, 3) := by decide +kernel
theorem dX7_init_155 : decode cX7_init 155 = .ok (.iload_n 1, 1) := by decide +kernel
theorem dX7_init_156 : decode cX7_init 156 = .ok (.new 58, 3) := by decide +kernel
theorem dX7_init_159 : decode cX7_init 159 = .ok (.dup, 1) := by decide +kernel
theorem dX7_init_160 : decode cX7_init 160 = .ok (.invokespecial 72, 3) := by decide +kernel
theorem dX7_init_163 : decode cX7_init 163 = .ok (.aastore, 1) := by decide +kernel
theorem dX7_init_164 : decode cX7_init 164 = .ok (.iinc 1 1, 3) := by decide +kernel
theorem dX7_init_167 : decode cX7_init 167 = .ok (.goto (-25), 3) := by decide +kernel
theorem dX7_init_170 : decode cX7_init 170 = .ok (.return_, 1) := by decide +kernel
theorem dX7_mouth_0 : decode cX7_mouth 0 = .ok (.iload_n 1, 1) := by decide +kernel
theorem dX7_mouth_1 : decode cX7_mouth 1 = .ok (.invokestatic 73, 3) := by decide +kernel
theorem dX7_mouth_4 : decode cX7_mouth 4 = .ok (.ifCond .ne 5, 3) := by decide +kernel
theorem dX7_mouth_7 : decode cX7_mouth 7 = .ok (.iconst (-1), 1) := by decide +kernel
theorem dX7_mouth_8 : decode cX7_mouth 8 = .ok (.ireturn, 1) := by decide +kernel
theorem dX7_mouth_9 : decode cX7_mouth 9 = .ok (.aload_n 0, 1) := by decide +kernel
theorem dX7_mouth_10 : decode cX7_mouth 10 = .ok (.getfield 12, 3) := by decide +kernel
theorem dX7_mouth_13 : decode cX7_mouth 13 = .ok (.getfield 77, 3) := by decide +kernel
theorem dX7_mouth_16 : decode cX7_mouth 16 = .ok (.istore_n 2, 1) := by decide +kernel
theorem dX7_mouth_17 : decode cX7_mouth 17 = .ok (.aload_n 0, 1) := by decide +kernel
theorem dX7_mouth_18 : decode cX7_mouth 18 = .ok (.getfield 12, 3) := by decide +kernel
theorem dX7_mouth_21 : decode cX7_mouth 21 = .ok (.iload_n 1, 1) := by decide +kernel
theorem dX7_mouth_22 : decode cX7_mouth 22 = .ok (.putfield 77, 3) := by decide +kernel
theorem dX7_mouth_25 : decode cX7_mouth 25 = .ok (.iload_n 2, 1) := by decide +kernel
theorem dX7_mouth_26 : decode cX7_mouth 26 = .ok (.ireturn, 1) := by decide +kernel
theorem dX7_jaw_0 : decode cX7_jaw 0 = .ok (.iload_n 1, 1) := by decide +kernel
theorem dX7_jaw_1 : decode cX7_jaw 1 = .ok (.invokestatic 73, 3) := by decide +kernel
theorem dX7_jaw_4 : decode cX7_jaw 4 = .ok (.ifCond .ne 5, 3) := by decide +kernel
theorem dX7_jaw_7 : decode cX7_jaw 7 = .ok (.iconst (-1), 1) := by decide +kernel
theorem dX7_jaw_8 : decode cX7_jaw 8 = .ok (.ireturn, 1) := by decide +kernel
theorem dX7_jaw_9 : decode cX7_jaw 9 = .ok (.lload_n 2, 1) := by decide +kernel
theorem dX7_jaw_10 : decode cX7_jaw 10 = .ok (.lconst 0, 1) := by decide +kernel
theorem dX7_jaw_11 : decode cX7_jaw 11 = .ok (.lcmp, 1) := by decide +kernel
theorem dX7_jaw_12 : decode cX7_jaw 12 = .ok (.ifCond .lt 11, 3) := by decide +kernel
theorem dX7_jaw_15 : decode cX7_jaw 15 = .ok (.lload_n 2, 1) := by decide +kernel
theorem dX7_jaw_16 : decode cX7_jaw 16 = .ok (.ldc2_w 81, 3) := by decide +kernel
theorem dX7_jaw_19 : decode cX7_jaw 19 = .ok (.lcmp, 1) := by decide +kernel
theorem dX7_jaw_20 : decode cX7_jaw 20 = .ok (.ifCond .le 6, 3) := by decide +kernel
theorem dX7_jaw_23 : decode cX7_jaw 23 = .ok (.bipush (-2), 2) := by decide +kernel
theorem dX7_jaw_25 : decode cX7_jaw 25 = .ok (.ireturn, 1) := by decide +kernel
theorem dX7_jaw_26 : decode cX7_jaw 26 = .ok (.aload_n 0, 1) := by decide +kernel
theorem dX7_jaw_27 : decode cX7_jaw 27 = .ok (.getfield 12, 3) := by decide +kernel
theorem dX7_jaw_30 : decode cX7_jaw 30 = .ok (.getfield 83, 3) := by decide +kernel
theorem dX7_jaw_33 : decode cX7_jaw 33 = .ok (.istore 4, 2) := by decide +kernel
theorem dX7_jaw_35 : decode cX7_jaw 35 = .ok (.aload_n 0, 1) := by decide +kernel
theorem dX7_jaw_36 : decode cX7_jaw 36 = .ok (.getfield 12, 3) := by decide +kernel
theorem dX7_jaw_39 : decode cX7_jaw 39 = .ok (.iload_n 1, 1) := by decide +kernel
theorem dX7_jaw_40 : decode cX7_jaw 40 = .ok (.putfield 83, 3) := by decide +kernel
theorem dX7_jaw_43 : decode cX7_jaw 43 = .ok (.aload_n 0, 1) := by decide +kernel
theorem dX7_jaw_44 : decode cX7_jaw 44 = .ok (.getfield 12, 3) := by decide +kernel
theorem dX7_jaw_47 : decode cX7_jaw 47 = .ok (.lload_n 2, 1) := by decide +kernel
theorem dX7_jaw_48 : decode cX7_jaw 48 = .ok (.putfield 86, 3) := by decide +kernel
theorem dX7_jaw_51 : decode cX7_jaw 51 = .ok (.iload 4, 2) := by decide +kernel
theorem dX7_jaw_53 : decode cX7_jaw 53 = .ok (.ireturn, 1) := by decide +kernel
theorem dX7_seat_0 : decode cX7_seat 0 = .ok (.iload_n 1, 1) := by decide +kernel
theorem dX7_seat_1 : decode cX7_seat 1 = .ok (.iconst 1, 1) := by decide +kernel
theorem dX7_seat_2 : decode cX7_seat 2 = .ok (.if_icmp .lt 9, 3) := by decide +kernel
theorem dX7_seat_5 : decode cX7_seat 5 = .ok (.iload_n 1, 1) := by decide +kernel
theorem dX7_seat_6 : decode cX7_seat 6 = .ok (.bipush 40, 2) := by decide +kernel
theorem dX7_seat_8 : decode cX7_seat 8 = .ok (.if_icmp .le 6, 3) := by decide +kernel
theorem dX7_seat_11 : decode cX7_seat 11 = .ok (.bipush (-2), 2) := by decide +kernel
theorem dX7_seat_13 : decode cX7_seat 13 = .ok (.ireturn, 1) := by decide +kernel
theorem dX7_seat_14 : decode cX7_seat 14 = .ok (.iload_n 2, 1) := by decide +kernel
theorem dX7_seat_15 : decode cX7_seat 15 = .ok (.invokestatic 73, 3) := by decide +kernel
theorem dX7_seat_18 : decode cX7_seat 18 = .ok (.ifCond .ne 5, 3) := by decide +kernel
theorem dX7_seat_21 : decode cX7_seat 21 = .ok (.iconst (-1), 1) := by decide +kernel
theorem dX7_seat_22 : decode cX7_seat 22 = .ok (.ireturn, 1) := by decide +kernel
theorem dX7_seat_23 : decode cX7_seat 23 = .ok (.aload_n 0, 1) := by decide +kernel
theorem dX7_seat_24 : decode cX7_seat 24 = .ok (.getfield 90, 3) := by decide +kernel
theorem dX7_seat_27 : decode cX7_seat 27 = .ok (.bipush 8, 2) := by decide +kernel
theorem dX7_seat_29 : decode cX7_seat 29 = .ok (.if_icmp .lt 6, 3) := by decide +kernel
theorem dX7_seat_32 : decode cX7_seat 32 = .ok (.bipush (-4), 2) := by decide +kernel
theorem dX7_seat_34 : decode cX7_seat 34 = .ok (.ireturn, 1) := by decide +kernel
theorem dX7_seat_35 : decode cX7_seat 35 = .ok (.aload_n 0, 1) := by decide +kernel
theorem dX7_seat_36 : decode cX7_seat 36 = .ok (.getfield 21, 3) := by decide +kernel
theorem dX7_seat_39 : decode cX7_seat 39 = .ok (.aload_n 0, 1) := by decide +kernel
theorem dX7_seat_40 : decode cX7_seat 40 = .ok (.getfield 90, 3) := by decide +kernel
theorem dX7_seat_43 : decode cX7_seat 43 = .ok (.iload_n 1, 1) := by decide +kernel
theorem dX7_seat_44 : decode cX7_seat 44 = .ok (.iastore, 1) := by decide +kernel
theorem dX7_seat_45 : decode cX7_seat 45 = .ok (.aload_n 0, 1) := by decide +kernel
theorem dX7_seat_46 : decode cX7_seat 46 = .ok (.getfield 25, 3) := by decide +kernel
theorem dX7_seat_49 : decode cX7_seat 49 = .ok (.aload_n 0, 1) := by decide +kernel
theorem dX7_seat_50 : decode cX7_seat 50 = .ok (.getfield 90, 3) := by decide +kernel
theorem dX7_seat_53 : decode cX7_seat 53 = .ok (.iload_n 2, 1) := by decide +kernel
theorem dX7_seat_54 : decode cX7_seat 54 = .ok (.iastore, 1) := by decide +kernel
theorem dX7_seat_55 : decode cX7_seat 55 = .ok (.aload_n 0, 1) := by decide +kernel
theorem dX7_seat_56 : decode cX7_seat 56 = .ok (.dup, 1) := by decide +kernel
theorem dX7_seat_57 : decode cX7_seat 57 = .ok (.getfield 90, 3) := by decide +kernel
theorem dX7_seat_60 : decode cX7_seat 60 = .ok (.iconst 1, 1) := by decide +kernel
theorem dX7_seat_61 : decode cX7_seat 61 = .ok (.iadd, 1) := by decide +kernel
theorem dX7_seat_62 : decode cX7_seat 62 = .ok (.putfield 90, 3) := by decide +kernel
theorem dX7_seat_65 : decode cX7_seat 65 = .ok (.aload_n 0, 1) := by decide +kernel
theorem dX7_seat_66 : decode cX7_seat 66 = .ok (.getfield 90, 3) := by decide +kernel
theorem dX7_seat_69 : decode cX7_seat 69 = .ok (.iconst 1, 1) := by decide +kernel
theorem dX7_seat_70 : decode cX7_seat 70 = .ok (.isub, 1) := by decide +kernel
theorem dX7_seat_71 : decode cX7_seat 71 = .ok (.ireturn, 1) := by decide +kernel
theorem dX7_of_0 : decode cX7_of 0 = .ok (.aload_n 0, 1) := by decide +kernel
theorem dX7_of_1 : decode cX7_of 1 = .ok (.iload_n 1, 1) := by decide +kernel
theorem dX7_of_2 : decode cX7_of 2 = .ok (.invokevirtual 93, 3) := by decide +kernel
theorem dX7_of_5 : decode cX7_of 5 = .ok (.ifCond .eq 12, 3) := by decide +kernel
theorem dX7_of_8 : decode cX7_of 8 = .ok (.iload_n 2, 1) := by decide +kernel
theorem dX7_of_9 : decode cX7_of 9 = .ok (.ifCond .lt 8, 3) := by decide +kernel
theorem dX7_of_12 : decode cX7_of 12 = .ok (.iload_n 2, 1) := by decide +kernel
theorem dX7_of_13 : decode cX7_of 13 = .ok (.iconst 1, 1) := by decide +kernel
theorem dX7_of_14 : decode cX7_of 14 = .ok (.if_icmp .le 5, 3) := by decide +kernel
theorem dX7_of_17 : decode cX7_of 17 = .ok (.iconst (-1), 1) := by decide +kernel
theorem dX7_of_18 : decode cX7_of 18 = .ok (.ireturn, 1) := by decide +kernel
theorem dX7_of_19 : decode cX7_of 19 = .ok (.iload_n 2, 1) := by decide +kernel
theorem dX7_of_20 : decode cX7_of 20 = .ok (.ifCond .ne 12, 3) := by decide +kernel
theorem dX7_of_23 : decode cX7_of 23 = .ok (.aload_n 0, 1) := by decide +kernel
theorem dX7_of_24 : decode cX7_of 24 = .ok (.getfield 21, 3) := by decide +kernel
theorem dX7_of_27 : decode cX7_of 27 = .ok (.iload_n 1, 1) := by decide +kernel
theorem dX7_of_28 : decode cX7_of 28 = .ok (.iaload, 1) := by decide +kernel
theorem dX7_of_29 : decode cX7_of 29 = .ok (.goto 9, 3) := by decide +kernel
theorem dX7_of_32 : decode cX7_of 32 = .ok (.aload_n 0, 1) := by decide +kernel
theorem dX7_of_33 : decode cX7_of 33 = .ok (.getfield 25, 3) := by decide +kernel
theorem dX7_of_36 : decode cX7_of 36 = .ok (.iload_n 1, 1) := by decide +kernel
theorem dX7_of_37 : decode cX7_of 37 = .ok (.iaload, 1) := by decide +kernel
theorem dX7_of_38 : decode cX7_of 38 = .ok (.ireturn, 1) := by decide +kernel
theorem dX7_say_0 : decode cX7_say 0 = .ok (.iload_n 1, 1) := by decide +kernel
theorem dX7_say_1 : decode cX7_say 1 = .ok (.iconst (-1), 1) := by decide +kernel
theorem dX7_say_2 : decode cX7_say 2 = .ok (.if_icmp .lt 9, 3) := by decide +kernel
theorem dX7_say_5 : decode cX7_say 5 = .ok (.iload_n 1, 1) := by decide +kernel
theorem dX7_say_6 : decode cX7_say 6 = .ok (.bipush 10, 2) := by decide +kernel
theorem dX7_say_8 : decode cX7_say 8 = .ok (.if_icmp .lt 5, 3) := by decide +kernel
theorem dX7_say_11 : decode cX7_say 11 = .ok (.iconst (-1), 1) := by decide +kernel
theorem dX7_say_12 : decode cX7_say 12 = .ok (.ireturn, 1) := by decide +kernel
theorem dX7_say_13 : decode cX7_say 13 = .ok (.iload_n 1, 1) := by decide +kernel
theorem dX7_say_14 : decode cX7_say 14 = .ok (.iconst (-1), 1) := by decide +kernel
theorem dX7_say_15 : decode cX7_say 15 = .ok (.if_icmp .ne 13, 3) := by decide +kernel
theorem dX7_say_18 : decode cX7_say 18 = .ok (.aload_n 0, 1) := by decide +kernel
theorem dX7_say_19 : decode cX7_say 19 = .ok (.getfield 12, 3) := by decide +kernel
theorem dX7_say_22 : decode cX7_say 22 = .ok (.iconst 0, 1) := by decide +kernel
theorem dX7_say_23 : decode cX7_say 23 = .ok (.putfield 96, 3) := by decide +kernel
theorem dX7_say_26 : decode cX7_say 26 = .ok (.iconst 0, 1) := by decide +kernel
theorem dX7_say_27 : decode cX7_say 27 = .ok (.ireturn, 1) := by decide +kernel
theorem dX7_say_28 : decode cX7_say 28 = .ok (.aload_n 0, 1) := by decide +kernel
theorem dX7_say_29 : decode cX7_say 29 = .ok (.getfield 12, 3) := by decide +kernel
theorem dX7_say_32 : decode cX7_say 32 = .ok (.getfield 96, 3) := by decide +kernel
theorem dX7_say_35 : decode cX7_say 35 = .ok (.bipush 20, 2) := by decide +kernel
theorem dX7_say_37 : decode cX7_say 37 = .ok (.if_icmp .lt 6, 3) := by decide +kernel
theorem dX7_say_40 : decode cX7_say 40 = .ok (.bipush (-4), 2) := by decide +kernel
theorem dX7_say_42 : decode cX7_say 42 = .ok (.ireturn, 1) := by decide +kernel
theorem dX7_say_43 : decode cX7_say 43 = .ok (.aload_n 0, 1) := by decide +kernel
theorem dX7_say_44 : decode cX7_say 44 = .ok (.getfield 12, 3) := by decide +kernel
theorem dX7_say_47 : decode cX7_say 47 = .ok (.getfield 99, 3) := by decide +kernel
theorem dX7_say_50 : decode cX7_say 50 = .ok (.aload_n 0, 1) := by decide +kernel
theorem dX7_say_51 : decode cX7_say 51 = .ok (.getfield 12, 3) := by decide +kernel
theorem dX7_say_54 : decode cX7_say 54 = .ok (.getfield 96, 3) := by decide +kernel
theorem dX7_say_57 : decode cX7_say 57 = .ok (.iload_n 1, 1) := by decide +kernel
theorem dX7_say_58 : decode cX7_say 58 = .ok (.iastore, 1) := by decide +kernel
theorem dX7_say_59 : decode cX7_say 59 = .ok (.aload_n 0, 1) := by decide +kernel
theorem dX7_say_60 : decode cX7_say 60 = .ok (.getfield 12, 3) := by decide +kernel
theorem dX7_say_63 : decode cX7_say 63 = .ok (.dup, 1) := by decide +kernel
theorem dX7_say_64 : decode cX7_say 64 = .ok (.getfield 96, 3) := by decide +kernel
theorem dX7_say_67 : decode cX7_say 67 = .ok (.iconst 1, 1) := by decide +kernel
theorem dX7_say_68 : decode cX7_say 68 = .ok (.iadd, 1) := by decide +kernel
theorem dX7_say_69 : decode cX7_say 69 = .ok (.putfield 96, 3) := by decide +kernel
theorem dX7_say_72 : decode cX7_say 72 = .ok (.aload_n 0, 1) := by decide +kernel
theorem dX7_say_73 : decode cX7_say 73 = .ok (.getfield 12, 3) := by decide +kernel
theorem dX7_say_76 : decode cX7_say 76 = .ok (.getfield 96, 3) := by decide +kernel
theorem dX7_say_79 : decode cX7_say 79 = .ok (.ireturn, 1) := by decide +kernel
theorem dX7_feed_0 : decode cX7_feed 0 = .ok (.iload_n 2, 1) := by decide +kernel
theorem dX7_feed_1 : decode cX7_feed 1 = .ok (.ifCond .lt 8, 3) := by decide +kernel
theorem dX7_feed_4 : decode cX7_feed 4 = .ok (.iload_n 2, 1) := by decide +kernel
theorem dX7_feed_5 : decode cX7_feed 5 = .ok (.iconst 4, 1) := by decide +kernel
theorem dX7_feed_6 : decode cX7_feed 6 = .ok (.if_icmp .le 6, 3) := by decide +kernel
theorem dX7_feed_9 : decode cX7_feed 9 = .ok (.bipush (-2), 2) := by decide +kernel
theorem dX7_feed_11 : decode cX7_feed 11 = .ok (.ireturn, 1) := by decide +kernel
theorem dX7_feed_12 : decode cX7_feed 12 = .ok (.aload_n 0, 1) := by decide +kernel
theorem dX7_feed_13 : decode cX7_feed 13 = .ok (.getfield 102, 3) := by decide +kernel
theorem dX7_feed_16 : decode cX7_feed 16 = .ok (.iload_n 2, 1) := by decide +kernel
theorem dX7_feed_17 : decode cX7_feed 17 = .ok (.iadd, 1) := by decide +kernel
theorem dX7_feed_18 : decode cX7_feed 18 = .ok (.bipush 100, 2) := by decide +kernel
theorem dX7_feed_20 : decode cX7_feed 20 = .ok (.if_icmp .le 6, 3) := by decide +kernel
theorem dX7_feed_23 : decode cX7_feed 23 = .ok (.bipush (-4), 2) := by decide +kernel
theorem dX7_feed_25 : decode cX7_feed 25 = .ok (.ireturn, 1) := by decide +kernel
theorem dX7_feed_26 : decode cX7_feed 26 = .ok (.iload_n 2, 1) := by decide +kernel
theorem dX7_feed_27 : decode cX7_feed 27 = .ok (.iconst 1, 1) := by decide +kernel
theorem dX7_feed_28 : decode cX7_feed 28 = .ok (.isub, 1) := by decide +kernel
theorem dX7_feed_29 : decode cX7_feed 29 = .ok (.istore_n 3, 1) := by decide +kernel
theorem dX7_feed_30 : decode cX7_feed 30 = .ok (.iload_n 3, 1) := by decide +kernel
theorem dX7_feed_31 : decode cX7_feed 31 = .ok (.ifCond .lt 39, 3) := by decide +kernel
theorem dX7_feed_34 : decode cX7_feed 34 = .ok (.aload_n 0, 1) := by decide +kernel
theorem dX7_feed_35 : decode cX7_feed 35 = .ok (.getfield 28, 3) := by decide +kernel
theorem dX7_feed_38 : decode cX7_feed 38 = .ok (.aload_n 0, 1) := by decide +kernel
theorem dX7_feed_39 : decode cX7_feed 39 = .ok (.getfield 102, 3) := by decide +kernel
theorem dX7_feed_42 : decode cX7_feed 42 = .ok (.iload_n 1, 1) := by decide +kernel
theorem dX7_feed_43 : decode cX7_feed 43 = .ok (.bipush 8, 2) := by decide +kernel
theorem dX7_feed_45 : decode cX7_feed 45 = .ok (.iload_n 3, 1) := by decide +kernel
theorem dX7_feed_46 : decode cX7_feed 46 = .ok (.imul, 1) := by decide +kernel
theorem dX7_feed_47 : decode cX7_feed 47 = .ok (.iushr, 1) := by decide +kernel
theorem dX7_feed_48 : decode cX7_feed 48 = .ok (.sipush 255, 3) := by decide +kernel
theorem dX7_feed_51 : decode cX7_feed 51 = .ok (.iand, 1) := by decide +kernel
theorem dX7_feed_52 : decode cX7_feed 52 = .ok (.i2c, 1) := by decide +kernel
theorem dX7_feed_53 : decode cX7_feed 53 = .ok (.castore, 1) := by decide +kernel
theorem dX7_feed_54 : decode cX7_feed 54 = .ok (.aload_n 0, 1) := by decide +kernel
theorem dX7_feed_55 : decode cX7_feed 55 = .ok (.dup, 1) := by decide +kernel
theorem dX7_feed_56 : decode cX7_feed 56 = .ok (.getfield 102, 3) := by decide +kernel
theorem dX7_feed_59 : decode cX7_feed 59 = .ok (.iconst 1, 1) := by decide +kernel
theorem dX7_feed_60 : decode cX7_feed 60 = .ok (.iadd, 1) := by decide +kernel
theorem dX7_feed_61 : decode cX7_feed 61 = .ok (.putfield 102, 3) := by decide +kernel
theorem dX7_feed_64 : decode cX7_feed 64 = .ok (.iinc 3 (-1), 3) := by decide +kernel
theorem dX7_feed_67 : decode cX7_feed 67 = .ok (.goto (-37), 3) := by decide +kernel
theorem dX7_feed_70 : decode cX7_feed 70 = .ok (.aload_n 0, 1) := by decide +kernel
theorem dX7_feed_71 : decode cX7_feed 71 = .ok (.getfield 102, 3) := by decide +kernel
theorem dX7_feed_74 : decode cX7_feed 74 = .ok (.ireturn, 1) := by decide +kernel
theorem dX7_house_0 : decode cX7_house 0 = .ok (.aload_n 0, 1) := by decide +kernel
theorem dX7_house_1 : decode cX7_house 1 = .ok (.getfield 105, 3) := by decide +kernel
theorem dX7_house_4 : decode cX7_house 4 = .ok (.iconst 5, 1) := by decide +kernel
theorem dX7_house_5 : decode cX7_house 5 = .ok (.if_icmp .lt 6, 3) := by decide +kernel
theorem dX7_house_8 : decode cX7_house 8 = .ok (.bipush (-4), 2) := by decide +kernel
theorem dX7_house_10 : decode cX7_house 10 = .ok (.ireturn, 1) := by decide +kernel
theorem dX7_house_11 : decode cX7_house 11 = .ok (.aload_n 0, 1) := by decide +kernel
theorem dX7_house_12 : decode cX7_house 12 = .ok (.getfield 41, 3) := by decide +kernel
theorem dX7_house_15 : decode cX7_house 15 = .ok (.aload_n 0, 1) := by decide +kernel
theorem dX7_house_16 : decode cX7_house 16 = .ok (.getfield 28, 3) := by decide +kernel
theorem dX7_house_19 : decode cX7_house 19 = .ok (.aload_n 0, 1) := by decide +kernel
theorem dX7_house_20 : decode cX7_house 20 = .ok (.getfield 102, 3) := by decide +kernel
theorem dX7_house_23 : decode cX7_house 23 = .ok (.aload_n 0, 1) := by decide +kernel
theorem dX7_house_24 : decode cX7_house 24 = .ok (.getfield 34, 3) := by decide +kernel
theorem dX7_house_27 : decode cX7_house 27 = .ok (.aload_n 0, 1) := by decide +kernel
theorem dX7_house_28 : decode cX7_house 28 = .ok (.getfield 105, 3) := by decide +kernel
theorem dX7_house_31 : decode cX7_house 31 = .ok (.iconst 1, 1) := by decide +kernel
theorem dX7_house_32 : decode cX7_house 32 = .ok (.iadd, 1) := by decide +kernel
theorem dX7_house_33 : decode cX7_house 33 = .ok (.aaload, 1) := by decide +kernel
theorem dX7_house_34 : decode cX7_house 34 = .ok (.invokevirtual 108, 3) := by decide +kernel
theorem dX7_house_37 : decode cX7_house 37 = .ok (.istore_n 1, 1) := by decide +kernel
theorem dX7_house_38 : decode cX7_house 38 = .ok (.aload_n 0, 1) := by decide +kernel
theorem dX7_house_39 : decode cX7_house 39 = .ok (.iconst 0, 1) := by decide +kernel
theorem dX7_house_40 : decode cX7_house 40 = .ok (.putfield 102, 3) := by decide +kernel
theorem dX7_house_43 : decode cX7_house 43 = .ok (.iload_n 1, 1) := by decide +kernel
theorem dX7_house_44 : decode cX7_house 44 = .ok (.ifCond .lt 8, 3) := by decide +kernel
theorem dX7_house_47 : decode cX7_house 47 = .ok (.bipush (-10), 2) := by decide +kernel
theorem dX7_house_49 : decode cX7_house 49 = .ok (.iload_n 1, 1) := by decide +kernel
theorem dX7_house_50 : decode cX7_house 50 = .ok (.isub, 1) := by decide +kernel
theorem dX7_house_51 : decode cX7_house 51 = .ok (.ireturn, 1) := by decide +kernel
theorem dX7_house_52 : decode cX7_house 52 = .ok (.aload_n 0, 1) := by decide +kernel
theorem dX7_house_53 : decode cX7_house 53 = .ok (.dup, 1) := by decide +kernel
theorem dX7_house_54 : decode cX7_house 54 = .ok (.getfield 105, 3) := by decide +kernel
theorem dX7_house_57 : decode cX7_house 57 = .ok (.iconst 1, 1) := by decide +kernel
theorem dX7_house_58 : decode cX7_house 58 = .ok (.iadd, 1) := by decide +kernel
theorem dX7_house_59 : decode cX7_house 59 = .ok (.putfield 105, 3) := by decide +kernel
theorem dX7_house_62 : decode cX7_house 62 = .ok (.aload_n 0, 1) := by decide +kernel
theorem dX7_house_63 : decode cX7_house 63 = .ok (.getfield 12, 3) := by decide +kernel
theorem dX7_house_66 : decode cX7_house 66 = .ok (.aload_n 0, 1) := by decide +kernel
theorem dX7_house_67 : decode cX7_house 67 = .ok (.getfield 105, 3) := by decide +kernel
theorem dX7_house_70 : decode cX7_house 70 = .ok (.putfield 112, 3) := by decide +kernel
theorem dX7_house_73 : decode cX7_house 73 = .ok (.aload_n 0, 1) := by decide +kernel
theorem dX7_house_74 : decode cX7_house 74 = .ok (.getfield 105, 3) := by decide +kernel
theorem dX7_house_77 : decode cX7_house 77 = .ok (.iconst 1, 1) := by decide +kernel
theorem dX7_house_78 : decode cX7_house 78 = .ok (.isub, 1) := by decide +kernel
theorem dX7_house_79 : decode cX7_house 79 = .ok (.ireturn, 1) := by decide +kernel
theorem dX7_told_0 : decode cX7_told 0 = .ok (.iload_n 1, 1) := by decide +kernel
theorem dX7_told_1 : decode cX7_told 1 = .ok (.invokestatic 115, 3) := by decide +kernel
theorem dX7_told_4 : decode cX7_told 4 = .ok (.ifCond .ne 5, 3) := by decide +kernel
theorem dX7_told_7 : decode cX7_told 7 = .ok (.iconst (-1), 1) := by decide +kernel
theorem dX7_told_8 : decode cX7_told 8 = .ok (.ireturn, 1) := by decide +kernel
theorem dX7_told_9 : decode cX7_told 9 = .ok (.iload_n 2, 1) := by decide +kernel
theorem dX7_told_10 : decode cX7_told 10 = .ok (.tableswitch 67 0 3 #[30, 40, 50, 59], 30) := by decide +kernel
theorem dX7_told_40 : decode cX7_told 40 = .ok (.aload_n 0, 1) := by decide +kernel
theorem dX7_told_41 : decode cX7_told 41 = .ok (.invokevirtual 118, 3) := by decide +kernel
theorem dX7_told_44 : decode cX7_told 44 = .ok (.iload_n 1, 1) := by decide +kernel
theorem dX7_told_45 : decode cX7_told 45 = .ok (.iconst 0, 1) := by decide +kernel
theorem dX7_told_46 : decode cX7_told 46 = .ok (.invokevirtual 122, 3) := by decide +kernel
theorem dX7_told_49 : decode cX7_told 49 = .ok (.ireturn, 1) := by decide +kernel
theorem dX7_told_50 : decode cX7_told 50 = .ok (.aload_n 0, 1) := by decide +kernel
theorem dX7_told_51 : decode cX7_told 51 = .ok (.invokevirtual 118, 3) := by decide +kernel
theorem dX7_told_54 : decode cX7_told 54 = .ok (.iload_n 1, 1) := by decide +kernel
theorem dX7_told_55 : decode cX7_told 55 = .ok (.iconst 1, 1) := by decide +kernel
theorem dX7_told_56 : decode cX7_told 56 = .ok (.invokevirtual 122, 3) := by decide +kernel
theorem dX7_told_59 : decode cX7_told 59 = .ok (.ireturn, 1) := by decide +kernel
theorem dX7_told_60 : decode cX7_told 60 = .ok (.aload_n 0, 1) := by decide +kernel
theorem dX7_told_61 : decode cX7_told 61 = .ok (.invokevirtual 118, 3) := by decide +kernel
theorem dX7_told_64 : decode cX7_told 64 = .ok (.iload_n 1, 1) := by decide +kernel
theorem dX7_told_65 : decode cX7_told 65 = .ok (.invokevirtual 126, 3) := by decide +kernel
theorem dX7_told_68 : decode cX7_told 68 = .ok (.ireturn, 1) := by decide +kernel
theorem dX7_told_69 : decode cX7_told 69 = .ok (.aload_n 0, 1) := by decide +kernel
theorem dX7_told_70 : decode cX7_told 70 = .ok (.invokevirtual 118, 3) := by decide +kernel
theorem dX7_told_73 : decode cX7_told 73 = .ok (.getfield 130, 3) := by decide +kernel
theorem dX7_told_76 : decode cX7_told 76 = .ok (.ireturn, 1) := by decide +kernel
theorem dX7_told_77 : decode cX7_told 77 = .ok (.iconst (-1), 1) := by decide +kernel
theorem dX7_told_78 : decode cX7_told 78 = .ok (.ireturn, 1) := by decide +kernel
theorem dX7_voice_0 : decode cX7_voice 0 = .ok (.iload_n 1, 1) := by decide +kernel
theorem dX7_voice_1 : decode cX7_voice 1 = .ok (.ifCond .lt 9, 3) := by decide +kernel
theorem dX7_voice_4 : decode cX7_voice 4 = .ok (.iload_n 1, 1) := by decide +kernel
theorem dX7_voice_5 : decode cX7_voice 5 = .ok (.bipush 6, 2) := by decide +kernel
theorem dX7_voice_7 : decode cX7_voice 7 = .ok (.if_icmp .le 5, 3) := by decide +kernel
theorem dX7_voice_10 : decode cX7_voice 10 = .ok (.iconst (-1), 1) := by decide +kernel
theorem dX7_voice_11 : decode cX7_voice 11 = .ok (.ireturn, 1) := by decide +kernel
theorem dX7_voice_12 : decode cX7_voice 12 = .ok (.iload_n 2, 1) := by decide +kernel
theorem dX7_voice_13 : decode cX7_voice 13 = .ok (.ifCond .lt 9, 3) := by decide +kernel
theorem dX7_voice_16 : decode cX7_voice 16 = .ok (.iload_n 2, 1) := by decide +kernel
theorem dX7_voice_17 : decode cX7_voice 17 = .ok (.bipush 9, 2) := by decide +kernel
theorem dX7_voice_19 : decode cX7_voice 19 = .ok (.if_icmp .le 6, 3) := by decide +kernel
theorem dX7_voice_22 : decode cX7_voice 22 = .ok (.bipush (-2), 2) := by decide +kernel
theorem dX7_voice_24 : decode cX7_voice 24 = .ok (.ireturn, 1) := by decide +kernel
theorem dX7_voice_25 : decode cX7_voice 25 = .ok (.aload_n 0, 1) := by decide +kernel
theorem dX7_voice_26 : decode cX7_voice 26 = .ok (.getfield 133, 3) := by decide +kernel
theorem dX7_voice_29 : decode cX7_voice 29 = .ok (.bipush 10, 2) := by decide +kernel
theorem dX7_voice_31 : decode cX7_voice 31 = .ok (.if_icmp .lt 6, 3) := by decide +kernel
theorem dX7_voice_34 : decode cX7_voice 34 = .ok (.bipush (-4), 2) := by decide +kernel
theorem dX7_voice_36 : decode cX7_voice 36 = .ok (.ireturn, 1) := by decide +kernel
theorem dX7_voice_37 : decode cX7_voice 37 = .ok (.aload_n 0, 1) := by decide +kernel
theorem dX7_voice_38 : decode cX7_voice 38 = .ok (.getfield 47, 3) := by decide +kernel
theorem dX7_voice_41 : decode cX7_voice 41 = .ok (.aload_n 0, 1) := by decide +kernel
theorem dX7_voice_42 : decode cX7_voice 42 = .ok (.getfield 133, 3) := by decide +kernel
theorem dX7_voice_45 : decode cX7_voice 45 = .ok (.new 45, 3) := by decide +kernel
theorem dX7_voice_48 : decode cX7_voice 48 = .ok (.dup, 1) := by decide +kernel
theorem dX7_voice_49 : decode cX7_voice 49 = .ok (.aload_n 0, 1) := by decide +kernel
theorem dX7_voice_50 : decode cX7_voice 50 = .ok (.getfield 133, 3) := by decide +kernel
theorem dX7_voice_53 : decode cX7_voice 53 = .ok (.iload_n 1, 1) := by decide +kernel
theorem dX7_voice_54 : decode cX7_voice 54 = .ok (.iload_n 2, 1) := by decide +kernel
theorem dX7_voice_55 : decode cX7_voice 55 = .ok (.invokespecial 136, 3) := by decide +kernel
theorem dX7_voice_58 : decode cX7_voice 58 = .ok (.aastore, 1) := by decide +kernel
theorem dX7_voice_59 : decode cX7_voice 59 = .ok (.aload_n 0, 1) := by decide +kernel
theorem dX7_voice_60 : decode cX7_voice 60 = .ok (.dup, 1) := by decide +kernel
theorem dX7_voice_61 : decode cX7_voice 61 = .ok (.getfield 133, 3) := by decide +kernel
theorem dX7_voice_64 : decode cX7_voice 64 = .ok (.iconst 1, 1) := by decide +kernel
theorem dX7_voice_65 : decode cX7_voice 65 = .ok (.iadd, 1) := by decide +kernel
theorem dX7_voice_66 : decode cX7_voice 66 = .ok (.putfield 133, 3) := by decide +kernel
theorem dX7_voice_69 : decode cX7_voice 69 = .ok (.aload_n 0, 1) := by decide +kernel
theorem dX7_voice_70 : decode cX7_voice 70 = .ok (.getfield 133, 3) := by decide +kernel
theorem dX7_voice_73 : decode cX7_voice 73 = .ok (.iconst 1, 1) := by decide +kernel
theorem dX7_voice_74 : decode cX7_voice 74 = .ok (.isub, 1) := by decide +kernel
theorem dX7_voice_75 : decode cX7_voice 75 = .ok (.ireturn, 1) := by decide +kernel
theorem dX7_held_0 : decode cX7_held 0 = .ok (.aload_n 0, 1) := by decide +kernel
theorem dX7_held_1 : decode cX7_held 1 = .ok (.iload_n 1, 1) := by decide +kernel
theorem dX7_held_2 : decode cX7_held 2 = .ok (.invokevirtual 139, 3) := by decide +kernel
theorem dX7_held_5 : decode cX7_held 5 = .ok (.astore 5, 2) := by decide +kernel
theorem dX7_held_7 : decode cX7_held 7 = .ok (.aload 5, 2) := by decide +kernel
theorem dX7_held_9 : decode cX7_held 9 = .ok (.ifnull 18, 3) := by decide +kernel
theorem dX7_held_12 : decode cX7_held 12 = .ok (.aload_n 0, 1) := by decide +kernel
theorem dX7_held_13 : decode cX7_held 13 = .ok (.iload_n 2, 1) := by decide +kernel
theorem dX7_held_14 : decode cX7_held 14 = .ok (.invokevirtual 93, 3) := by decide +kernel
theorem dX7_held_17 : decode cX7_held 17 = .ok (.ifCond .eq 10, 3) := by decide +kernel
theorem dX7_held_20 : decode cX7_held 20 = .ok (.iload_n 3, 1) := by decide +kernel
theorem dX7_held_21 : decode cX7_held 21 = .ok (.invokestatic 143, 3) := by decide +kernel
theorem dX7_held_24 : decode cX7_held 24 = .ok (.ifCond .ne 5, 3) := by decide +kernel
theorem dX7_held_27 : decode cX7_held 27 = .ok (.iconst (-1), 1) := by decide +kernel
theorem dX7_held_28 : decode cX7_held 28 = .ok (.ireturn, 1) := by decide +kernel
theorem dX7_held_29 : decode cX7_held 29 = .ok (.aload_n 0, 1) := by decide +kernel
theorem dX7_held_30 : decode cX7_held 30 = .ok (.aload 5, 2) := by decide +kernel
theorem dX7_held_32 : decode cX7_held 32 = .ok (.iload_n 2, 1) := by decide +kernel
theorem dX7_held_33 : decode cX7_held 33 = .ok (.iload_n 3, 1) := by decide +kernel
theorem dX7_held_34 : decode cX7_held 34 = .ok (.invokevirtual 146, 3) := by decide +kernel
theorem dX7_held_37 : decode cX7_held 37 = .ok (.astore 6, 2) := by decide +kernel
theorem dX7_held_39 : decode cX7_held 39 = .ok (.iload 4, 2) := by decide +kernel
theorem dX7_held_41 : decode cX7_held 41 = .ok (.tableswitch 91 0 5 #[39, 45, 51, 57, 71, 77], 39) := by decide +kernel
theorem dX7_held_80 : decode cX7_held 80 = .ok (.aload 6, 2) := by decide +kernel
theorem dX7_held_82 : decode cX7_held 82 = .ok (.getfield 150, 3) := by decide +kernel
theorem dX7_held_85 : decode cX7_held 85 = .ok (.ireturn, 1) := by decide +kernel
theorem dX7_held_86 : decode cX7_held 86 = .ok (.aload 6, 2) := by decide +kernel
theorem dX7_held_88 : decode cX7_held 88 = .ok (.getfield 153, 3) := by decide +kernel
theorem dX7_held_91 : decode cX7_held 91 = .ok (.ireturn, 1) := by decide +kernel
theorem dX7_held_92 : decode cX7_held 92 = .ok (.aload 6, 2) := by decide +kernel
theorem dX7_held_94 : decode cX7_held 94 = .ok (.getfield 156, 3) := by decide +kernel
theorem dX7_held_97 : decode cX7_held 97 = .ok (.ireturn, 1) := by decide +kernel
theorem dX7_held_98 : decode cX7_held 98 = .ok (.aload 6, 2) := by decide +kernel
theorem dX7_held_100 : decode cX7_held 100 = .ok (.getfield 159, 3) := by decide +kernel
theorem dX7_held_103 : decode cX7_held 103 = .ok (.ifCond .eq 7, 3) := by decide +kernel
theorem dX7_held_106 : decode cX7_held 106 = .ok (.iconst 1, 1) := by decide +kernel
theorem dX7_held_107 : decode cX7_held 107 = .ok (.goto 4, 3) := by decide +kernel
theorem dX7_held_110 : decode cX7_held 110 = .ok (.iconst 0, 1) := by decide +kernel
theorem dX7_held_111 : decode cX7_held 111 = .ok (.ireturn, 1) := by decide +kernel
theorem dX7_held_112 : decode cX7_held 112 = .ok (.aload 6, 2) := by decide +kernel
theorem dX7_held_114 : decode cX7_held 114 = .ok (.getfield 163, 3) := by decide +kernel
theorem dX7_held_117 : decode cX7_held 117 = .ok (.ireturn, 1) := by decide +kernel
theorem dX7_held_118 : decode cX7_held 118 = .ok (.aload 6, 2) := by decide +kernel
theorem dX7_held_120 : decode cX7_held 120 = .ok (.getfield 166, 3) := by decide +kernel
theorem dX7_held_123 : decode cX7_held 123 = .ok (.ifCond .eq 7, 3) := by decide +kernel
theorem dX7_held_126 : decode cX7_held 126 = .ok (.iconst 1, 1) := by decide +kernel
theorem dX7_held_127 : decode cX7_held 127 = .ok (.goto 4, 3) := by decide +kernel
theorem dX7_held_130 : decode cX7_held 130 = .ok (.iconst 0, 1) := by decide +kernel
theorem dX7_held_131 : decode cX7_held 131 = .ok (.ireturn, 1) := by decide +kernel
theorem dX7_held_132 : decode cX7_held 132 = .ok (.iconst (-1), 1) := by decide +kernel
theorem dX7_held_133 : decode cX7_held 133 = .ok (.ireturn, 1) := by decide +kernel
theorem dX7_heard_0 : decode cX7_heard 0 = .ok (.aload_n 0, 1) := by decide +kernel
theorem dX7_heard_1 : decode cX7_heard 1 = .ok (.iload_n 1, 1) := by decide +kernel
theorem dX7_heard_2 : decode cX7_heard 2 = .ok (.invokevirtual 139, 3) := by decide +kernel
theorem dX7_heard_5 : decode cX7_heard 5 = .ok (.astore 5, 2) := by decide +kernel
theorem dX7_heard_7 : decode cX7_heard 7 = .ok (.aload 5, 2) := by decide +kernel
theorem dX7_heard_9 : decode cX7_heard 9 = .ok (.ifnull 19, 3) := by decide +kernel
theorem dX7_heard_12 : decode cX7_heard 12 = .ok (.aload_n 0, 1) := by decide +kernel
theorem dX7_heard_13 : decode cX7_heard 13 = .ok (.iload_n 2, 1) := by decide +kernel
theorem dX7_heard_14 : decode cX7_heard 14 = .ok (.invokevirtual 93, 3) := by decide +kernel
theorem dX7_heard_17 : decode cX7_heard 17 = .ok (.ifCond .eq 11, 3) := by decide +kernel
theorem dX7_heard_20 : decode cX7_heard 20 = .ok (.aload_n 0, 1) := by decide +kernel
theorem dX7_heard_21 : decode cX7_heard 21 = .ok (.iload_n 3, 1) := by decide +kernel
theorem dX7_heard_22 : decode cX7_heard 22 = .ok (.invokevirtual 169, 3) := by decide +kernel
theorem dX7_heard_25 : decode cX7_heard 25 = .ok (.ifCond .ne 5, 3) := by decide +kernel
theorem dX7_heard_28 : decode cX7_heard 28 = .ok (.iconst (-1), 1) := by decide +kernel
theorem dX7_heard_29 : decode cX7_heard 29 = .ok (.ireturn, 1) := by decide +kernel
theorem dX7_heard_30 : decode cX7_heard 30 = .ok (.iload 4, 2) := by decide +kernel
theorem dX7_heard_32 : decode cX7_heard 32 = .ok (.tableswitch 62 0 2 #[28, 36, 45], 28) := by decide +kernel
theorem dX7_heard_60 : decode cX7_heard 60 = .ok (.aload_n 0, 1) := by decide +kernel
theorem dX7_heard_61 : decode cX7_heard 61 = .ok (.aload 5, 2) := by decide +kernel
theorem dX7_heard_63 : decode cX7_heard 63 = .ok (.iload_n 3, 1) := by decide +kernel
theorem dX7_heard_64 : decode cX7_heard 64 = .ok (.invokevirtual 172, 3) := by decide +kernel
theorem dX7_heard_67 : decode cX7_heard 67 = .ok (.ireturn, 1) := by decide +kernel
theorem dX7_heard_68 : decode cX7_heard 68 = .ok (.aload_n 0, 1) := by decide +kernel
theorem dX7_heard_69 : decode cX7_heard 69 = .ok (.aload 5, 2) := by decide +kernel
theorem dX7_heard_71 : decode cX7_heard 71 = .ok (.iload_n 2, 1) := by decide +kernel
theorem dX7_heard_72 : decode cX7_heard 72 = .ok (.iload_n 3, 1) := by decide +kernel
theorem dX7_heard_73 : decode cX7_heard 73 = .ok (.invokevirtual 176, 3) := by decide +kernel
theorem dX7_heard_76 : decode cX7_heard 76 = .ok (.ireturn, 1) := by decide +kernel
theorem dX7_heard_77 : decode cX7_heard 77 = .ok (.aload_n 0, 1) := by decide +kernel
theorem dX7_heard_78 : decode cX7_heard 78 = .ok (.aload 5, 2) := by decide +kernel
theorem dX7_heard_80 : decode cX7_heard 80 = .ok (.iload_n 2, 1) := by decide +kernel
theorem dX7_heard_81 : decode cX7_heard 81 = .ok (.iload_n 3, 1) := by decide +kernel
theorem dX7_heard_82 : decode cX7_heard 82 = .ok (.invokevirtual 180, 3) := by decide +kernel
theorem dX7_heard_85 : decode cX7_heard 85 = .ok (.ifCond .eq 7, 3) := by decide +kernel
theorem dX7_heard_88 : decode cX7_heard 88 = .ok (.iconst 1, 1) := by decide +kernel
theorem dX7_heard_89 : decode cX7_heard 89 = .ok (.goto 4, 3) := by decide +kernel
theorem dX7_heard_92 : decode cX7_heard 92 = .ok (.iconst 0, 1) := by decide +kernel
theorem dX7_heard_93 : decode cX7_heard 93 = .ok (.ireturn, 1) := by decide +kernel
theorem dX7_heard_94 : decode cX7_heard 94 = .ok (.iconst (-1), 1) := by decide +kernel
theorem dX7_heard_95 : decode cX7_heard 95 = .ok (.ireturn, 1) := by decide +kernel
theorem dX7_houseful_0 : decode cX7_houseful 0 = .ok (.aload_n 0, 1) := by decide +kernel
theorem dX7_houseful_1 : decode cX7_houseful 1 = .ok (.iload_n 1, 1) := by decide +kernel
theorem dX7_houseful_2 : decode cX7_houseful 2 = .ok (.invokevirtual 139, 3) := by decide +kernel
theorem dX7_houseful_5 : decode cX7_houseful 5 = .ok (.astore_n 3, 1) := by decide +kernel
theorem dX7_houseful_6 : decode cX7_houseful 6 = .ok (.aload_n 3, 1) := by decide +kernel
theorem dX7_houseful_7 : decode cX7_houseful 7 = .ok (.ifnull 15, 3) := by decide +kernel
theorem dX7_houseful_10 : decode cX7_houseful 10 = .ok (.iload_n 2, 1) := by decide +kernel
theorem dX7_houseful_11 : decode cX7_houseful 11 = .ok (.iconst (-1), 1) := by decide +kernel
theorem dX7_houseful_12 : decode cX7_houseful 12 = .ok (.if_icmp .eq 12, 3) := by decide +kernel
theorem dX7_houseful_15 : decode cX7_houseful 15 = .ok (.iload_n 2, 1) := by decide +kernel
theorem dX7_houseful_16 : decode cX7_houseful 16 = .ok (.invokestatic 143, 3) := by decide +kernel
theorem dX7_houseful_19 : decode cX7_houseful 19 = .ok (.ifCond .ne 5, 3) := by decide +kernel
theorem dX7_houseful_22 : decode cX7_houseful 22 = .ok (.iconst (-1), 1) := by decide +kernel
theorem dX7_houseful_23 : decode cX7_houseful 23 = .ok (.ireturn, 1) := by decide +kernel
theorem dX7_houseful_24 : decode cX7_houseful 24 = .ok (.iconst 0, 1) := by decide +kernel
theorem dX7_houseful_25 : decode cX7_houseful 25 = .ok (.istore 4, 2) := by decide +kernel
theorem dX7_houseful_27 : decode cX7_houseful 27 = .ok (.iconst 0, 1) := by decide +kernel
theorem dX7_houseful_28 : decode cX7_houseful 28 = .ok (.istore 5, 2) := by decide +kernel
theorem dX7_houseful_30 : decode cX7_houseful 30 = .ok (.iload 5, 2) := by decide +kernel
theorem dX7_houseful_32 : decode cX7_houseful 32 = .ok (.aload_n 0, 1) := by decide +kernel
theorem dX7_houseful_33 : decode cX7_houseful 33 = .ok (.getfield 90, 3) := by decide +kernel
theorem dX7_houseful_36 : decode cX7_houseful 36 = .ok (.if_icmp .ge 51, 3) := by decide +kernel
theorem dX7_houseful_39 : decode cX7_houseful 39 = .ok (.iload_n 2, 1) := by decide +kernel
theorem dX7_houseful_40 : decode cX7_houseful 40 = .ok (.iconst (-1), 1) := by decide +kernel
theorem dX7_houseful_41 : decode cX7_houseful 41 = .ok (.if_icmp .ne 13, 3) := by decide +kernel
theorem dX7_houseful_44 : decode cX7_houseful 44 = .ok (.aload_n 0, 1) := by decide +kernel
theorem dX7_houseful_45 : decode cX7_houseful 45 = .ok (.aload_n 3, 1) := by decide +kernel
theorem dX7_houseful_46 : decode cX7_houseful 46 = .ok (.iload 5, 2) := by decide +kernel
theorem dX7_houseful_48 : decode cX7_houseful 48 = .ok (.invokevirtual 184, 3) := by decide +kernel
theorem dX7_houseful_51 : decode cX7_houseful 51 = .ok (.goto 14, 3) := by decide +kernel
theorem dX7_houseful_54 : decode cX7_houseful 54 = .ok (.aload_n 0, 1) := by decide +kernel
theorem dX7_houseful_55 : decode cX7_houseful 55 = .ok (.aload_n 3, 1) := by decide +kernel
theorem dX7_houseful_56 : decode cX7_houseful 56 = .ok (.iload 5, 2) := by decide +kernel
theorem dX7_houseful_58 : decode cX7_houseful 58 = .ok (.iload_n 2, 1) := by decide +kernel
theorem dX7_houseful_59 : decode cX7_houseful 59 = .ok (.invokevirtual 146, 3) := by decide +kernel
theorem dX7_houseful_62 : decode cX7_houseful 62 = .ok (.getfield 166, 3) := by decide +kernel
theorem dX7_houseful_65 : decode cX7_houseful 65 = .ok (.istore 6, 2) := by decide +kernel
theorem dX7_houseful_67 : decode cX7_houseful 67 = .ok (.iload 6, 2) := by decide +kernel
theorem dX7_houseful_69 : decode cX7_houseful 69 = .ok (.ifCond .eq 12, 3) := by decide +kernel
theorem dX7_houseful_72 : decode cX7_houseful 72 = .ok (.iload 4, 2) := by decide +kernel
theorem dX7_houseful_74 : decode cX7_houseful 74 = .ok (.iconst 1, 1) := by decide +kernel
theorem dX7_houseful_75 : decode cX7_houseful 75 = .ok (.iload 5, 2) := by decide +kernel
theorem dX7_houseful_77 : decode cX7_houseful 77 = .ok (.ishl, 1) := by decide +kernel
theorem dX7_houseful_78 : decode cX7_houseful 78 = .ok (.ior, 1) := by decide +kernel
theorem dX7_houseful_79 : decode cX7_houseful 79 = .ok (.istore 4, 2) := by decide +kernel
theorem dX7_houseful_81 : decode cX7_houseful 81 = .ok (.iinc 5 1, 3) := by decide +kernel
theorem dX7_houseful_84 : decode cX7_houseful 84 = .ok (.goto (-54), 3) := by decide +kernel
theorem dX7_houseful_87 : decode cX7_houseful 87 = .ok (.iload 4, 2) := by decide +kernel
theorem dX7_houseful_89 : decode cX7_houseful 89 = .ok (.ireturn, 1) := by decide +kernel
theorem dX7_drawn_0 : decode cX7_drawn 0 = .ok (.aload_n 0, 1) := by decide +kernel
theorem dX7_drawn_1 : decode cX7_drawn 1 = .ok (.iload_n 1, 1) := by decide +kernel
theorem dX7_drawn_2 : decode cX7_drawn 2 = .ok (.invokevirtual 139, 3) := by decide +kernel
theorem dX7_drawn_5 : decode cX7_drawn 5 = .ok (.astore 4, 2) := by decide +kernel
theorem dX7_drawn_7 : decode cX7_drawn 7 = .ok (.aload 4, 2) := by decide +kernel
theorem dX7_drawn_9 : decode cX7_drawn 9 = .ok (.ifnull 18, 3) := by decide +kernel
theorem dX7_drawn_12 : decode cX7_drawn 12 = .ok (.aload_n 0, 1) := by decide +kernel
theorem dX7_drawn_13 : decode cX7_drawn 13 = .ok (.iload_n 2, 1) := by decide +kernel
theorem dX7_drawn_14 : decode cX7_drawn 14 = .ok (.invokevirtual 93, 3) := by decide +kernel
theorem dX7_drawn_17 : decode cX7_drawn 17 = .ok (.ifCond .eq 10, 3) := by decide +kernel
theorem dX7_drawn_20 : decode cX7_drawn 20 = .ok (.iload_n 3, 1) := by decide +kernel
theorem dX7_drawn_21 : decode cX7_drawn 21 = .ok (.invokestatic 143, 3) := by decide +kernel
theorem dX7_drawn_24 : decode cX7_drawn 24 = .ok (.ifCond .ne 5, 3) := by decide +kernel
theorem dX7_drawn_27 : decode cX7_drawn 27 = .ok (.iconst (-1), 1) := by decide +kernel
theorem dX7_drawn_28 : decode cX7_drawn 28 = .ok (.ireturn, 1) := by decide +kernel
theorem dX7_drawn_29 : decode cX7_drawn 29 = .ok (.aload_n 0, 1) := by decide +kernel
theorem dX7_drawn_30 : decode cX7_drawn 30 = .ok (.aload 4, 2) := by decide +kernel
theorem dX7_drawn_32 : decode cX7_drawn 32 = .ok (.iload_n 3, 1) := by decide +kernel
theorem dX7_drawn_33 : decode cX7_drawn 33 = .ok (.invokevirtual 188, 3) := by decide +kernel
theorem dX7_drawn_36 : decode cX7_drawn 36 = .ok (.ifCond .eq 23, 3) := by decide +kernel
theorem dX7_drawn_39 : decode cX7_drawn 39 = .ok (.aload_n 0, 1) := by decide +kernel
theorem dX7_drawn_40 : decode cX7_drawn 40 = .ok (.aload 4, 2) := by decide +kernel
theorem dX7_drawn_42 : decode cX7_drawn 42 = .ok (.aload_n 0, 1) := by decide +kernel
theorem dX7_drawn_43 : decode cX7_drawn 43 = .ok (.getfield 12, 3) := by decide +kernel
theorem dX7_drawn_46 : decode cX7_drawn 46 = .ok (.getfield 86, 3) := by decide +kernel
theorem dX7_drawn_49 : decode cX7_drawn 49 = .ok (.invokevirtual 191, 3) := by decide +kernel
theorem dX7_drawn_52 : decode cX7_drawn 52 = .ok (.iload_n 3, 1) := by decide +kernel
theorem dX7_drawn_53 : decode cX7_drawn 53 = .ok (.invokevirtual 195, 3) := by decide +kernel
theorem dX7_drawn_56 : decode cX7_drawn 56 = .ok (.ifCond .ne 6, 3) := by decide +kernel
theorem dX7_drawn_59 : decode cX7_drawn 59 = .ok (.bipush (-5), 2) := by decide +kernel
theorem dX7_drawn_61 : decode cX7_drawn 61 = .ok (.ireturn, 1) := by decide +kernel
theorem dX7_drawn_62 : decode cX7_drawn 62 = .ok (.aload_n 0, 1) := by decide +kernel
theorem dX7_drawn_63 : decode cX7_drawn 63 = .ok (.aload 4, 2) := by decide +kernel
theorem dX7_drawn_65 : decode cX7_drawn 65 = .ok (.iload_n 2, 1) := by decide +kernel
theorem dX7_drawn_66 : decode cX7_drawn 66 = .ok (.iload_n 3, 1) := by decide +kernel
theorem dX7_drawn_67 : decode cX7_drawn 67 = .ok (.invokevirtual 146, 3) := by decide +kernel
theorem dX7_drawn_70 : decode cX7_drawn 70 = .ok (.invokevirtual 199, 3) := by decide +kernel
theorem dX7_drawn_73 : decode cX7_drawn 73 = .ok (.istore 5, 2) := by decide +kernel
theorem dX7_drawn_75 : decode cX7_drawn 75 = .ok (.bipush 40, 2) := by decide +kernel
theorem dX7_drawn_77 : decode cX7_drawn 77 = .ok (.istore 6, 2) := by decide +kernel
theorem dX7_drawn_79 : decode cX7_drawn 79 = .ok (.iload 6, 2) := by decide +kernel
theorem dX7_drawn_81 : decode cX7_drawn 81 = .ok (.aload_n 0, 1) := by decide +kernel
theorem dX7_drawn_82 : decode cX7_drawn 82 = .ok (.getfield 12, 3) := by decide +kernel
theorem dX7_drawn_85 : decode cX7_drawn 85 = .ok (.getfield 77, 3) := by decide +kernel
theorem dX7_drawn_88 : decode cX7_drawn 88 = .ok (.if_icmp .lt 45, 3) := by decide +kernel
theorem dX7_drawn_91 : decode cX7_drawn 91 = .ok (.iload 6, 2) := by decide +kernel
theorem dX7_drawn_93 : decode cX7_drawn 93 = .ok (.aload 4, 2) := by decide +kernel
theorem dX7_drawn_95 : decode cX7_drawn 95 = .ok (.aload_n 0, 1) := by decide +kernel
theorem dX7_drawn_96 : decode cX7_drawn 96 = .ok (.getfield 12, 3) := by decide +kernel
theorem dX7_drawn_99 : decode cX7_drawn 99 = .ok (.getfield 77, 3) := by decide +kernel
theorem dX7_drawn_102 : decode cX7_drawn 102 = .ok (.iload 6, 2) := by decide +kernel
theorem dX7_drawn_104 : decode cX7_drawn 104 = .ok (.invokevirtual 203, 3) := by decide +kernel
theorem dX7_drawn_107 : decode cX7_drawn 107 = .ok (.isub, 1) := by decide +kernel
theorem dX7_drawn_108 : decode cX7_drawn 108 = .ok (.invokestatic 206, 3) := by decide +kernel
theorem dX7_drawn_111 : decode cX7_drawn 111 = .ok (.iload 5, 2) := by decide +kernel
theorem dX7_drawn_113 : decode cX7_drawn 113 = .ok (.if_icmp .gt 14, 3) := by decide +kernel
