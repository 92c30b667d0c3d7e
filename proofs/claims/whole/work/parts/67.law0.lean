theorem d_L_law_0 : decode c_L_law 0 = .ok (.new 8, 3) := by decide +kernel
theorem d_L_law_3 : decode c_L_law 3 = .ok (.dup, 1) := by decide +kernel
theorem d_L_law_4 : decode c_L_law 4 = .ok (.invokespecial 68, 3) := by decide +kernel
theorem d_L_law_7 : decode c_L_law 7 = .ok (.astore_n 1, 1) := by decide +kernel
theorem d_L_law_8 : decode c_L_law 8 = .ok (.new 69, 3) := by decide +kernel
theorem d_L_law_11 : decode c_L_law 11 = .ok (.dup, 1) := by decide +kernel
theorem d_L_law_12 : decode c_L_law 12 = .ok (.invokespecial 71, 3) := by decide +kernel
theorem d_L_law_15 : decode c_L_law 15 = .ok (.astore_n 2, 1) := by decide +kernel
theorem d_L_law_16 : decode c_L_law 16 = .ok (.iconst 1, 1) := by decide +kernel
theorem d_L_law_17 : decode c_L_law 17 = .ok (.newarray .long, 2) := by decide +kernel
theorem d_L_law_19 : decode c_L_law 19 = .ok (.astore_n 3, 1) := by decide +kernel
theorem d_L_law_20 : decode c_L_law 20 = .ok (.iconst 1, 1) := by decide +kernel
theorem d_L_law_21 : decode c_L_law 21 = .ok (.newarray .double, 2) := by decide +kernel
theorem d_L_law_23 : decode c_L_law 23 = .ok (.astore 4, 2) := by decide +kernel
theorem d_L_law_25 : decode c_L_law 25 = .ok (.iconst 0, 1) := by decide +kernel
theorem d_L_law_26 : decode c_L_law 26 = .ok (.istore 5, 2) := by decide +kernel
theorem d_L_law_28 : decode c_L_law 28 = .ok (.iload 5, 2) := by decide +kernel
theorem d_L_law_30 : decode c_L_law 30 = .ok (.aload_n 0, 1) := by decide +kernel
theorem d_L_law_31 : decode c_L_law 31 = .ok (.arraylength, 1) := by decide +kernel
theorem d_L_law_32 : decode c_L_law 32 = .ok (.iconst 4, 1) := by decide +kernel
theorem d_L_law_33 : decode c_L_law 33 = .ok (.isub, 1) := by decide +kernel
theorem d_L_law_34 : decode c_L_law 34 = .ok (.if_icmp .gt 1144, 3) := by decide +kernel
theorem d_L_law_37 : decode c_L_law 37 = .ok (.aload_n 0, 1) := by decide +kernel
theorem d_L_law_38 : decode c_L_law 38 = .ok (.iload 5, 2) := by decide +kernel
theorem d_L_law_40 : decode c_L_law 40 = .ok (.iaload, 1) := by decide +kernel
theorem d_L_law_41 : decode c_L_law 41 = .ok (.bipush 31, 2) := by decide +kernel
theorem d_L_law_43 : decode c_L_law 43 = .ok (.iand, 1) := by decide +kernel
theorem d_L_law_44 : decode c_L_law 44 = .ok (.tableswitch 1128 0 17 #[88, 188, 229, 329, 405, 483, 551, 607, 620, 675, 741, 806, 850, 922, 978, 991, 1016, 1072], 88) := by decide +kernel
theorem d_L_law_132 : decode c_L_law 132 = .ok (.aload_n 1, 1) := by decide +kernel
theorem d_L_law_133 : decode c_L_law 133 = .ok (.aload_n 0, 1) := by decide +kernel
theorem d_L_law_134 : decode c_L_law 134 = .ok (.iload 5, 2) := by decide +kernel
theorem d_L_law_136 : decode c_L_law 136 = .ok (.iconst 1, 1) := by decide +kernel
theorem d_L_law_137 : decode c_L_law 137 = .ok (.iadd, 1) := by decide +kernel
theorem d_L_law_138 : decode c_L_law 138 = .ok (.iaload, 1) := by decide +kernel
theorem d_L_law_139 : decode c_L_law 139 = .ok (.i2l, 1) := by decide +kernel
theorem d_L_law_140 : decode c_L_law 140 = .ok (.bipush 32, 2) := by decide +kernel
theorem d_L_law_142 : decode c_L_law 142 = .ok (.lshl, 1) := by decide +kernel
theorem d_L_law_143 : decode c_L_law 143 = .ok (.aload_n 0, 1) := by decide +kernel
theorem d_L_law_144 : decode c_L_law 144 = .ok (.iload 5, 2) := by decide +kernel
theorem d_L_law_146 : decode c_L_law 146 = .ok (.iconst 2, 1) := by decide +kernel
theorem d_L_law_147 : decode c_L_law 147 = .ok (.iadd, 1) := by decide +kernel
theorem d_L_law_148 : decode c_L_law 148 = .ok (.iaload, 1) := by decide +kernel
theorem d_L_law_149 : decode c_L_law 149 = .ok (.i2l, 1) := by decide +kernel
theorem d_L_law_150 : decode c_L_law 150 = .ok (.ldc2_w 72, 3) := by decide +kernel
theorem d_L_law_153 : decode c_L_law 153 = .ok (.land, 1) := by decide +kernel
theorem d_L_law_154 : decode c_L_law 154 = .ok (.lor, 1) := by decide +kernel
theorem d_L_law_155 : decode c_L_law 155 = .ok (.aload_n 0, 1) := by decide +kernel
theorem d_L_law_156 : decode c_L_law 156 = .ok (.iload 5, 2) := by decide +kernel
theorem d_L_law_158 : decode c_L_law 158 = .ok (.iconst 3, 1) := by decide +kernel
theorem d_L_law_159 : decode c_L_law 159 = .ok (.iadd, 1) := by decide +kernel
theorem d_L_law_160 : decode c_L_law 160 = .ok (.iaload, 1) := by decide +kernel
theorem d_L_law_161 : decode c_L_law 161 = .ok (.aload_n 3, 1) := by decide +kernel
theorem d_L_law_162 : decode c_L_law 162 = .ok (.invokestatic 74, 3) := by decide +kernel
theorem d_L_law_165 : decode c_L_law 165 = .ok (.istore 6, 2) := by decide +kernel
theorem d_L_law_167 : decode c_L_law 167 = .ok (.aload_n 2, 1) := by decide +kernel
theorem d_L_law_168 : decode c_L_law 168 = .ok (.aload_n 0, 1) := by decide +kernel
theorem d_L_law_169 : decode c_L_law 169 = .ok (.iload 5, 2) := by decide +kernel
theorem d_L_law_171 : decode c_L_law 171 = .ok (.iconst 1, 1) := by decide +kernel
theorem d_L_law_172 : decode c_L_law 172 = .ok (.iadd, 1) := by decide +kernel
theorem d_L_law_173 : decode c_L_law 173 = .ok (.iaload, 1) := by decide +kernel
theorem d_L_law_174 : decode c_L_law 174 = .ok (.i2l, 1) := by decide +kernel
theorem d_L_law_175 : decode c_L_law 175 = .ok (.bipush 32, 2) := by decide +kernel
theorem d_L_law_177 : decode c_L_law 177 = .ok (.lshl, 1) := by decide +kernel
theorem d_L_law_178 : decode c_L_law 178 = .ok (.aload_n 0, 1) := by decide +kernel
theorem d_L_law_179 : decode c_L_law 179 = .ok (.iload 5, 2) := by decide +kernel
theorem d_L_law_181 : decode c_L_law 181 = .ok (.iconst 2, 1) := by decide +kernel
theorem d_L_law_182 : decode c_L_law 182 = .ok (.iadd, 1) := by decide +kernel
theorem d_L_law_183 : decode c_L_law 183 = .ok (.iaload, 1) := by decide +kernel
theorem d_L_law_184 : decode c_L_law 184 = .ok (.i2l, 1) := by decide +kernel
theorem d_L_law_185 : decode c_L_law 185 = .ok (.ldc2_w 72, 3) := by decide +kernel
theorem d_L_law_188 : decode c_L_law 188 = .ok (.land, 1) := by decide +kernel
theorem d_L_law_189 : decode c_L_law 189 = .ok (.lor, 1) := by decide +kernel
theorem d_L_law_190 : decode c_L_law 190 = .ok (.aload_n 0, 1) := by decide +kernel
theorem d_L_law_191 : decode c_L_law 191 = .ok (.iload 5, 2) := by decide +kernel
theorem d_L_law_193 : decode c_L_law 193 = .ok (.iconst 3, 1) := by decide +kernel
theorem d_L_law_194 : decode c_L_law 194 = .ok (.iadd, 1) := by decide +kernel
theorem d_L_law_195 : decode c_L_law 195 = .ok (.iaload, 1) := by decide +kernel
theorem d_L_law_196 : decode c_L_law 196 = .ok (.invokevirtual 79, 3) := by decide +kernel
theorem d_L_law_199 : decode c_L_law 199 = .ok (.istore 7, 2) := by decide +kernel
theorem d_L_law_201 : decode c_L_law 201 = .ok (.aload_n 2, 1) := by decide +kernel
theorem d_L_law_202 : decode c_L_law 202 = .ok (.invokevirtual 80, 3) := by decide +kernel
theorem d_L_law_205 : decode c_L_law 205 = .ok (.iload 6, 2) := by decide +kernel
theorem d_L_law_207 : decode c_L_law 207 = .ok (.if_icmp .eq 5, 3) := by decide +kernel
theorem d_L_law_210 : decode c_L_law 210 = .ok (.iconst 0, 1) := by decide +kernel
theorem d_L_law_211 : decode c_L_law 211 = .ok (.ireturn, 1) := by decide +kernel
theorem d_L_law_212 : decode c_L_law 212 = .ok (.iload 6, 2) := by decide +kernel
theorem d_L_law_214 : decode c_L_law 214 = .ok (.ifCond .ne 15, 3) := by decide +kernel
theorem d_L_law_217 : decode c_L_law 217 = .ok (.aload_n 3, 1) := by decide +kernel
theorem d_L_law_218 : decode c_L_law 218 = .ok (.iconst 0, 1) := by decide +kernel
theorem d_L_law_219 : decode c_L_law 219 = .ok (.laload, 1) := by decide +kernel
theorem d_L_law_220 : decode c_L_law 220 = .ok (.iload 7, 2) := by decide +kernel
theorem d_L_law_222 : decode c_L_law 222 = .ok (.i2l, 1) := by decide +kernel
theorem d_L_law_223 : decode c_L_law 223 = .ok (.lcmp, 1) := by decide +kernel
theorem d_L_law_224 : decode c_L_law 224 = .ok (.ifCond .eq 5, 3) := by decide +kernel
theorem d_L_law_227 : decode c_L_law 227 = .ok (.iconst 0, 1) := by decide +kernel
theorem d_L_law_228 : decode c_L_law 228 = .ok (.ireturn, 1) := by decide +kernel
theorem d_L_law_229 : decode c_L_law 229 = .ok (.goto 943, 3) := by decide +kernel
theorem d_L_law_232 : decode c_L_law 232 = .ok (.aload_n 1, 1) := by decide +kernel
theorem d_L_law_233 : decode c_L_law 233 = .ok (.aload_n 0, 1) := by decide +kernel
theorem d_L_law_234 : decode c_L_law 234 = .ok (.iload 5, 2) := by decide +kernel
theorem d_L_law_236 : decode c_L_law 236 = .ok (.iconst 1, 1) := by decide +kernel
theorem d_L_law_237 : decode c_L_law 237 = .ok (.iadd, 1) := by decide +kernel
theorem d_L_law_238 : decode c_L_law 238 = .ok (.iaload, 1) := by decide +kernel
theorem d_L_law_239 : decode c_L_law 239 = .ok (.ifCond .eq 7, 3) := by decide +kernel
theorem d_L_law_242 : decode c_L_law 242 = .ok (.iconst 1, 1) := by decide +kernel
theorem d_L_law_243 : decode c_L_law 243 = .ok (.goto 4, 3) := by decide +kernel
theorem d_L_law_246 : decode c_L_law 246 = .ok (.iconst 0, 1) := by decide +kernel
theorem d_L_law_247 : decode c_L_law 247 = .ok (.invokevirtual 83, 3) := by decide +kernel
theorem d_L_law_250 : decode c_L_law 250 = .ok (.aload_n 2, 1) := by decide +kernel
theorem d_L_law_251 : decode c_L_law 251 = .ok (.aload_n 0, 1) := by decide +kernel
theorem d_L_law_252 : decode c_L_law 252 = .ok (.iload 5, 2) := by decide +kernel
theorem d_L_law_254 : decode c_L_law 254 = .ok (.iconst 1, 1) := by decide +kernel
theorem d_L_law_255 : decode c_L_law 255 = .ok (.iadd, 1) := by decide +kernel
theorem d_L_law_256 : decode c_L_law 256 = .ok (.iaload, 1) := by decide +kernel
theorem d_L_law_257 : decode c_L_law 257 = .ok (.ifCond .eq 7, 3) := by decide +kernel
theorem d_L_law_260 : decode c_L_law 260 = .ok (.iconst 1, 1) := by decide +kernel
theorem d_L_law_261 : decode c_L_law 261 = .ok (.goto 4, 3) := by decide +kernel
theorem d_L_law_264 : decode c_L_law 264 = .ok (.iconst 0, 1) := by decide +kernel
theorem d_L_law_265 : decode c_L_law 265 = .ok (.invokevirtual 86, 3) := by decide +kernel
theorem d_L_law_268 : decode c_L_law 268 = .ok (.if_icmp .eq 904, 3) := by decide +kernel
