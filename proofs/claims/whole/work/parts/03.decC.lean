theorem d_La_path_0 : decode method_3_code 0 = .ok (.aload_n 1, 1) := by decide +kernel
theorem d_La_path_1 : decode method_3_code 1 = .ok (.iconst 0, 1) := by decide +kernel
theorem d_La_path_2 : decode method_3_code 2 = .ok (.aload_n 0, 1) := by decide +kernel
theorem d_La_path_3 : decode method_3_code 3 = .ok (.invokevirtual 7, 3) := by decide +kernel
theorem d_La_path_6 : decode method_3_code 6 = .ok (.i2l, 1) := by decide +kernel
theorem d_La_path_7 : decode method_3_code 7 = .ok (.lastore, 1) := by decide +kernel
theorem d_La_path_8 : decode method_3_code 8 = .ok (.goto 6, 3) := by decide +kernel
theorem d_La_path_11 : decode method_3_code 11 = .ok (.astore_n 2, 1) := by decide +kernel
theorem d_La_path_12 : decode method_3_code 12 = .ok (.iconst 1, 1) := by decide +kernel
theorem d_La_path_13 : decode method_3_code 13 = .ok (.ireturn, 1) := by decide +kernel
theorem d_La_path_14 : decode method_3_code 14 = .ok (.iconst 0, 1) := by decide +kernel
theorem d_La_path_15 : decode method_3_code 15 = .ok (.ireturn, 1) := by decide +kernel
theorem d_La_write_0 : decode method_4_code 0 = .ok (.aload_n 0, 1) := by decide +kernel
theorem d_La_write_1 : decode method_4_code 1 = .ok (.iload_n 1, 1) := by decide +kernel
theorem d_La_write_2 : decode method_4_code 2 = .ok (.iload_n 2, 1) := by decide +kernel
theorem d_La_write_3 : decode method_4_code 3 = .ok (.invokevirtual 15, 3) := by decide +kernel
theorem d_La_write_6 : decode method_4_code 6 = .ok (.goto 9, 3) := by decide +kernel
theorem d_La_write_9 : decode method_4_code 9 = .ok (.astore_n 3, 1) := by decide +kernel
theorem d_La_write_10 : decode method_4_code 10 = .ok (.iconst 1, 1) := by decide +kernel
theorem d_La_write_11 : decode method_4_code 11 = .ok (.ireturn, 1) := by decide +kernel
theorem d_La_write_12 : decode method_4_code 12 = .ok (.astore_n 3, 1) := by decide +kernel
theorem d_La_write_13 : decode method_4_code 13 = .ok (.iconst 2, 1) := by decide +kernel
theorem d_La_write_14 : decode method_4_code 14 = .ok (.ireturn, 1) := by decide +kernel
theorem d_La_write_15 : decode method_4_code 15 = .ok (.iconst 0, 1) := by decide +kernel
theorem d_La_write_16 : decode method_4_code 16 = .ok (.ireturn, 1) := by decide +kernel
theorem d_La_rename_0 : decode method_5_code 0 = .ok (.aload_n 0, 1) := by decide +kernel
theorem d_La_rename_1 : decode method_5_code 1 = .ok (.iload_n 1, 1) := by decide +kernel
theorem d_La_rename_2 : decode method_5_code 2 = .ok (.iload_n 2, 1) := by decide +kernel
theorem d_La_rename_3 : decode method_5_code 3 = .ok (.iload_n 3, 1) := by decide +kernel
theorem d_La_rename_4 : decode method_5_code 4 = .ok (.iload 4, 2) := by decide +kernel
theorem d_La_rename_6 : decode method_5_code 6 = .ok (.invokevirtual 23, 3) := by decide +kernel
theorem d_La_rename_9 : decode method_5_code 9 = .ok (.goto 15, 3) := by decide +kernel
theorem d_La_rename_12 : decode method_5_code 12 = .ok (.astore 5, 2) := by decide +kernel
theorem d_La_rename_14 : decode method_5_code 14 = .ok (.iconst 1, 1) := by decide +kernel
theorem d_La_rename_15 : decode method_5_code 15 = .ok (.ireturn, 1) := by decide +kernel
theorem d_La_rename_16 : decode method_5_code 16 = .ok (.astore 5, 2) := by decide +kernel
theorem d_La_rename_18 : decode method_5_code 18 = .ok (.iconst 2, 1) := by decide +kernel
theorem d_La_rename_19 : decode method_5_code 19 = .ok (.ireturn, 1) := by decide +kernel
theorem d_La_rename_20 : decode method_5_code 20 = .ok (.astore 5, 2) := by decide +kernel
theorem d_La_rename_22 : decode method_5_code 22 = .ok (.iconst 3, 1) := by decide +kernel
theorem d_La_rename_23 : decode method_5_code 23 = .ok (.ireturn, 1) := by decide +kernel
theorem d_La_rename_24 : decode method_5_code 24 = .ok (.iconst 0, 1) := by decide +kernel
theorem d_La_rename_25 : decode method_5_code 25 = .ok (.ireturn, 1) := by decide +kernel
theorem d_La_delete_0 : decode method_6_code 0 = .ok (.aload_n 0, 1) := by decide +kernel
theorem d_La_delete_1 : decode method_6_code 1 = .ok (.iload_n 1, 1) := by decide +kernel
theorem d_La_delete_2 : decode method_6_code 2 = .ok (.iload_n 2, 1) := by decide +kernel
theorem d_La_delete_3 : decode method_6_code 3 = .ok (.invokevirtual 27, 3) := by decide +kernel
theorem d_La_delete_6 : decode method_6_code 6 = .ok (.goto 12, 3) := by decide +kernel
theorem d_La_delete_9 : decode method_6_code 9 = .ok (.astore_n 3, 1) := by decide +kernel
theorem d_La_delete_10 : decode method_6_code 10 = .ok (.iconst 1, 1) := by decide +kernel
theorem d_La_delete_11 : decode method_6_code 11 = .ok (.ireturn, 1) := by decide +kernel
theorem d_La_delete_12 : decode method_6_code 12 = .ok (.astore_n 3, 1) := by decide +kernel
theorem d_La_delete_13 : decode method_6_code 13 = .ok (.iconst 2, 1) := by decide +kernel
theorem d_La_delete_14 : decode method_6_code 14 = .ok (.ireturn, 1) := by decide +kernel
theorem d_La_delete_15 : decode method_6_code 15 = .ok (.astore_n 3, 1) := by decide +kernel
theorem d_La_delete_16 : decode method_6_code 16 = .ok (.iconst 3, 1) := by decide +kernel
theorem d_La_delete_17 : decode method_6_code 17 = .ok (.ireturn, 1) := by decide +kernel
theorem d_La_delete_18 : decode method_6_code 18 = .ok (.iconst 0, 1) := by decide +kernel
theorem d_La_delete_19 : decode method_6_code 19 = .ok (.ireturn, 1) := by decide +kernel
theorem d_La_breakOff_0 : decode method_7_code 0 = .ok (.aload_n 2, 1) := by decide +kernel
theorem d_La_breakOff_1 : decode method_7_code 1 = .ok (.iconst 0, 1) := by decide +kernel
theorem d_La_breakOff_2 : decode method_7_code 2 = .ok (.aload_n 0, 1) := by decide +kernel
theorem d_La_breakOff_3 : decode method_7_code 3 = .ok (.iload_n 1, 1) := by decide +kernel
theorem d_La_breakOff_4 : decode method_7_code 4 = .ok (.invokevirtual 30, 3) := by decide +kernel
theorem d_La_breakOff_7 : decode method_7_code 7 = .ok (.i2l, 1) := by decide +kernel
theorem d_La_breakOff_8 : decode method_7_code 8 = .ok (.lastore, 1) := by decide +kernel
theorem d_La_breakOff_9 : decode method_7_code 9 = .ok (.goto 6, 3) := by decide +kernel
theorem d_La_breakOff_12 : decode method_7_code 12 = .ok (.astore_n 3, 1) := by decide +kernel
theorem d_La_breakOff_13 : decode method_7_code 13 = .ok (.iconst 1, 1) := by decide +kernel
theorem d_La_breakOff_14 : decode method_7_code 14 = .ok (.ireturn, 1) := by decide +kernel
theorem d_La_breakOff_15 : decode method_7_code 15 = .ok (.iconst 0, 1) := by decide +kernel
theorem d_La_breakOff_16 : decode method_7_code 16 = .ok (.ireturn, 1) := by decide +kernel
theorem d_La_law_0 : decode code 0 = .ok (.new 8, 3) := by decide +kernel
theorem d_La_law_3 : decode code 3 = .ok (.dup, 1) := by decide +kernel
theorem d_La_law_4 : decode code 4 = .ok (.invokespecial 34, 3) := by decide +kernel
theorem d_La_law_7 : decode code 7 = .ok (.astore_n 1, 1) := by decide +kernel
theorem d_La_law_8 : decode code 8 = .ok (.new 35, 3) := by decide +kernel
theorem d_La_law_11 : decode code 11 = .ok (.dup, 1) := by decide +kernel
theorem d_La_law_12 : decode code 12 = .ok (.invokespecial 37, 3) := by decide +kernel
theorem d_La_law_15 : decode code 15 = .ok (.astore_n 2, 1) := by decide +kernel
theorem d_La_law_16 : decode code 16 = .ok (.iconst 1, 1) := by decide +kernel
theorem d_La_law_17 : decode code 17 = .ok (.newarray .long, 2) := by decide +kernel
theorem d_La_law_19 : decode code 19 = .ok (.astore_n 3, 1) := by decide +kernel
theorem d_La_law_20 : decode code 20 = .ok (.iconst 0, 1) := by decide +kernel
theorem d_La_law_21 : decode code 21 = .ok (.istore 4, 2) := by decide +kernel
theorem d_La_law_23 : decode code 23 = .ok (.iload 4, 2) := by decide +kernel
theorem d_La_law_25 : decode code 25 = .ok (.aload_n 0, 1) := by decide +kernel
theorem d_La_law_26 : decode code 26 = .ok (.arraylength, 1) := by decide +kernel
theorem d_La_law_27 : decode code 27 = .ok (.iconst 5, 1) := by decide +kernel
theorem d_La_law_28 : decode code 28 = .ok (.isub, 1) := by decide +kernel
theorem d_La_law_29 : decode code 29 = .ok (.if_icmp .gt 600, 3) := by decide +kernel
theorem d_La_law_32 : decode code 32 = .ok (.aload_n 0, 1) := by decide +kernel
theorem d_La_law_33 : decode code 33 = .ok (.iload 4, 2) := by decide +kernel
theorem d_La_law_35 : decode code 35 = .ok (.iaload, 1) := by decide +kernel
theorem d_La_law_36 : decode code 36 = .ok (.bipush 15, 2) := by decide +kernel
theorem d_La_law_38 : decode code 38 = .ok (.iand, 1) := by decide +kernel
theorem d_La_law_39 : decode code 39 = .ok (.tableswitch 584 0 11 #[61, 130, 174, 222, 294, 342, 355, 411, 448, 497, 522, 559], 61) := by decide +kernel
theorem d_La_law_100 : decode code 100 = .ok (.aload_n 1, 1) := by decide +kernel
theorem d_La_law_101 : decode code 101 = .ok (.aload_n 0, 1) := by decide +kernel
theorem d_La_law_102 : decode code 102 = .ok (.iload 4, 2) := by decide +kernel
theorem d_La_law_104 : decode code 104 = .ok (.iconst 1, 1) := by decide +kernel
theorem d_La_law_105 : decode code 105 = .ok (.iadd, 1) := by decide +kernel
theorem d_La_law_106 : decode code 106 = .ok (.iaload, 1) := by decide +kernel
theorem d_La_law_107 : decode code 107 = .ok (.i2l, 1) := by decide +kernel
theorem d_La_law_108 : decode code 108 = .ok (.bipush 32, 2) := by decide +kernel
theorem d_La_law_110 : decode code 110 = .ok (.lshl, 1) := by decide +kernel
theorem d_La_law_111 : decode code 111 = .ok (.aload_n 0, 1) := by decide +kernel
theorem d_La_law_112 : decode code 112 = .ok (.iload 4, 2) := by decide +kernel
theorem d_La_law_114 : decode code 114 = .ok (.iconst 2, 1) := by decide +kernel
theorem d_La_law_115 : decode code 115 = .ok (.iadd, 1) := by decide +kernel
theorem d_La_law_116 : decode code 116 = .ok (.iaload, 1) := by decide +kernel
theorem d_La_law_117 : decode code 117 = .ok (.i2l, 1) := by decide +kernel
theorem d_La_law_118 : decode code 118 = .ok (.ldc2_w 38, 3) := by decide +kernel
theorem d_La_law_121 : decode code 121 = .ok (.land, 1) := by decide +kernel
theorem d_La_law_122 : decode code 122 = .ok (.lor, 1) := by decide +kernel
theorem d_La_law_123 : decode code 123 = .ok (.aload_n 0, 1) := by decide +kernel
theorem d_La_law_124 : decode code 124 = .ok (.iload 4, 2) := by decide +kernel
theorem d_La_law_126 : decode code 126 = .ok (.iconst 3, 1) := by decide +kernel
theorem d_La_law_127 : decode code 127 = .ok (.iadd, 1) := by decide +kernel
theorem d_La_law_128 : decode code 128 = .ok (.iaload, 1) := by decide +kernel
theorem d_La_law_129 : decode code 129 = .ok (.invokevirtual 40, 3) := by decide +kernel
theorem d_La_law_132 : decode code 132 = .ok (.aload_n 2, 1) := by decide +kernel
theorem d_La_law_133 : decode code 133 = .ok (.aload_n 0, 1) := by decide +kernel
theorem d_La_law_134 : decode code 134 = .ok (.iload 4, 2) := by decide +kernel
theorem d_La_law_136 : decode code 136 = .ok (.iconst 1, 1) := by decide +kernel
theorem d_La_law_137 : decode code 137 = .ok (.iadd, 1) := by decide +kernel
theorem d_La_law_138 : decode code 138 = .ok (.iaload, 1) := by decide +kernel
theorem d_La_law_139 : decode code 139 = .ok (.i2l, 1) := by decide +kernel
theorem d_La_law_140 : decode code 140 = .ok (.bipush 32, 2) := by decide +kernel
theorem d_La_law_142 : decode code 142 = .ok (.lshl, 1) := by decide +kernel
theorem d_La_law_143 : decode code 143 = .ok (.aload_n 0, 1) := by decide +kernel
theorem d_La_law_144 : decode code 144 = .ok (.iload 4, 2) := by decide +kernel
theorem d_La_law_146 : decode code 146 = .ok (.iconst 2, 1) := by decide +kernel
theorem d_La_law_147 : decode code 147 = .ok (.iadd, 1) := by decide +kernel
theorem d_La_law_148 : decode code 148 = .ok (.iaload, 1) := by decide +kernel
theorem d_La_law_149 : decode code 149 = .ok (.i2l, 1) := by decide +kernel
theorem d_La_law_150 : decode code 150 = .ok (.ldc2_w 38, 3) := by decide +kernel
theorem d_La_law_153 : decode code 153 = .ok (.land, 1) := by decide +kernel
theorem d_La_law_154 : decode code 154 = .ok (.lor, 1) := by decide +kernel
theorem d_La_law_155 : decode code 155 = .ok (.aload_n 0, 1) := by decide +kernel
theorem d_La_law_156 : decode code 156 = .ok (.iload 4, 2) := by decide +kernel
theorem d_La_law_158 : decode code 158 = .ok (.iconst 3, 1) := by decide +kernel
theorem d_La_law_159 : decode code 159 = .ok (.iadd, 1) := by decide +kernel
theorem d_La_law_160 : decode code 160 = .ok (.iaload, 1) := by decide +kernel
theorem d_La_law_161 : decode code 161 = .ok (.invokevirtual 44, 3) := by decide +kernel
theorem d_La_law_164 : decode code 164 = .ok (.if_icmp .eq 459, 3) := by decide +kernel
theorem d_La_law_167 : decode code 167 = .ok (.iconst 0, 1) := by decide +kernel
theorem d_La_law_168 : decode code 168 = .ok (.ireturn, 1) := by decide +kernel
theorem d_La_law_169 : decode code 169 = .ok (.aload_n 1, 1) := by decide +kernel
theorem d_La_law_170 : decode code 170 = .ok (.aload_n 3, 1) := by decide +kernel
theorem d_La_law_171 : decode code 171 = .ok (.invokestatic 45, 3) := by decide +kernel
theorem d_La_law_174 : decode code 174 = .ok (.istore 5, 2) := by decide +kernel
theorem d_La_law_176 : decode code 176 = .ok (.aload_n 2, 1) := by decide +kernel
theorem d_La_law_177 : decode code 177 = .ok (.invokevirtual 50, 3) := by decide +kernel
theorem d_La_law_180 : decode code 180 = .ok (.istore 6, 2) := by decide +kernel
theorem d_La_law_182 : decode code 182 = .ok (.aload_n 2, 1) := by decide +kernel
theorem d_La_law_183 : decode code 183 = .ok (.invokevirtual 51, 3) := by decide +kernel
theorem d_La_law_186 : decode code 186 = .ok (.iload 5, 2) := by decide +kernel
theorem d_La_law_188 : decode code 188 = .ok (.if_icmp .eq 5, 3) := by decide +kernel
theorem d_La_law_191 : decode code 191 = .ok (.iconst 0, 1) := by decide +kernel
theorem d_La_law_192 : decode code 192 = .ok (.ireturn, 1) := by decide +kernel
theorem d_La_law_193 : decode code 193 = .ok (.iload 5, 2) := by decide +kernel
theorem d_La_law_195 : decode code 195 = .ok (.ifCond .ne 15, 3) := by decide +kernel
theorem d_La_law_198 : decode code 198 = .ok (.aload_n 3, 1) := by decide +kernel
theorem d_La_law_199 : decode code 199 = .ok (.iconst 0, 1) := by decide +kernel
theorem d_La_law_200 : decode code 200 = .ok (.laload, 1) := by decide +kernel
theorem d_La_law_201 : decode code 201 = .ok (.iload 6, 2) := by decide +kernel
theorem d_La_law_203 : decode code 203 = .ok (.i2l, 1) := by decide +kernel
theorem d_La_law_204 : decode code 204 = .ok (.lcmp, 1) := by decide +kernel
theorem d_La_law_205 : decode code 205 = .ok (.ifCond .eq 5, 3) := by decide +kernel
theorem d_La_law_208 : decode code 208 = .ok (.iconst 0, 1) := by decide +kernel
theorem d_La_law_209 : decode code 209 = .ok (.ireturn, 1) := by decide +kernel
theorem d_La_law_210 : decode code 210 = .ok (.goto 413, 3) := by decide +kernel
theorem d_La_law_213 : decode code 213 = .ok (.aload_n 1, 1) := by decide +kernel
theorem d_La_law_214 : decode code 214 = .ok (.aload_n 0, 1) := by decide +kernel
theorem d_La_law_215 : decode code 215 = .ok (.iload 4, 2) := by decide +kernel
theorem d_La_law_217 : decode code 217 = .ok (.iconst 1, 1) := by decide +kernel
theorem d_La_law_218 : decode code 218 = .ok (.iadd, 1) := by decide +kernel
theorem d_La_law_219 : decode code 219 = .ok (.iaload, 1) := by decide +kernel
theorem d_La_law_220 : decode code 220 = .ok (.aload_n 0, 1) := by decide +kernel
theorem d_La_law_221 : decode code 221 = .ok (.iload 4, 2) := by decide +kernel
theorem d_La_law_223 : decode code 223 = .ok (.iconst 2, 1) := by decide +kernel
theorem d_La_law_224 : decode code 224 = .ok (.iadd, 1) := by decide +kernel
theorem d_La_law_225 : decode code 225 = .ok (.iaload, 1) := by decide +kernel
theorem d_La_law_226 : decode code 226 = .ok (.invokestatic 54, 3) := by decide +kernel
theorem d_La_law_229 : decode code 229 = .ok (.istore 5, 2) := by decide +kernel
theorem d_La_law_231 : decode code 231 = .ok (.aload_n 2, 1) := by decide +kernel
theorem d_La_law_232 : decode code 232 = .ok (.aload_n 0, 1) := by decide +kernel
theorem d_La_law_233 : decode code 233 = .ok (.iload 4, 2) := by decide +kernel
theorem d_La_law_235 : decode code 235 = .ok (.iconst 1, 1) := by decide +kernel
theorem d_La_law_236 : decode code 236 = .ok (.iadd, 1) := by decide +kernel
theorem d_La_law_237 : decode code 237 = .ok (.iaload, 1) := by decide +kernel
theorem d_La_law_238 : decode code 238 = .ok (.aload_n 0, 1) := by decide +kernel
theorem d_La_law_239 : decode code 239 = .ok (.iload 4, 2) := by decide +kernel
theorem d_La_law_241 : decode code 241 = .ok (.iconst 2, 1) := by decide +kernel
theorem d_La_law_242 : decode code 242 = .ok (.iadd, 1) := by decide +kernel
theorem d_La_law_243 : decode code 243 = .ok (.iaload, 1) := by decide +kernel
theorem d_La_law_244 : decode code 244 = .ok (.invokevirtual 57, 3) := by decide +kernel
theorem d_La_law_247 : decode code 247 = .ok (.aload_n 2, 1) := by decide +kernel
theorem d_La_law_248 : decode code 248 = .ok (.invokevirtual 51, 3) := by decide +kernel
theorem d_La_law_251 : decode code 251 = .ok (.iload 5, 2) := by decide +kernel
theorem d_La_law_253 : decode code 253 = .ok (.if_icmp .eq 5, 3) := by decide +kernel
theorem d_La_law_256 : decode code 256 = .ok (.iconst 0, 1) := by decide +kernel
theorem d_La_law_257 : decode code 257 = .ok (.ireturn, 1) := by decide +kernel
theorem d_La_law_258 : decode code 258 = .ok (.goto 365, 3) := by decide +kernel
theorem d_La_law_261 : decode code 261 = .ok (.aload_n 1, 1) := by decide +kernel
theorem d_La_law_262 : decode code 262 = .ok (.aload_n 0, 1) := by decide +kernel
theorem d_La_law_263 : decode code 263 = .ok (.iload 4, 2) := by decide +kernel
theorem d_La_law_265 : decode code 265 = .ok (.iconst 1, 1) := by decide +kernel
theorem d_La_law_266 : decode code 266 = .ok (.iadd, 1) := by decide +kernel
theorem d_La_law_267 : decode code 267 = .ok (.iaload, 1) := by decide +kernel
theorem d_La_law_268 : decode code 268 = .ok (.aload_n 0, 1) := by decide +kernel
theorem d_La_law_269 : decode code 269 = .ok (.iload 4, 2) := by decide +kernel
theorem d_La_law_271 : decode code 271 = .ok (.iconst 2, 1) := by decide +kernel
theorem d_La_law_272 : decode code 272 = .ok (.iadd, 1) := by decide +kernel
theorem d_La_law_273 : decode code 273 = .ok (.iaload, 1) := by decide +kernel
theorem d_La_law_274 : decode code 274 = .ok (.aload_n 0, 1) := by decide +kernel
theorem d_La_law_275 : decode code 275 = .ok (.iload 4, 2) := by decide +kernel
theorem d_La_law_277 : decode code 277 = .ok (.iconst 3, 1) := by decide +kernel
theorem d_La_law_278 : decode code 278 = .ok (.iadd, 1) := by decide +kernel
theorem d_La_law_279 : decode code 279 = .ok (.iaload, 1) := by decide +kernel
theorem d_La_law_280 : decode code 280 = .ok (.aload_n 0, 1) := by decide +kernel
theorem d_La_law_281 : decode code 281 = .ok (.iload 4, 2) := by decide +kernel
theorem d_La_law_283 : decode code 283 = .ok (.iconst 4, 1) := by decide +kernel
theorem d_La_law_284 : decode code 284 = .ok (.iadd, 1) := by decide +kernel
theorem d_La_law_285 : decode code 285 = .ok (.iaload, 1) := by decide +kernel
theorem d_La_law_286 : decode code 286 = .ok (.invokestatic 58, 3) := by decide +kernel
theorem d_La_law_289 : decode code 289 = .ok (.istore 5, 2) := by decide +kernel
theorem d_La_law_291 : decode code 291 = .ok (.aload_n 2, 1) := by decide +kernel
theorem d_La_law_292 : decode code 292 = .ok (.aload_n 0, 1) := by decide +kernel
theorem d_La_law_293 : decode code 293 = .ok (.iload 4, 2) := by decide +kernel
theorem d_La_law_295 : decode code 295 = .ok (.iconst 1, 1) := by decide +kernel
theorem d_La_law_296 : decode code 296 = .ok (.iadd, 1) := by decide +kernel
theorem d_La_law_297 : decode code 297 = .ok (.iaload, 1) := by decide +kernel
theorem d_La_law_298 : decode code 298 = .ok (.aload_n 0, 1) := by decide +kernel
theorem d_La_law_299 : decode code 299 = .ok (.iload 4, 2) := by decide +kernel
theorem d_La_law_301 : decode code 301 = .ok (.iconst 2, 1) := by decide +kernel
theorem d_La_law_302 : decode code 302 = .ok (.iadd, 1) := by decide +kernel
theorem d_La_law_303 : decode code 303 = .ok (.iaload, 1) := by decide +kernel
theorem d_La_law_304 : decode code 304 = .ok (.aload_n 0, 1) := by decide +kernel
theorem d_La_law_305 : decode code 305 = .ok (.iload 4, 2) := by decide +kernel
theorem d_La_law_307 : decode code 307 = .ok (.iconst 3, 1) := by decide +kernel
theorem d_La_law_308 : decode code 308 = .ok (.iadd, 1) := by decide +kernel
theorem d_La_law_309 : decode code 309 = .ok (.iaload, 1) := by decide +kernel
theorem d_La_law_310 : decode code 310 = .ok (.aload_n 0, 1) := by decide +kernel
theorem d_La_law_311 : decode code 311 = .ok (.iload 4, 2) := by decide +kernel
theorem d_La_law_313 : decode code 313 = .ok (.iconst 4, 1) := by decide +kernel
theorem d_La_law_314 : decode code 314 = .ok (.iadd, 1) := by decide +kernel
theorem d_La_law_315 : decode code 315 = .ok (.iaload, 1) := by decide +kernel
theorem d_La_law_316 : decode code 316 = .ok (.invokevirtual 61, 3) := by decide +kernel
theorem d_La_law_319 : decode code 319 = .ok (.aload_n 2, 1) := by decide +kernel
theorem d_La_law_320 : decode code 320 = .ok (.invokevirtual 51, 3) := by decide +kernel
theorem d_La_law_323 : decode code 323 = .ok (.iload 5, 2) := by decide +kernel
theorem d_La_law_325 : decode code 325 = .ok (.if_icmp .eq 5, 3) := by decide +kernel
theorem d_La_law_328 : decode code 328 = .ok (.iconst 0, 1) := by decide +kernel
theorem d_La_law_329 : decode code 329 = .ok (.ireturn, 1) := by decide +kernel
theorem d_La_law_330 : decode code 330 = .ok (.goto 293, 3) := by decide +kernel
theorem d_La_law_333 : decode code 333 = .ok (.aload_n 1, 1) := by decide +kernel
theorem d_La_law_334 : decode code 334 = .ok (.aload_n 0, 1) := by decide +kernel
theorem d_La_law_335 : decode code 335 = .ok (.iload 4, 2) := by decide +kernel
theorem d_La_law_337 : decode code 337 = .ok (.iconst 1, 1) := by decide +kernel
theorem d_La_law_338 : decode code 338 = .ok (.iadd, 1) := by decide +kernel
theorem d_La_law_339 : decode code 339 = .ok (.iaload, 1) := by decide +kernel
theorem d_La_law_340 : decode code 340 = .ok (.aload_n 0, 1) := by decide +kernel
theorem d_La_law_341 : decode code 341 = .ok (.iload 4, 2) := by decide +kernel
theorem d_La_law_343 : decode code 343 = .ok (.iconst 2, 1) := by decide +kernel
theorem d_La_law_344 : decode code 344 = .ok (.iadd, 1) := by decide +kernel
theorem d_La_law_345 : decode code 345 = .ok (.iaload, 1) := by decide +kernel
theorem d_La_law_346 : decode code 346 = .ok (.invokestatic 62, 3) := by decide +kernel
theorem d_La_law_349 : decode code 349 = .ok (.istore 5, 2) := by decide +kernel
theorem d_La_law_351 : decode code 351 = .ok (.aload_n 2, 1) := by decide +kernel
theorem d_La_law_352 : decode code 352 = .ok (.aload_n 0, 1) := by decide +kernel
theorem d_La_law_353 : decode code 353 = .ok (.iload 4, 2) := by decide +kernel
theorem d_La_law_355 : decode code 355 = .ok (.iconst 1, 1) := by decide +kernel
theorem d_La_law_356 : decode code 356 = .ok (.iadd, 1) := by decide +kernel
theorem d_La_law_357 : decode code 357 = .ok (.iaload, 1) := by decide +kernel
theorem d_La_law_358 : decode code 358 = .ok (.aload_n 0, 1) := by decide +kernel
theorem d_La_law_359 : decode code 359 = .ok (.iload 4, 2) := by decide +kernel
theorem d_La_law_361 : decode code 361 = .ok (.iconst 2, 1) := by decide +kernel
theorem d_La_law_362 : decode code 362 = .ok (.iadd, 1) := by decide +kernel
theorem d_La_law_363 : decode code 363 = .ok (.iaload, 1) := by decide +kernel
theorem d_La_law_364 : decode code 364 = .ok (.invokevirtual 64, 3) := by decide +kernel
theorem d_La_law_367 : decode code 367 = .ok (.aload_n 2, 1) := by decide +kernel
theorem d_La_law_368 : decode code 368 = .ok (.invokevirtual 51, 3) := by decide +kernel
theorem d_La_law_371 : decode code 371 = .ok (.iload 5, 2) := by decide +kernel
theorem d_La_law_373 : decode code 373 = .ok (.if_icmp .eq 5, 3) := by decide +kernel
theorem d_La_law_376 : decode code 376 = .ok (.iconst 0, 1) := by decide +kernel
theorem d_La_law_377 : decode code 377 = .ok (.ireturn, 1) := by decide +kernel
theorem d_La_law_378 : decode code 378 = .ok (.goto 245, 3) := by decide +kernel
theorem d_La_law_381 : decode code 381 = .ok (.aload_n 1, 1) := by decide +kernel
theorem d_La_law_382 : decode code 382 = .ok (.invokevirtual 65, 3) := by decide +kernel
theorem d_La_law_385 : decode code 385 = .ok (.aload_n 2, 1) := by decide +kernel
theorem d_La_law_386 : decode code 386 = .ok (.invokevirtual 68, 3) := by decide +kernel
theorem d_La_law_389 : decode code 389 = .ok (.if_icmp .eq 234, 3) := by decide +kernel
theorem d_La_law_392 : decode code 392 = .ok (.iconst 0, 1) := by decide +kernel
theorem d_La_law_393 : decode code 393 = .ok (.ireturn, 1) := by decide +kernel
theorem d_La_law_394 : decode code 394 = .ok (.aload_n 1, 1) := by decide +kernel
theorem d_La_law_395 : decode code 395 = .ok (.aload_n 0, 1) := by decide +kernel
theorem d_La_law_396 : decode code 396 = .ok (.iload 4, 2) := by decide +kernel
theorem d_La_law_398 : decode code 398 = .ok (.iconst 1, 1) := by decide +kernel
theorem d_La_law_399 : decode code 399 = .ok (.iadd, 1) := by decide +kernel
theorem d_La_law_400 : decode code 400 = .ok (.iaload, 1) := by decide +kernel
theorem d_La_law_401 : decode code 401 = .ok (.aload_n 3, 1) := by decide +kernel
theorem d_La_law_402 : decode code 402 = .ok (.invokestatic 69, 3) := by decide +kernel
theorem d_La_law_405 : decode code 405 = .ok (.istore 5, 2) := by decide +kernel
theorem d_La_law_407 : decode code 407 = .ok (.aload_n 2, 1) := by decide +kernel
theorem d_La_law_408 : decode code 408 = .ok (.aload_n 0, 1) := by decide +kernel
theorem d_La_law_409 : decode code 409 = .ok (.iload 4, 2) := by decide +kernel
theorem d_La_law_411 : decode code 411 = .ok (.iconst 1, 1) := by decide +kernel
theorem d_La_law_412 : decode code 412 = .ok (.iadd, 1) := by decide +kernel
theorem d_La_law_413 : decode code 413 = .ok (.iaload, 1) := by decide +kernel
theorem d_La_law_414 : decode code 414 = .ok (.invokevirtual 72, 3) := by decide +kernel
theorem d_La_law_417 : decode code 417 = .ok (.istore 6, 2) := by decide +kernel
theorem d_La_law_419 : decode code 419 = .ok (.aload_n 2, 1) := by decide +kernel
theorem d_La_law_420 : decode code 420 = .ok (.invokevirtual 51, 3) := by decide +kernel
theorem d_La_law_423 : decode code 423 = .ok (.iload 5, 2) := by decide +kernel
theorem d_La_law_425 : decode code 425 = .ok (.if_icmp .eq 5, 3) := by decide +kernel
theorem d_La_law_428 : decode code 428 = .ok (.iconst 0, 1) := by decide +kernel
theorem d_La_law_429 : decode code 429 = .ok (.ireturn, 1) := by decide +kernel
theorem d_La_law_430 : decode code 430 = .ok (.iload 5, 2) := by decide +kernel
theorem d_La_law_432 : decode code 432 = .ok (.ifCond .ne 15, 3) := by decide +kernel
theorem d_La_law_435 : decode code 435 = .ok (.aload_n 3, 1) := by decide +kernel
theorem d_La_law_436 : decode code 436 = .ok (.iconst 0, 1) := by decide +kernel
theorem d_La_law_437 : decode code 437 = .ok (.laload, 1) := by decide +kernel
theorem d_La_law_438 : decode code 438 = .ok (.iload 6, 2) := by decide +kernel
theorem d_La_law_440 : decode code 440 = .ok (.i2l, 1) := by decide +kernel
theorem d_La_law_441 : decode code 441 = .ok (.lcmp, 1) := by decide +kernel
theorem d_La_law_442 : decode code 442 = .ok (.ifCond .eq 5, 3) := by decide +kernel
theorem d_La_law_445 : decode code 445 = .ok (.iconst 0, 1) := by decide +kernel
theorem d_La_law_446 : decode code 446 = .ok (.ireturn, 1) := by decide +kernel
theorem d_La_law_447 : decode code 447 = .ok (.goto 176, 3) := by decide +kernel
theorem d_La_law_450 : decode code 450 = .ok (.aload_n 1, 1) := by decide +kernel
theorem d_La_law_451 : decode code 451 = .ok (.aload_n 0, 1) := by decide +kernel
theorem d_La_law_452 : decode code 452 = .ok (.iload 4, 2) := by decide +kernel
theorem d_La_law_454 : decode code 454 = .ok (.iconst 1, 1) := by decide +kernel
theorem d_La_law_455 : decode code 455 = .ok (.iadd, 1) := by decide +kernel
theorem d_La_law_456 : decode code 456 = .ok (.iaload, 1) := by decide +kernel
theorem d_La_law_457 : decode code 457 = .ok (.aload_n 0, 1) := by decide +kernel
theorem d_La_law_458 : decode code 458 = .ok (.iload 4, 2) := by decide +kernel
theorem d_La_law_460 : decode code 460 = .ok (.iconst 2, 1) := by decide +kernel
theorem d_La_law_461 : decode code 461 = .ok (.iadd, 1) := by decide +kernel
theorem d_La_law_462 : decode code 462 = .ok (.iaload, 1) := by decide +kernel
theorem d_La_law_463 : decode code 463 = .ok (.invokevirtual 73, 3) := by decide +kernel
theorem d_La_law_466 : decode code 466 = .ok (.aload_n 2, 1) := by decide +kernel
theorem d_La_law_467 : decode code 467 = .ok (.aload_n 0, 1) := by decide +kernel
theorem d_La_law_468 : decode code 468 = .ok (.iload 4, 2) := by decide +kernel
theorem d_La_law_470 : decode code 470 = .ok (.iconst 1, 1) := by decide +kernel
theorem d_La_law_471 : decode code 471 = .ok (.iadd, 1) := by decide +kernel
theorem d_La_law_472 : decode code 472 = .ok (.iaload, 1) := by decide +kernel
theorem d_La_law_473 : decode code 473 = .ok (.aload_n 0, 1) := by decide +kernel
theorem d_La_law_474 : decode code 474 = .ok (.iload 4, 2) := by decide +kernel
theorem d_La_law_476 : decode code 476 = .ok (.iconst 2, 1) := by decide +kernel
theorem d_La_law_477 : decode code 477 = .ok (.iadd, 1) := by decide +kernel
theorem d_La_law_478 : decode code 478 = .ok (.iaload, 1) := by decide +kernel
theorem d_La_law_479 : decode code 479 = .ok (.invokevirtual 77, 3) := by decide +kernel
theorem d_La_law_482 : decode code 482 = .ok (.if_icmp .eq 141, 3) := by decide +kernel
theorem d_La_law_485 : decode code 485 = .ok (.iconst 0, 1) := by decide +kernel
theorem d_La_law_486 : decode code 486 = .ok (.ireturn, 1) := by decide +kernel
theorem d_La_law_487 : decode code 487 = .ok (.aload_n 1, 1) := by decide +kernel
theorem d_La_law_488 : decode code 488 = .ok (.aload_n 0, 1) := by decide +kernel
theorem d_La_law_489 : decode code 489 = .ok (.iload 4, 2) := by decide +kernel
theorem d_La_law_491 : decode code 491 = .ok (.iconst 1, 1) := by decide +kernel
theorem d_La_law_492 : decode code 492 = .ok (.iadd, 1) := by decide +kernel
theorem d_La_law_493 : decode code 493 = .ok (.iaload, 1) := by decide +kernel
theorem d_La_law_494 : decode code 494 = .ok (.aload_n 0, 1) := by decide +kernel
theorem d_La_law_495 : decode code 495 = .ok (.iload 4, 2) := by decide +kernel
theorem d_La_law_497 : decode code 497 = .ok (.iconst 2, 1) := by decide +kernel
theorem d_La_law_498 : decode code 498 = .ok (.iadd, 1) := by decide +kernel
theorem d_La_law_499 : decode code 499 = .ok (.iaload, 1) := by decide +kernel
theorem d_La_law_500 : decode code 500 = .ok (.aload_n 0, 1) := by decide +kernel
theorem d_La_law_501 : decode code 501 = .ok (.iload 4, 2) := by decide +kernel
theorem d_La_law_503 : decode code 503 = .ok (.iconst 3, 1) := by decide +kernel
theorem d_La_law_504 : decode code 504 = .ok (.iadd, 1) := by decide +kernel
theorem d_La_law_505 : decode code 505 = .ok (.iaload, 1) := by decide +kernel
theorem d_La_law_506 : decode code 506 = .ok (.invokevirtual 78, 3) := by decide +kernel
theorem d_La_law_509 : decode code 509 = .ok (.aload_n 2, 1) := by decide +kernel
theorem d_La_law_510 : decode code 510 = .ok (.aload_n 0, 1) := by decide +kernel
theorem d_La_law_511 : decode code 511 = .ok (.iload 4, 2) := by decide +kernel
theorem d_La_law_513 : decode code 513 = .ok (.iconst 1, 1) := by decide +kernel
theorem d_La_law_514 : decode code 514 = .ok (.iadd, 1) := by decide +kernel
theorem d_La_law_515 : decode code 515 = .ok (.iaload, 1) := by decide +kernel
theorem d_La_law_516 : decode code 516 = .ok (.aload_n 0, 1) := by decide +kernel
theorem d_La_law_517 : decode code 517 = .ok (.iload 4, 2) := by decide +kernel
theorem d_La_law_519 : decode code 519 = .ok (.iconst 2, 1) := by decide +kernel
theorem d_La_law_520 : decode code 520 = .ok (.iadd, 1) := by decide +kernel
theorem d_La_law_521 : decode code 521 = .ok (.iaload, 1) := by decide +kernel
theorem d_La_law_522 : decode code 522 = .ok (.aload_n 0, 1) := by decide +kernel
theorem d_La_law_523 : decode code 523 = .ok (.iload 4, 2) := by decide +kernel
theorem d_La_law_525 : decode code 525 = .ok (.iconst 3, 1) := by decide +kernel
theorem d_La_law_526 : decode code 526 = .ok (.iadd, 1) := by decide +kernel
theorem d_La_law_527 : decode code 527 = .ok (.iaload, 1) := by decide +kernel
theorem d_La_law_528 : decode code 528 = .ok (.invokevirtual 82, 3) := by decide +kernel
theorem d_La_law_531 : decode code 531 = .ok (.if_icmp .eq 92, 3) := by decide +kernel
theorem d_La_law_534 : decode code 534 = .ok (.iconst 0, 1) := by decide +kernel
theorem d_La_law_535 : decode code 535 = .ok (.ireturn, 1) := by decide +kernel
theorem d_La_law_536 : decode code 536 = .ok (.aload_n 1, 1) := by decide +kernel
theorem d_La_law_537 : decode code 537 = .ok (.aload_n 0, 1) := by decide +kernel
theorem d_La_law_538 : decode code 538 = .ok (.iload 4, 2) := by decide +kernel
theorem d_La_law_540 : decode code 540 = .ok (.iconst 1, 1) := by decide +kernel
theorem d_La_law_541 : decode code 541 = .ok (.iadd, 1) := by decide +kernel
theorem d_La_law_542 : decode code 542 = .ok (.iaload, 1) := by decide +kernel
theorem d_La_law_543 : decode code 543 = .ok (.invokevirtual 83, 3) := by decide +kernel
theorem d_La_law_546 : decode code 546 = .ok (.aload_n 2, 1) := by decide +kernel
theorem d_La_law_547 : decode code 547 = .ok (.aload_n 0, 1) := by decide +kernel
theorem d_La_law_548 : decode code 548 = .ok (.iload 4, 2) := by decide +kernel
theorem d_La_law_550 : decode code 550 = .ok (.iconst 1, 1) := by decide +kernel
theorem d_La_law_551 : decode code 551 = .ok (.iadd, 1) := by decide +kernel
theorem d_La_law_552 : decode code 552 = .ok (.iaload, 1) := by decide +kernel
theorem d_La_law_553 : decode code 553 = .ok (.invokevirtual 86, 3) := by decide +kernel
theorem d_La_law_556 : decode code 556 = .ok (.if_icmp .eq 67, 3) := by decide +kernel
theorem d_La_law_559 : decode code 559 = .ok (.iconst 0, 1) := by decide +kernel
theorem d_La_law_560 : decode code 560 = .ok (.ireturn, 1) := by decide +kernel
theorem d_La_law_561 : decode code 561 = .ok (.aload_n 1, 1) := by decide +kernel
theorem d_La_law_562 : decode code 562 = .ok (.aload_n 0, 1) := by decide +kernel
theorem d_La_law_563 : decode code 563 = .ok (.iload 4, 2) := by decide +kernel
theorem d_La_law_565 : decode code 565 = .ok (.iconst 1, 1) := by decide +kernel
theorem d_La_law_566 : decode code 566 = .ok (.iadd, 1) := by decide +kernel
theorem d_La_law_567 : decode code 567 = .ok (.iaload, 1) := by decide +kernel
theorem d_La_law_568 : decode code 568 = .ok (.aload_n 0, 1) := by decide +kernel
theorem d_La_law_569 : decode code 569 = .ok (.iload 4, 2) := by decide +kernel
theorem d_La_law_571 : decode code 571 = .ok (.iconst 2, 1) := by decide +kernel
theorem d_La_law_572 : decode code 572 = .ok (.iadd, 1) := by decide +kernel
theorem d_La_law_573 : decode code 573 = .ok (.iaload, 1) := by decide +kernel
theorem d_La_law_574 : decode code 574 = .ok (.invokevirtual 87, 3) := by decide +kernel
theorem d_La_law_577 : decode code 577 = .ok (.aload_n 2, 1) := by decide +kernel
theorem d_La_law_578 : decode code 578 = .ok (.aload_n 0, 1) := by decide +kernel
theorem d_La_law_579 : decode code 579 = .ok (.iload 4, 2) := by decide +kernel
theorem d_La_law_581 : decode code 581 = .ok (.iconst 1, 1) := by decide +kernel
theorem d_La_law_582 : decode code 582 = .ok (.iadd, 1) := by decide +kernel
theorem d_La_law_583 : decode code 583 = .ok (.iaload, 1) := by decide +kernel
theorem d_La_law_584 : decode code 584 = .ok (.aload_n 0, 1) := by decide +kernel
theorem d_La_law_585 : decode code 585 = .ok (.iload 4, 2) := by decide +kernel
theorem d_La_law_587 : decode code 587 = .ok (.iconst 2, 1) := by decide +kernel
theorem d_La_law_588 : decode code 588 = .ok (.iadd, 1) := by decide +kernel
theorem d_La_law_589 : decode code 589 = .ok (.iaload, 1) := by decide +kernel
theorem d_La_law_590 : decode code 590 = .ok (.invokevirtual 90, 3) := by decide +kernel
theorem d_La_law_593 : decode code 593 = .ok (.if_icmp .eq 30, 3) := by decide +kernel
theorem d_La_law_596 : decode code 596 = .ok (.iconst 0, 1) := by decide +kernel
theorem d_La_law_597 : decode code 597 = .ok (.ireturn, 1) := by decide +kernel
theorem d_La_law_598 : decode code 598 = .ok (.aload_n 1, 1) := by decide +kernel
theorem d_La_law_599 : decode code 599 = .ok (.aload_n 0, 1) := by decide +kernel
theorem d_La_law_600 : decode code 600 = .ok (.iload 4, 2) := by decide +kernel
theorem d_La_law_602 : decode code 602 = .ok (.iconst 1, 1) := by decide +kernel
theorem d_La_law_603 : decode code 603 = .ok (.iadd, 1) := by decide +kernel
theorem d_La_law_604 : decode code 604 = .ok (.iaload, 1) := by decide +kernel
theorem d_La_law_605 : decode code 605 = .ok (.invokevirtual 91, 3) := by decide +kernel
theorem d_La_law_608 : decode code 608 = .ok (.aload_n 2, 1) := by decide +kernel
theorem d_La_law_609 : decode code 609 = .ok (.aload_n 0, 1) := by decide +kernel
theorem d_La_law_610 : decode code 610 = .ok (.iload 4, 2) := by decide +kernel
theorem d_La_law_612 : decode code 612 = .ok (.iconst 1, 1) := by decide +kernel
theorem d_La_law_613 : decode code 613 = .ok (.iadd, 1) := by decide +kernel
theorem d_La_law_614 : decode code 614 = .ok (.iaload, 1) := by decide +kernel
theorem d_La_law_615 : decode code 615 = .ok (.invokevirtual 94, 3) := by decide +kernel
theorem d_La_law_618 : decode code 618 = .ok (.if_icmp .eq 5, 3) := by decide +kernel
theorem d_La_law_621 : decode code 621 = .ok (.iconst 0, 1) := by decide +kernel
theorem d_La_law_622 : decode code 622 = .ok (.ireturn, 1) := by decide +kernel
theorem d_La_law_623 : decode code 623 = .ok (.iinc 4 5, 3) := by decide +kernel
theorem d_La_law_626 : decode code 626 = .ok (.goto (-603), 3) := by decide +kernel
theorem d_La_law_629 : decode code 629 = .ok (.iconst 1, 1) := by decide +kernel
theorem d_La_law_630 : decode code 630 = .ok (.ireturn, 1) := by decide +kernel
