theorem dX12_init_0 : decode cX12_init 0 = .ok (.aload_n 0, 1) := by decide +kernel
theorem dX12_init_1 : decode cX12_init 1 = .ok (.invokespecial 1, 3) := by decide +kernel
theorem dX12_init_4 : decode cX12_init 4 = .ok (.aload_n 0, 1) := by decide +kernel
theorem dX12_init_5 : decode cX12_init 5 = .ok (.bipush 60, 2) := by decide +kernel
theorem dX12_init_7 : decode cX12_init 7 = .ok (.newarray .int, 2) := by decide +kernel
theorem dX12_init_9 : decode cX12_init 9 = .ok (.putfield 7, 3) := by decide +kernel
theorem dX12_init_12 : decode cX12_init 12 = .ok (.aload_n 0, 1) := by decide +kernel
theorem dX12_init_13 : decode cX12_init 13 = .ok (.bipush 60, 2) := by decide +kernel
theorem dX12_init_15 : decode cX12_init 15 = .ok (.newarray .int, 2) := by decide +kernel
theorem dX12_init_17 : decode cX12_init 17 = .ok (.putfield 13, 3) := by decide +kernel
theorem dX12_init_20 : decode cX12_init 20 = .ok (.aload_n 0, 1) := by decide +kernel
theorem dX12_init_21 : decode cX12_init 21 = .ok (.sipush 960, 3) := by decide +kernel
theorem dX12_init_24 : decode cX12_init 24 = .ok (.newarray .int, 2) := by decide +kernel
theorem dX12_init_26 : decode cX12_init 26 = .ok (.putfield 16, 3) := by decide +kernel
theorem dX12_init_29 : decode cX12_init 29 = .ok (.aload_n 0, 1) := by decide +kernel
theorem dX12_init_30 : decode cX12_init 30 = .ok (.sipush 960, 3) := by decide +kernel
theorem dX12_init_33 : decode cX12_init 33 = .ok (.newarray .int, 2) := by decide +kernel
theorem dX12_init_35 : decode cX12_init 35 = .ok (.putfield 19, 3) := by decide +kernel
theorem dX12_init_38 : decode cX12_init 38 = .ok (.aload_n 0, 1) := by decide +kernel
theorem dX12_init_39 : decode cX12_init 39 = .ok (.bipush 40, 2) := by decide +kernel
theorem dX12_init_41 : decode cX12_init 41 = .ok (.newarray .int, 2) := by decide +kernel
theorem dX12_init_43 : decode cX12_init 43 = .ok (.putfield 22, 3) := by decide +kernel
theorem dX12_init_46 : decode cX12_init 46 = .ok (.aload_n 0, 1) := by decide +kernel
theorem dX12_init_47 : decode cX12_init 47 = .ok (.bipush 40, 2) := by decide +kernel
theorem dX12_init_49 : decode cX12_init 49 = .ok (.newarray .int, 2) := by decide +kernel
theorem dX12_init_51 : decode cX12_init 51 = .ok (.putfield 25, 3) := by decide +kernel
theorem dX12_init_54 : decode cX12_init 54 = .ok (.aload_n 0, 1) := by decide +kernel
theorem dX12_init_55 : decode cX12_init 55 = .ok (.bipush 40, 2) := by decide +kernel
theorem dX12_init_57 : decode cX12_init 57 = .ok (.newarray .int, 2) := by decide +kernel
theorem dX12_init_59 : decode cX12_init 59 = .ok (.putfield 28, 3) := by decide +kernel
theorem dX12_init_62 : decode cX12_init 62 = .ok (.aload_n 0, 1) := by decide +kernel
theorem dX12_init_63 : decode cX12_init 63 = .ok (.bipush 48, 2) := by decide +kernel
theorem dX12_init_65 : decode cX12_init 65 = .ok (.newarray .long, 2) := by decide +kernel
theorem dX12_init_67 : decode cX12_init 67 = .ok (.putfield 31, 3) := by decide +kernel
theorem dX12_init_70 : decode cX12_init 70 = .ok (.aload_n 0, 1) := by decide +kernel
theorem dX12_init_71 : decode cX12_init 71 = .ok (.bipush 48, 2) := by decide +kernel
theorem dX12_init_73 : decode cX12_init 73 = .ok (.newarray .int, 2) := by decide +kernel
theorem dX12_init_75 : decode cX12_init 75 = .ok (.putfield 35, 3) := by decide +kernel
theorem dX12_init_78 : decode cX12_init 78 = .ok (.aload_n 0, 1) := by decide +kernel
theorem dX12_init_79 : decode cX12_init 79 = .ok (.bipush 48, 2) := by decide +kernel
theorem dX12_init_81 : decode cX12_init 81 = .ok (.newarray .int, 2) := by decide +kernel
theorem dX12_init_83 : decode cX12_init 83 = .ok (.putfield 38, 3) := by decide +kernel
theorem dX12_init_86 : decode cX12_init 86 = .ok (.aload_n 0, 1) := by decide +kernel
theorem dX12_init_87 : decode cX12_init 87 = .ok (.bipush 48, 2) := by decide +kernel
theorem dX12_init_89 : decode cX12_init 89 = .ok (.newarray .int, 2) := by decide +kernel
theorem dX12_init_91 : decode cX12_init 91 = .ok (.putfield 41, 3) := by decide +kernel
theorem dX12_init_94 : decode cX12_init 94 = .ok (.aload_n 0, 1) := by decide +kernel
theorem dX12_init_95 : decode cX12_init 95 = .ok (.bipush 16, 2) := by decide +kernel
theorem dX12_init_97 : decode cX12_init 97 = .ok (.newarray .int, 2) := by decide +kernel
theorem dX12_init_99 : decode cX12_init 99 = .ok (.putfield 44, 3) := by decide +kernel
theorem dX12_init_102 : decode cX12_init 102 = .ok (.aload_n 0, 1) := by decide +kernel
theorem dX12_init_103 : decode cX12_init 103 = .ok (.bipush 32, 2) := by decide +kernel
theorem dX12_init_105 : decode cX12_init 105 = .ok (.newarray .int, 2) := by decide +kernel
theorem dX12_init_107 : decode cX12_init 107 = .ok (.putfield 47, 3) := by decide +kernel
theorem dX12_init_110 : decode cX12_init 110 = .ok (.aload_n 0, 1) := by decide +kernel
theorem dX12_init_111 : decode cX12_init 111 = .ok (.bipush 32, 2) := by decide +kernel
theorem dX12_init_113 : decode cX12_init 113 = .ok (.newarray .int, 2) := by decide +kernel
theorem dX12_init_115 : decode cX12_init 115 = .ok (.putfield 50, 3) := by decide +kernel
theorem dX12_init_118 : decode cX12_init 118 = .ok (.aload_n 0, 1) := by decide +kernel
theorem dX12_init_119 : decode cX12_init 119 = .ok (.bipush 32, 2) := by decide +kernel
theorem dX12_init_121 : decode cX12_init 121 = .ok (.newarray .int, 2) := by decide +kernel
theorem dX12_init_123 : decode cX12_init 123 = .ok (.putfield 53, 3) := by decide +kernel
theorem dX12_init_126 : decode cX12_init 126 = .ok (.aload_n 0, 1) := by decide +kernel
theorem dX12_init_127 : decode cX12_init 127 = .ok (.bipush 16, 2) := by decide +kernel
theorem dX12_init_129 : decode cX12_init 129 = .ok (.newarray .long, 2) := by decide +kernel
theorem dX12_init_131 : decode cX12_init 131 = .ok (.putfield 56, 3) := by decide +kernel
theorem dX12_init_134 : decode cX12_init 134 = .ok (.aload_n 0, 1) := by decide +kernel
theorem dX12_init_135 : decode cX12_init 135 = .ok (.bipush 16, 2) := by decide +kernel
theorem dX12_init_137 : decode cX12_init 137 = .ok (.newarray .int, 2) := by decide +kernel
theorem dX12_init_139 : decode cX12_init 139 = .ok (.putfield 59, 3) := by decide +kernel
theorem dX12_init_142 : decode cX12_init 142 = .ok (.aload_n 0, 1) := by decide +kernel
theorem dX12_init_143 : decode cX12_init 143 = .ok (.bipush 16, 2) := by decide +kernel
theorem dX12_init_145 : decode cX12_init 145 = .ok (.newarray .int, 2) := by decide +kernel
theorem dX12_init_147 : decode cX12_init 147 = .ok (.putfield 62, 3) := by decide +kernel
theorem dX12_init_150 : decode cX12_init 150 = .ok (.aload_n 0, 1) := by decide +kernel
theorem dX12_init_151 : decode cX12_init 151 = .ok (.bipush 64, 2) := by decide +kernel
theorem dX12_init_153 : decode cX12_init 153 = .ok (.newarray .int, 2) := by decide +kernel
theorem dX12_init_155 : decode cX12_init 155 = .ok (.putfield 65, 3) := by decide +kernel
theorem dX12_init_158 : decode cX12_init 158 = .ok (.aload_n 0, 1) := by decide +kernel
theorem dX12_init_159 : decode cX12_init 159 = .ok (.sipush 800, 3) := by decide +kernel
theorem dX12_init_162 : decode cX12_init 162 = .ok (.newarray .int, 2) := by decide +kernel
theorem dX12_init_164 : decode cX12_init 164 = .ok (.putfield 68, 3) := by decide +kernel
theorem dX12_init_167 : decode cX12_init 167 = .ok (.aload_n 0, 1) := by decide +kernel
theorem dX12_init_168 : decode cX12_init 168 = .ok (.ldc 71, 2) := by decide +kernel
theorem dX12_init_170 : decode cX12_init 170 = .ok (.newarray .boolean, 2) := by decide +kernel
theorem dX12_init_172 : decode cX12_init 172 = .ok (.putfield 72, 3) := by decide +kernel
theorem dX12_init_175 : decode cX12_init 175 = .ok (.aload_n 0, 1) := by decide +kernel
theorem dX12_init_176 : decode cX12_init 176 = .ok (.ldc 71, 2) := by decide +kernel
theorem dX12_init_178 : decode cX12_init 178 = .ok (.newarray .int, 2) := by decide +kernel
theorem dX12_init_180 : decode cX12_init 180 = .ok (.putfield 76, 3) := by decide +kernel
theorem dX12_init_183 : decode cX12_init 183 = .ok (.aload_n 0, 1) := by decide +kernel
theorem dX12_init_184 : decode cX12_init 184 = .ok (.bipush 24, 2) := by decide +kernel
theorem dX12_init_186 : decode cX12_init 186 = .ok (.newarray .int, 2) := by decide +kernel
theorem dX12_init_188 : decode cX12_init 188 = .ok (.putfield 79, 3) := by decide +kernel
theorem dX12_init_191 : decode cX12_init 191 = .ok (.aload_n 0, 1) := by decide +kernel
theorem dX12_init_192 : decode cX12_init 192 = .ok (.bipush 8, 2) := by decide +kernel
theorem dX12_init_194 : decode cX12_init 194 = .ok (.newarray .int, 2) := by decide +kernel
theorem dX12_init_196 : decode cX12_init 196 = .ok (.putfield 82, 3) := by decide +kernel
theorem dX12_init_199 : decode cX12_init 199 = .ok (.aload_n 0, 1) := by decide +kernel
theorem dX12_init_200 : decode cX12_init 200 = .ok (.ldc 85, 2) := by decide +kernel
theorem dX12_init_202 : decode cX12_init 202 = .ok (.newarray .int, 2) := by decide +kernel
theorem dX12_init_204 : decode cX12_init 204 = .ok (.putfield 86, 3) := by decide +kernel
theorem dX12_init_207 : decode cX12_init 207 = .ok (.aload_n 0, 1) := by decide +kernel
theorem dX12_init_208 : decode cX12_init 208 = .ok (.ldc 85, 2) := by decide +kernel
theorem dX12_init_210 : decode cX12_init 210 = .ok (.newarray .int, 2) := by decide +kernel
theorem dX12_init_212 : decode cX12_init 212 = .ok (.putfield 89, 3) := by decide +kernel
theorem dX12_init_215 : decode cX12_init 215 = .ok (.aload_n 0, 1) := by decide +kernel
theorem dX12_init_216 : decode cX12_init 216 = .ok (.sipush 300, 3) := by decide +kernel
theorem dX12_init_219 : decode cX12_init 219 = .ok (.newarray .int, 2) := by decide +kernel
theorem dX12_init_221 : decode cX12_init 221 = .ok (.putfield 92, 3) := by decide +kernel
theorem dX12_init_224 : decode cX12_init 224 = .ok (.aload_n 0, 1) := by decide +kernel
theorem dX12_init_225 : decode cX12_init 225 = .ok (.sipush 300, 3) := by decide +kernel
theorem dX12_init_228 : decode cX12_init 228 = .ok (.newarray .int, 2) := by decide +kernel
theorem dX12_init_230 : decode cX12_init 230 = .ok (.putfield 95, 3) := by decide +kernel
theorem dX12_init_233 : decode cX12_init 233 = .ok (.aload_n 0, 1) := by decide +kernel
theorem dX12_init_234 : decode cX12_init 234 = .ok (.sipush 300, 3) := by decide +kernel
theorem dX12_init_237 : decode cX12_init 237 = .ok (.newarray .int, 2) := by decide +kernel
theorem dX12_init_239 : decode cX12_init 239 = .ok (.putfield 98, 3) := by decide +kernel
theorem dX12_init_242 : decode cX12_init 242 = .ok (.aload_n 0, 1) := by decide +kernel
theorem dX12_init_243 : decode cX12_init 243 = .ok (.sipush 300, 3) := by decide +kernel
theorem dX12_init_246 : decode cX12_init 246 = .ok (.newarray .boolean, 2) := by decide +kernel
theorem dX12_init_248 : decode cX12_init 248 = .ok (.putfield 101, 3) := by decide +kernel
theorem dX12_init_251 : decode cX12_init 251 = .ok (.aload_n 0, 1) := by decide +kernel
theorem dX12_init_252 : decode cX12_init 252 = .ok (.sipush 1200, 3) := by decide +kernel
theorem dX12_init_255 : decode cX12_init 255 = .ok (.newarray .int, 2) := by decide +kernel
theorem dX12_init_257 : decode cX12_init 257 = .ok (.putfield 104, 3) := by decide +kernel
theorem dX12_init_260 : decode cX12_init 260 = .ok (.aload_n 0, 1) := by decide +kernel
theorem dX12_init_261 : decode cX12_init 261 = .ok (.sipush 900, 3) := by decide +kernel
theorem dX12_init_264 : decode cX12_init 264 = .ok (.newarray .long, 2) := by decide +kernel
theorem dX12_init_266 : decode cX12_init 266 = .ok (.putfield 107, 3) := by decide +kernel
theorem dX12_init_269 : decode cX12_init 269 = .ok (.aload_n 0, 1) := by decide +kernel
theorem dX12_init_270 : decode cX12_init 270 = .ok (.sipush 4096, 3) := by decide +kernel
theorem dX12_init_273 : decode cX12_init 273 = .ok (.newarray .int, 2) := by decide +kernel
theorem dX12_init_275 : decode cX12_init 275 = .ok (.putfield 110, 3) := by decide +kernel
theorem dX12_init_278 : decode cX12_init 278 = .ok (.aload_n 0, 1) := by decide +kernel
theorem dX12_init_279 : decode cX12_init 279 = .ok (.sipush 4096, 3) := by decide +kernel
theorem dX12_init_282 : decode cX12_init 282 = .ok (.newarray .int, 2) := by decide +kernel
theorem dX12_init_284 : decode cX12_init 284 = .ok (.putfield 113, 3) := by decide +kernel
theorem dX12_init_287 : decode cX12_init 287 = .ok (.aload_n 0, 1) := by decide +kernel
theorem dX12_init_288 : decode cX12_init 288 = .ok (.sipush 4096, 3) := by decide +kernel
theorem dX12_init_291 : decode cX12_init 291 = .ok (.newarray .boolean, 2) := by decide +kernel
theorem dX12_init_293 : decode cX12_init 293 = .ok (.putfield 116, 3) := by decide +kernel
theorem dX12_init_296 : decode cX12_init 296 = .ok (.aload_n 0, 1) := by decide +kernel
theorem dX12_init_297 : decode cX12_init 297 = .ok (.iload_n 1, 1) := by decide +kernel
theorem dX12_init_298 : decode cX12_init 298 = .ok (.iconst 1, 1) := by decide +kernel
theorem dX12_init_299 : decode cX12_init 299 = .ok (.if_icmp .ge 7, 3) := by decide +kernel
theorem dX12_init_302 : decode cX12_init 302 = .ok (.iconst 1, 1) := by decide +kernel
theorem dX12_init_303 : decode cX12_init 303 = .ok (.goto 15, 3) := by decide +kernel
theorem dX12_init_306 : decode cX12_init 306 = .ok (.iload_n 1, 1) := by decide +kernel
theorem dX12_init_307 : decode cX12_init 307 = .ok (.ldc 119, 2) := by decide +kernel
theorem dX12_init_309 : decode cX12_init 309 = .ok (.if_icmp .le 8, 3) := by decide +kernel
theorem dX12_init_312 : decode cX12_init 312 = .ok (.ldc 119, 2) := by decide +kernel
theorem dX12_init_314 : decode cX12_init 314 = .ok (.goto 4, 3) := by decide +kernel
theorem dX12_init_317 : decode cX12_init 317 = .ok (.iload_n 1, 1) := by decide +kernel
theorem dX12_init_318 : decode cX12_init 318 = .ok (.putfield 120, 3) := by decide +kernel
theorem dX12_init_321 : decode cX12_init 321 = .ok (.return_, 1) := by decide +kernel
theorem dX12_thrown_0 : decode cX12_thrown 0 = .ok (.aload_n 0, 1) := by decide +kernel
theorem dX12_thrown_1 : decode cX12_thrown 1 = .ok (.getfield 124, 3) := by decide +kernel
theorem dX12_thrown_4 : decode cX12_thrown 4 = .ok (.ireturn, 1) := by decide +kernel
theorem dX12_polygon_0 : decode cX12_polygon 0 = .ok (.aload_n 0, 1) := by decide +kernel
theorem dX12_polygon_1 : decode cX12_polygon 1 = .ok (.iload_n 1, 1) := by decide +kernel
theorem dX12_polygon_2 : decode cX12_polygon 2 = .ok (.ifCond .lt 11, 3) := by decide +kernel
theorem dX12_polygon_5 : decode cX12_polygon 5 = .ok (.iload_n 1, 1) := by decide +kernel
theorem dX12_polygon_6 : decode cX12_polygon 6 = .ok (.aload_n 0, 1) := by decide +kernel
theorem dX12_polygon_7 : decode cX12_polygon 7 = .ok (.getfield 120, 3) := by decide +kernel
theorem dX12_polygon_10 : decode cX12_polygon 10 = .ok (.if_icmp .lt 7, 3) := by decide +kernel
theorem dX12_polygon_13 : decode cX12_polygon 13 = .ok (.iconst 1, 1) := by decide +kernel
theorem dX12_polygon_14 : decode cX12_polygon 14 = .ok (.goto 17, 3) := by decide +kernel
theorem dX12_polygon_17 : decode cX12_polygon 17 = .ok (.aload_n 0, 1) := by decide +kernel
theorem dX12_polygon_18 : decode cX12_polygon 18 = .ok (.getfield 127, 3) := by decide +kernel
theorem dX12_polygon_21 : decode cX12_polygon 21 = .ok (.bipush 60, 2) := by decide +kernel
theorem dX12_polygon_23 : decode cX12_polygon 23 = .ok (.if_icmp .ne 7, 3) := by decide +kernel
theorem dX12_polygon_26 : decode cX12_polygon 26 = .ok (.iconst 2, 1) := by decide +kernel
theorem dX12_polygon_27 : decode cX12_polygon 27 = .ok (.goto 4, 3) := by decide +kernel
theorem dX12_polygon_30 : decode cX12_polygon 30 = .ok (.iconst 0, 1) := by decide +kernel
theorem dX12_polygon_31 : decode cX12_polygon 31 = .ok (.putfield 124, 3) := by decide +kernel
theorem dX12_polygon_34 : decode cX12_polygon 34 = .ok (.aload_n 0, 1) := by decide +kernel
theorem dX12_polygon_35 : decode cX12_polygon 35 = .ok (.getfield 124, 3) := by decide +kernel
theorem dX12_polygon_38 : decode cX12_polygon 38 = .ok (.ifCond .le 5, 3) := by decide +kernel
theorem dX12_polygon_41 : decode cX12_polygon 41 = .ok (.iconst 0, 1) := by decide +kernel
theorem dX12_polygon_42 : decode cX12_polygon 42 = .ok (.ireturn, 1) := by decide +kernel
theorem dX12_polygon_43 : decode cX12_polygon 43 = .ok (.aload_n 0, 1) := by decide +kernel
theorem dX12_polygon_44 : decode cX12_polygon 44 = .ok (.getfield 7, 3) := by decide +kernel
theorem dX12_polygon_47 : decode cX12_polygon 47 = .ok (.aload_n 0, 1) := by decide +kernel
theorem dX12_polygon_48 : decode cX12_polygon 48 = .ok (.getfield 127, 3) := by decide +kernel
theorem dX12_polygon_51 : decode cX12_polygon 51 = .ok (.iload_n 1, 1) := by decide +kernel
theorem dX12_polygon_52 : decode cX12_polygon 52 = .ok (.iastore, 1) := by decide +kernel
theorem dX12_polygon_53 : decode cX12_polygon 53 = .ok (.aload_n 0, 1) := by decide +kernel
theorem dX12_polygon_54 : decode cX12_polygon 54 = .ok (.getfield 13, 3) := by decide +kernel
theorem dX12_polygon_57 : decode cX12_polygon 57 = .ok (.aload_n 0, 1) := by decide +kernel
theorem dX12_polygon_58 : decode cX12_polygon 58 = .ok (.getfield 127, 3) := by decide +kernel
theorem dX12_polygon_61 : decode cX12_polygon 61 = .ok (.iconst 0, 1) := by decide +kernel
theorem dX12_polygon_62 : decode cX12_polygon 62 = .ok (.iastore, 1) := by decide +kernel
theorem dX12_polygon_63 : decode cX12_polygon 63 = .ok (.aload_n 0, 1) := by decide +kernel
theorem dX12_polygon_64 : decode cX12_polygon 64 = .ok (.dup, 1) := by decide +kernel
theorem dX12_polygon_65 : decode cX12_polygon 65 = .ok (.getfield 127, 3) := by decide +kernel
theorem dX12_polygon_68 : decode cX12_polygon 68 = .ok (.iconst 1, 1) := by decide +kernel
theorem dX12_polygon_69 : decode cX12_polygon 69 = .ok (.iadd, 1) := by decide +kernel
theorem dX12_polygon_70 : decode cX12_polygon 70 = .ok (.putfield 127, 3) := by decide +kernel
theorem dX12_polygon_73 : decode cX12_polygon 73 = .ok (.aload_n 0, 1) := by decide +kernel
theorem dX12_polygon_74 : decode cX12_polygon 74 = .ok (.iconst 0, 1) := by decide +kernel
theorem dX12_polygon_75 : decode cX12_polygon 75 = .ok (.putfield 130, 3) := by decide +kernel
theorem dX12_polygon_78 : decode cX12_polygon 78 = .ok (.aload_n 0, 1) := by decide +kernel
theorem dX12_polygon_79 : decode cX12_polygon 79 = .ok (.getfield 127, 3) := by decide +kernel
theorem dX12_polygon_82 : decode cX12_polygon 82 = .ok (.iconst 1, 1) := by decide +kernel
theorem dX12_polygon_83 : decode cX12_polygon 83 = .ok (.isub, 1) := by decide +kernel
theorem dX12_polygon_84 : decode cX12_polygon 84 = .ok (.ireturn, 1) := by decide +kernel
theorem dX12_corner_0 : decode cX12_corner 0 = .ok (.aload_n 0, 1) := by decide +kernel
theorem dX12_corner_1 : decode cX12_corner 1 = .ok (.iload_n 1, 1) := by decide +kernel
theorem dX12_corner_2 : decode cX12_corner 2 = .ok (.ifCond .lt 11, 3) := by decide +kernel
theorem dX12_corner_5 : decode cX12_corner 5 = .ok (.iload_n 1, 1) := by decide +kernel
theorem dX12_corner_6 : decode cX12_corner 6 = .ok (.aload_n 0, 1) := by decide +kernel
theorem dX12_corner_7 : decode cX12_corner 7 = .ok (.getfield 127, 3) := by decide +kernel
theorem dX12_corner_10 : decode cX12_corner 10 = .ok (.if_icmp .lt 7, 3) := by decide +kernel
theorem dX12_corner_13 : decode cX12_corner 13 = .ok (.iconst 1, 1) := by decide +kernel
theorem dX12_corner_14 : decode cX12_corner 14 = .ok (.goto 53, 3) := by decide +kernel
theorem dX12_corner_17 : decode cX12_corner 17 = .ok (.aload_n 0, 1) := by decide +kernel
theorem dX12_corner_18 : decode cX12_corner 18 = .ok (.getfield 13, 3) := by decide +kernel
theorem dX12_corner_21 : decode cX12_corner 21 = .ok (.iload_n 1, 1) := by decide +kernel
theorem dX12_corner_22 : decode cX12_corner 22 = .ok (.iaload, 1) := by decide +kernel
theorem dX12_corner_23 : decode cX12_corner 23 = .ok (.bipush 16, 2) := by decide +kernel
theorem dX12_corner_25 : decode cX12_corner 25 = .ok (.if_icmp .ne 7, 3) := by decide +kernel
theorem dX12_corner_28 : decode cX12_corner 28 = .ok (.iconst 2, 1) := by decide +kernel
theorem dX12_corner_29 : decode cX12_corner 29 = .ok (.goto 38, 3) := by decide +kernel
theorem dX12_corner_32 : decode cX12_corner 32 = .ok (.lload_n 2, 1) := by decide +kernel
theorem dX12_corner_33 : decode cX12_corner 33 = .ok (.lconst 0, 1) := by decide +kernel
theorem dX12_corner_34 : decode cX12_corner 34 = .ok (.lcmp, 1) := by decide +kernel
theorem dX12_corner_35 : decode cX12_corner 35 = .ok (.ifCond .lt 27, 3) := by decide +kernel
theorem dX12_corner_38 : decode cX12_corner 38 = .ok (.lload_n 2, 1) := by decide +kernel
theorem dX12_corner_39 : decode cX12_corner 39 = .ok (.ldc2_w 134, 3) := by decide +kernel
theorem dX12_corner_42 : decode cX12_corner 42 = .ok (.lcmp, 1) := by decide +kernel
theorem dX12_corner_43 : decode cX12_corner 43 = .ok (.ifCond .gt 19, 3) := by decide +kernel
theorem dX12_corner_46 : decode cX12_corner 46 = .ok (.lload 4, 2) := by decide +kernel
theorem dX12_corner_48 : decode cX12_corner 48 = .ok (.lconst 0, 1) := by decide +kernel
theorem dX12_corner_49 : decode cX12_corner 49 = .ok (.lcmp, 1) := by decide +kernel
theorem dX12_corner_50 : decode cX12_corner 50 = .ok (.ifCond .lt 12, 3) := by decide +kernel
theorem dX12_corner_53 : decode cX12_corner 53 = .ok (.lload 4, 2) := by decide +kernel
theorem dX12_corner_55 : decode cX12_corner 55 = .ok (.ldc2_w 134, 3) := by decide +kernel
theorem dX12_corner_58 : decode cX12_corner 58 = .ok (.lcmp, 1) := by decide +kernel
theorem dX12_corner_59 : decode cX12_corner 59 = .ok (.ifCond .le 7, 3) := by decide +kernel
theorem dX12_corner_62 : decode cX12_corner 62 = .ok (.iconst 3, 1) := by decide +kernel
theorem dX12_corner_63 : decode cX12_corner 63 = .ok (.goto 4, 3) := by decide +kernel
theorem dX12_corner_66 : decode cX12_corner 66 = .ok (.iconst 0, 1) := by decide +kernel
theorem dX12_corner_67 : decode cX12_corner 67 = .ok (.putfield 124, 3) := by decide +kernel
theorem dX12_corner_70 : decode cX12_corner 70 = .ok (.aload_n 0, 1) := by decide +kernel
theorem dX12_corner_71 : decode cX12_corner 71 = .ok (.getfield 124, 3) := by decide +kernel
theorem dX12_corner_74 : decode cX12_corner 74 = .ok (.ifCond .le 5, 3) := by decide +kernel
theorem dX12_corner_77 : decode cX12_corner 77 = .ok (.iconst 0, 1) := by decide +kernel
theorem dX12_corner_78 : decode cX12_corner 78 = .ok (.ireturn, 1) := by decide +kernel
theorem dX12_corner_79 : decode cX12_corner 79 = .ok (.bipush 16, 2) := by decide +kernel
theorem dX12_corner_81 : decode cX12_corner 81 = .ok (.iload_n 1, 1) := by decide +kernel
theorem dX12_corner_82 : decode cX12_corner 82 = .ok (.imul, 1) := by decide +kernel
theorem dX12_corner_83 : decode cX12_corner 83 = .ok (.aload_n 0, 1) := by decide +kernel
theorem dX12_corner_84 : decode cX12_corner 84 = .ok (.getfield 13, 3) := by decide +kernel
theorem dX12_corner_87 : decode cX12_corner 87 = .ok (.iload_n 1, 1) := by decide +kernel
theorem dX12_corner_88 : decode cX12_corner 88 = .ok (.iaload, 1) := by decide +kernel
theorem dX12_corner_89 : decode cX12_corner 89 = .ok (.iadd, 1) := by decide +kernel
theorem dX12_corner_90 : decode cX12_corner 90 = .ok (.istore 6, 2) := by decide +kernel
theorem dX12_corner_92 : decode cX12_corner 92 = .ok (.aload_n 0, 1) := by decide +kernel
theorem dX12_corner_93 : decode cX12_corner 93 = .ok (.getfield 13, 3) := by decide +kernel
theorem dX12_corner_96 : decode cX12_corner 96 = .ok (.iload_n 1, 1) := by decide +kernel
theorem dX12_corner_97 : decode cX12_corner 97 = .ok (.iaload, 1) := by decide +kernel
theorem dX12_corner_98 : decode cX12_corner 98 = .ok (.ifCond .le 49, 3) := by decide +kernel
theorem dX12_corner_101 : decode cX12_corner 101 = .ok (.aload_n 0, 1) := by decide +kernel
theorem dX12_corner_102 : decode cX12_corner 102 = .ok (.getfield 16, 3) := by decide +kernel
theorem dX12_corner_105 : decode cX12_corner 105 = .ok (.iload 6, 2) := by decide +kernel
theorem dX12_corner_107 : decode cX12_corner 107 = .ok (.iconst 1, 1) := by decide +kernel
theorem dX12_corner_108 : decode cX12_corner 108 = .ok (.isub, 1) := by decide +kernel
theorem dX12_corner_109 : decode cX12_corner 109 = .ok (.iaload, 1) := by decide +kernel
theorem dX12_corner_110 : decode cX12_corner 110 = .ok (.i2l, 1) := by decide +kernel
theorem dX12_corner_111 : decode cX12_corner 111 = .ok (.lload_n 2, 1) := by decide +kernel
theorem dX12_corner_112 : decode cX12_corner 112 = .ok (.lcmp, 1) := by decide +kernel
theorem dX12_corner_113 : decode cX12_corner 113 = .ok (.ifCond .ne 7, 3) := by decide +kernel
theorem dX12_corner_116 : decode cX12_corner 116 = .ok (.iconst 1, 1) := by decide +kernel
theorem dX12_corner_117 : decode cX12_corner 117 = .ok (.goto 4, 3) := by decide +kernel
theorem dX12_corner_120 : decode cX12_corner 120 = .ok (.iconst 0, 1) := by decide +kernel
theorem dX12_corner_121 : decode cX12_corner 121 = .ok (.aload_n 0, 1) := by decide +kernel
theorem dX12_corner_122 : decode cX12_corner 122 = .ok (.getfield 19, 3) := by decide +kernel
theorem dX12_corner_125 : decode cX12_corner 125 = .ok (.iload 6, 2) := by decide +kernel
theorem dX12_corner_127 : decode cX12_corner 127 = .ok (.iconst 1, 1) := by decide +kernel
theorem dX12_corner_128 : decode cX12_corner 128 = .ok (.isub, 1) := by decide +kernel
theorem dX12_corner_129 : decode cX12_corner 129 = .ok (.iaload, 1) := by decide +kernel
theorem dX12_corner_130 : decode cX12_corner 130 = .ok (.i2l, 1) := by decide +kernel
theorem dX12_corner_131 : decode cX12_corner 131 = .ok (.lload 4, 2) := by decide +kernel
theorem dX12_corner_133 : decode cX12_corner 133 = .ok (.lcmp, 1) := by decide +kernel
theorem dX12_corner_134 : decode cX12_corner 134 = .ok (.ifCond .ne 7, 3) := by decide +kernel
theorem dX12_corner_137 : decode cX12_corner 137 = .ok (.iconst 1, 1) := by decide +kernel
theorem dX12_corner_138 : decode cX12_corner 138 = .ok (.goto 4, 3) := by decide +kernel
theorem dX12_corner_141 : decode cX12_corner 141 = .ok (.iconst 0, 1) := by decide +kernel
theorem dX12_corner_142 : decode cX12_corner 142 = .ok (.if_icmp .ne 5, 3) := by decide +kernel
theorem dX12_corner_145 : decode cX12_corner 145 = .ok (.iconst 0, 1) := by decide +kernel
theorem dX12_corner_146 : decode cX12_corner 146 = .ok (.ireturn, 1) := by decide +kernel
theorem dX12_corner_147 : decode cX12_corner 147 = .ok (.aload_n 0, 1) := by decide +kernel
theorem dX12_corner_148 : decode cX12_corner 148 = .ok (.getfield 16, 3) := by decide +kernel
theorem dX12_corner_151 : decode cX12_corner 151 = .ok (.iload 6, 2) := by decide +kernel
theorem dX12_corner_153 : decode cX12_corner 153 = .ok (.lload_n 2, 1) := by decide +kernel
theorem dX12_corner_154 : decode cX12_corner 154 = .ok (.l2i, 1) := by decide +kernel
theorem dX12_corner_155 : decode cX12_corner 155 = .ok (.iastore, 1) := by decide +kernel
theorem dX12_corner_156 : decode cX12_corner 156 = .ok (.aload_n 0, 1) := by decide +kernel
theorem dX12_corner_157 : decode cX12_corner 157 = .ok (.getfield 19, 3) := by decide +kernel
theorem dX12_corner_160 : decode cX12_corner 160 = .ok (.iload 6, 2) := by decide +kernel
theorem dX12_corner_162 : decode cX12_corner 162 = .ok (.lload 4, 2) := by decide +kernel
theorem dX12_corner_164 : decode cX12_corner 164 = .ok (.l2i, 1) := by decide +kernel
theorem dX12_corner_165 : decode cX12_corner 165 = .ok (.iastore, 1) := by decide +kernel
theorem dX12_corner_166 : decode cX12_corner 166 = .ok (.aload_n 0, 1) := by decide +kernel
theorem dX12_corner_167 : decode cX12_corner 167 = .ok (.getfield 13, 3) := by decide +kernel
theorem dX12_corner_170 : decode cX12_corner 170 = .ok (.iload_n 1, 1) := by decide +kernel
theorem dX12_corner_171 : decode cX12_corner 171 = .ok (.dup2, 1) := by decide +kernel
theorem dX12_corner_172 : decode cX12_corner 172 = .ok (.iaload, 1) := by decide +kernel
theorem dX12_corner_173 : decode cX12_corner 173 = .ok (.iconst 1, 1) := by decide +kernel
theorem dX12_corner_174 : decode cX12_corner 174 = .ok (.iadd, 1) := by decide +kernel
theorem dX12_corner_175 : decode cX12_corner 175 = .ok (.iastore, 1) := by decide +kernel
theorem dX12_corner_176 : decode cX12_corner 176 = .ok (.aload_n 0, 1) := by decide +kernel
theorem dX12_corner_177 : decode cX12_corner 177 = .ok (.iconst 0, 1) := by decide +kernel
theorem dX12_corner_178 : decode cX12_corner 178 = .ok (.putfield 130, 3) := by decide +kernel
theorem dX12_corner_181 : decode cX12_corner 181 = .ok (.iconst 1, 1) := by decide +kernel
theorem dX12_corner_182 : decode cX12_corner 182 = .ok (.ireturn, 1) := by decide +kernel
theorem dX12_isSquare_0 : decode cX12_isSquare 0 = .ok (.lload_n 0, 1) := by decide +kernel
theorem dX12_isSquare_1 : decode cX12_isSquare 1 = .ok (.lconst 0, 1) := by decide +kernel
theorem dX12_isSquare_2 : decode cX12_isSquare 2 = .ok (.lcmp, 1) := by decide +kernel
theorem dX12_isSquare_3 : decode cX12_isSquare 3 = .ok (.ifCond .lt 29, 3) := by decide +kernel
theorem dX12_isSquare_6 : decode cX12_isSquare 6 = .ok (.lload_n 0, 1) := by decide +kernel
theorem dX12_isSquare_7 : decode cX12_isSquare 7 = .ok (.ldc2_w 134, 3) := by decide +kernel
theorem dX12_isSquare_10 : decode cX12_isSquare 10 = .ok (.lcmp, 1) := by decide +kernel
theorem dX12_isSquare_11 : decode cX12_isSquare 11 = .ok (.ifCond .ge 21, 3) := by decide +kernel
theorem dX12_isSquare_14 : decode cX12_isSquare 14 = .ok (.lload_n 2, 1) := by decide +kernel
theorem dX12_isSquare_15 : decode cX12_isSquare 15 = .ok (.lconst 0, 1) := by decide +kernel
theorem dX12_isSquare_16 : decode cX12_isSquare 16 = .ok (.lcmp, 1) := by decide +kernel
theorem dX12_isSquare_17 : decode cX12_isSquare 17 = .ok (.ifCond .lt 15, 3) := by decide +kernel
theorem dX12_isSquare_20 : decode cX12_isSquare 20 = .ok (.lload_n 2, 1) := by decide +kernel
theorem dX12_isSquare_21 : decode cX12_isSquare 21 = .ok (.ldc2_w 134, 3) := by decide +kernel
theorem dX12_isSquare_24 : decode cX12_isSquare 24 = .ok (.lcmp, 1) := by decide +kernel
theorem dX12_isSquare_25 : decode cX12_isSquare 25 = .ok (.ifCond .ge 7, 3) := by decide +kernel
theorem dX12_isSquare_28 : decode cX12_isSquare 28 = .ok (.iconst 1, 1) := by decide +kernel
theorem dX12_isSquare_29 : decode cX12_isSquare 29 = .ok (.goto 4, 3) := by decide +kernel
theorem dX12_isSquare_32 : decode cX12_isSquare 32 = .ok (.iconst 0, 1) := by decide +kernel
theorem dX12_isSquare_33 : decode cX12_isSquare 33 = .ok (.ireturn, 1) := by decide +kernel
theorem dX12_text_0 : decode cX12_text 0 = .ok (.aload_n 0, 1) := by decide +kernel
theorem dX12_text_1 : decode cX12_text 1 = .ok (.iload_n 1, 1) := by decide +kernel
theorem dX12_text_2 : decode cX12_text 2 = .ok (.ifCond .lt 18, 3) := by decide +kernel
theorem dX12_text_5 : decode cX12_text 5 = .ok (.iload_n 1, 1) := by decide +kernel
theorem dX12_text_6 : decode cX12_text 6 = .ok (.bipush 8, 2) := by decide +kernel
theorem dX12_text_8 : decode cX12_text 8 = .ok (.if_icmp .ge 12, 3) := by decide +kernel
theorem dX12_text_11 : decode cX12_text 11 = .ok (.lload_n 2, 1) := by decide +kernel
theorem dX12_text_12 : decode cX12_text 12 = .ok (.lload 4, 2) := by decide +kernel
theorem dX12_text_14 : decode cX12_text 14 = .ok (.invokestatic 136, 3) := by decide +kernel
theorem dX12_text_17 : decode cX12_text 17 = .ok (.ifCond .ne 7, 3) := by decide +kernel
theorem dX12_text_20 : decode cX12_text 20 = .ok (.iconst 1, 1) := by decide +kernel
theorem dX12_text_21 : decode cX12_text 21 = .ok (.goto 26, 3) := by decide +kernel
theorem dX12_text_24 : decode cX12_text 24 = .ok (.aload_n 0, 1) := by decide +kernel
theorem dX12_text_25 : decode cX12_text 25 = .ok (.getfield 140, 3) := by decide +kernel
theorem dX12_text_28 : decode cX12_text 28 = .ok (.bipush 40, 2) := by decide +kernel
theorem dX12_text_30 : decode cX12_text 30 = .ok (.if_icmp .ne 7, 3) := by decide +kernel
theorem dX12_text_33 : decode cX12_text 33 = .ok (.iconst 2, 1) := by decide +kernel
theorem dX12_text_34 : decode cX12_text 34 = .ok (.goto 13, 3) := by decide +kernel
theorem dX12_text_37 : decode cX12_text 37 = .ok (.iload 6, 2) := by decide +kernel
theorem dX12_text_39 : decode cX12_text 39 = .ok (.ifCond .ge 7, 3) := by decide +kernel
theorem dX12_text_42 : decode cX12_text 42 = .ok (.iconst 3, 1) := by decide +kernel
theorem dX12_text_43 : decode cX12_text 43 = .ok (.goto 4, 3) := by decide +kernel
theorem dX12_text_46 : decode cX12_text 46 = .ok (.iconst 0, 1) := by decide +kernel
theorem dX12_text_47 : decode cX12_text 47 = .ok (.putfield 124, 3) := by decide +kernel
theorem dX12_text_50 : decode cX12_text 50 = .ok (.aload_n 0, 1) := by decide +kernel
theorem dX12_text_51 : decode cX12_text 51 = .ok (.getfield 124, 3) := by decide +kernel
theorem dX12_text_54 : decode cX12_text 54 = .ok (.ifCond .le 5, 3) := by decide +kernel
theorem dX12_text_57 : decode cX12_text 57 = .ok (.iconst 0, 1) := by decide +kernel
theorem dX12_text_58 : decode cX12_text 58 = .ok (.ireturn, 1) := by decide +kernel
theorem dX12_text_59 : decode cX12_text 59 = .ok (.aload_n 0, 1) := by decide +kernel
theorem dX12_text_60 : decode cX12_text 60 = .ok (.getfield 22, 3) := by decide +kernel
theorem dX12_text_63 : decode cX12_text 63 = .ok (.aload_n 0, 1) := by decide +kernel
theorem dX12_text_64 : decode cX12_text 64 = .ok (.getfield 140, 3) := by decide +kernel
theorem dX12_text_67 : decode cX12_text 67 = .ok (.iload_n 1, 1) := by decide +kernel
theorem dX12_text_68 : decode cX12_text 68 = .ok (.iastore, 1) := by decide +kernel
theorem dX12_text_69 : decode cX12_text 69 = .ok (.aload_n 0, 1) := by decide +kernel
theorem dX12_text_70 : decode cX12_text 70 = .ok (.getfield 25, 3) := by decide +kernel
theorem dX12_text_73 : decode cX12_text 73 = .ok (.aload_n 0, 1) := by decide +kernel
theorem dX12_text_74 : decode cX12_text 74 = .ok (.getfield 140, 3) := by decide +kernel
theorem dX12_text_77 : decode cX12_text 77 = .ok (.bipush 64, 2) := by decide +kernel
theorem dX12_text_79 : decode cX12_text 79 = .ok (.lload 4, 2) := by decide +kernel
theorem dX12_text_81 : decode cX12_text 81 = .ok (.l2i, 1) := by decide +kernel
theorem dX12_text_82 : decode cX12_text 82 = .ok (.imul, 1) := by decide +kernel
theorem dX12_text_83 : decode cX12_text 83 = .ok (.lload_n 2, 1) := by decide +kernel
theorem dX12_text_84 : decode cX12_text 84 = .ok (.l2i, 1) := by decide +kernel
theorem dX12_text_85 : decode cX12_text 85 = .ok (.iadd, 1) := by decide +kernel
theorem dX12_text_86 : decode cX12_text 86 = .ok (.iastore, 1) := by decide +kernel
theorem dX12_text_87 : decode cX12_text 87 = .ok (.aload_n 0, 1) := by decide +kernel
theorem dX12_text_88 : decode cX12_text 88 = .ok (.getfield 28, 3) := by decide +kernel
theorem dX12_text_91 : decode cX12_text 91 = .ok (.aload_n 0, 1) := by decide +kernel
theorem dX12_text_92 : decode cX12_text 92 = .ok (.getfield 140, 3) := by decide +kernel
theorem dX12_text_95 : decode cX12_text 95 = .ok (.iload 6, 2) := by decide +kernel
theorem dX12_text_97 : decode cX12_text 97 = .ok (.iastore, 1) := by decide +kernel
theorem dX12_text_98 : decode cX12_text 98 = .ok (.aload_n 0, 1) := by decide +kernel
theorem dX12_text_99 : decode cX12_text 99 = .ok (.dup, 1) := by decide +kernel
theorem dX12_text_100 : decode cX12_text 100 = .ok (.getfield 140, 3) := by decide +kernel
theorem dX12_text_103 : decode cX12_text 103 = .ok (.iconst 1, 1) := by decide +kernel
theorem dX12_text_104 : decode cX12_text 104 = .ok (.iadd, 1) := by decide +kernel
theorem dX12_text_105 : decode cX12_text 105 = .ok (.putfield 140, 3) := by decide +kernel
theorem dX12_text_108 : decode cX12_text 108 = .ok (.aload_n 0, 1) := by decide +kernel
theorem dX12_text_109 : decode cX12_text 109 = .ok (.iconst 0, 1) := by decide +kernel
theorem dX12_text_110 : decode cX12_text 110 = .ok (.putfield 130, 3) := by decide +kernel
theorem dX12_text_113 : decode cX12_text 113 = .ok (.aload_n 0, 1) := by decide +kernel
theorem dX12_text_114 : decode cX12_text 114 = .ok (.getfield 140, 3) := by decide +kernel
theorem dX12_text_117 : decode cX12_text 117 = .ok (.ireturn, 1) := by decide +kernel
theorem dX12_isOpen_0 : decode cX12_isOpen 0 = .ok (.bipush 16, 2) := by decide +kernel
theorem dX12_isOpen_2 : decode cX12_isOpen 2 = .ok (.iload_n 1, 1) := by decide +kernel
theorem dX12_isOpen_3 : decode cX12_isOpen 3 = .ok (.imul, 1) := by decide +kernel
theorem dX12_isOpen_4 : decode cX12_isOpen 4 = .ok (.istore_n 2, 1) := by decide +kernel
theorem dX12_isOpen_5 : decode cX12_isOpen 5 = .ok (.iload_n 2, 1) := by decide +kernel
theorem dX12_isOpen_6 : decode cX12_isOpen 6 = .ok (.aload_n 0, 1) := by decide +kernel
theorem dX12_isOpen_7 : decode cX12_isOpen 7 = .ok (.getfield 13, 3) := by decide +kernel
theorem dX12_isOpen_10 : decode cX12_isOpen 10 = .ok (.iload_n 1, 1) := by decide +kernel
theorem dX12_isOpen_11 : decode cX12_isOpen 11 = .ok (.iaload, 1) := by decide +kernel
theorem dX12_isOpen_12 : decode cX12_isOpen 12 = .ok (.iadd, 1) := by decide +kernel
theorem dX12_isOpen_13 : decode cX12_isOpen 13 = .ok (.iconst 1, 1) := by decide +kernel
theorem dX12_isOpen_14 : decode cX12_isOpen 14 = .ok (.isub, 1) := by decide +kernel
theorem dX12_isOpen_15 : decode cX12_isOpen 15 = .ok (.istore_n 3, 1) := by decide +kernel
theorem dX12_isOpen_16 : decode cX12_isOpen 16 = .ok (.aload_n 0, 1) := by decide +kernel
theorem dX12_isOpen_17 : decode cX12_isOpen 17 = .ok (.getfield 13, 3) := by decide +kernel
theorem dX12_isOpen_20 : decode cX12_isOpen 20 = .ok (.iload_n 1, 1) := by decide +kernel
theorem dX12_isOpen_21 : decode cX12_isOpen 21 = .ok (.iaload, 1) := by decide +kernel
theorem dX12_isOpen_22 : decode cX12_isOpen 22 = .ok (.iconst 4, 1) := by decide +kernel
theorem dX12_isOpen_23 : decode cX12_isOpen 23 = .ok (.if_icmp .lt 46, 3) := by decide +kernel
theorem dX12_isOpen_26 : decode cX12_isOpen 26 = .ok (.aload_n 0, 1) := by decide +kernel
theorem dX12_isOpen_27 : decode cX12_isOpen 27 = .ok (.getfield 16, 3) := by decide +kernel
theorem dX12_isOpen_30 : decode cX12_isOpen 30 = .ok (.iload_n 2, 1) := by decide +kernel
theorem dX12_isOpen_31 : decode cX12_isOpen 31 = .ok (.iaload, 1) := by decide +kernel
theorem dX12_isOpen_32 : decode cX12_isOpen 32 = .ok (.aload_n 0, 1) := by decide +kernel
theorem dX12_isOpen_33 : decode cX12_isOpen 33 = .ok (.getfield 16, 3) := by decide +kernel
theorem dX12_isOpen_36 : decode cX12_isOpen 36 = .ok (.iload_n 3, 1) := by decide +kernel
theorem dX12_isOpen_37 : decode cX12_isOpen 37 = .ok (.iaload, 1) := by decide +kernel
theorem dX12_isOpen_38 : decode cX12_isOpen 38 = .ok (.if_icmp .ne 7, 3) := by decide +kernel
theorem dX12_isOpen_41 : decode cX12_isOpen 41 = .ok (.iconst 1, 1) := by decide +kernel
theorem dX12_isOpen_42 : decode cX12_isOpen 42 = .ok (.goto 4, 3) := by decide +kernel
theorem dX12_isOpen_45 : decode cX12_isOpen 45 = .ok (.iconst 0, 1) := by decide +kernel
theorem dX12_isOpen_46 : decode cX12_isOpen 46 = .ok (.aload_n 0, 1) := by decide +kernel
theorem dX12_isOpen_47 : decode cX12_isOpen 47 = .ok (.getfield 19, 3) := by decide +kernel
theorem dX12_isOpen_50 : decode cX12_isOpen 50 = .ok (.iload_n 2, 1) := by decide +kernel
theorem dX12_isOpen_51 : decode cX12_isOpen 51 = .ok (.iaload, 1) := by decide +kernel
theorem dX12_isOpen_52 : decode cX12_isOpen 52 = .ok (.aload_n 0, 1) := by decide +kernel
theorem dX12_isOpen_53 : decode cX12_isOpen 53 = .ok (.getfield 19, 3) := by decide +kernel
theorem dX12_isOpen_56 : decode cX12_isOpen 56 = .ok (.iload_n 3, 1) := by decide +kernel
theorem dX12_isOpen_57 : decode cX12_isOpen 57 = .ok (.iaload, 1) := by decide +kernel
theorem dX12_isOpen_58 : decode cX12_isOpen 58 = .ok (.if_icmp .ne 7, 3) := by decide +kernel
theorem dX12_isOpen_61 : decode cX12_isOpen 61 = .ok (.iconst 1, 1) := by decide +kernel
theorem dX12_isOpen_62 : decode cX12_isOpen 62 = .ok (.goto 4, 3) := by decide +kernel
theorem dX12_isOpen_65 : decode cX12_isOpen 65 = .ok (.iconst 0, 1) := by decide +kernel
theorem dX12_isOpen_66 : decode cX12_isOpen 66 = .ok (.if_icmp .ne 7, 3) := by decide +kernel
theorem dX12_isOpen_69 : decode cX12_isOpen 69 = .ok (.iconst 1, 1) := by decide +kernel
theorem dX12_isOpen_70 : decode cX12_isOpen 70 = .ok (.goto 4, 3) := by decide +kernel
theorem dX12_isOpen_73 : decode cX12_isOpen 73 = .ok (.iconst 0, 1) := by decide +kernel
theorem dX12_isOpen_74 : decode cX12_isOpen 74 = .ok (.ireturn, 1) := by decide +kernel
theorem dX12_covers_0 : decode cX12_covers 0 = .ok (.iconst 0, 1) := by decide +kernel
theorem dX12_covers_1 : decode cX12_covers 1 = .ok (.istore 4, 2) := by decide +kernel
theorem dX12_covers_3 : decode cX12_covers 3 = .ok (.iconst 0, 1) := by decide +kernel
theorem dX12_covers_4 : decode cX12_covers 4 = .ok (.istore 5, 2) := by decide +kernel
theorem dX12_covers_6 : decode cX12_covers 6 = .ok (.iload 5, 2) := by decide +kernel
theorem dX12_covers_8 : decode cX12_covers 8 = .ok (.aload_n 0, 1) := by decide +kernel
theorem dX12_covers_9 : decode cX12_covers 9 = .ok (.getfield 13, 3) := by decide +kernel
theorem dX12_covers_12 : decode cX12_covers 12 = .ok (.iload_n 1, 1) := by decide +kernel
theorem dX12_covers_13 : decode cX12_covers 13 = .ok (.iaload, 1) := by decide +kernel
theorem dX12_covers_14 : decode cX12_covers 14 = .ok (.if_icmp .ge 128, 3) := by decide +kernel
theorem dX12_covers_17 : decode cX12_covers 17 = .ok (.bipush 16, 2) := by decide +kernel
theorem dX12_covers_19 : decode cX12_covers 19 = .ok (.iload_n 1, 1) := by decide +kernel
theorem dX12_covers_20 : decode cX12_covers 20 = .ok (.imul, 1) := by decide +kernel
theorem dX12_covers_21 : decode cX12_covers 21 = .ok (.iload 5, 2) := by decide +kernel
theorem dX12_covers_23 : decode cX12_covers 23 = .ok (.iadd, 1) := by decide +kernel
theorem dX12_covers_24 : decode cX12_covers 24 = .ok (.istore 6, 2) := by decide +kernel
theorem dX12_covers_26 : decode cX12_covers 26 = .ok (.bipush 16, 2) := by decide +kernel
theorem dX12_covers_28 : decode cX12_covers 28 = .ok (.iload_n 1, 1) := by decide +kernel
theorem dX12_covers_29 : decode cX12_covers 29 = .ok (.imul, 1) := by decide +kernel
theorem dX12_covers_30 : decode cX12_covers 30 = .ok (.iload 5, 2) := by decide +kernel
theorem dX12_covers_32 : decode cX12_covers 32 = .ok (.iconst 1, 1) := by decide +kernel
theorem dX12_covers_33 : decode cX12_covers 33 = .ok (.iadd, 1) := by decide +kernel
theorem dX12_covers_34 : decode cX12_covers 34 = .ok (.aload_n 0, 1) := by decide +kernel
theorem dX12_covers_35 : decode cX12_covers 35 = .ok (.getfield 13, 3) := by decide +kernel
theorem dX12_covers_38 : decode cX12_covers 38 = .ok (.iload_n 1, 1) := by decide +kernel
theorem dX12_covers_39 : decode cX12_covers 39 = .ok (.iaload, 1) := by decide +kernel
theorem dX12_covers_40 : decode cX12_covers 40 = .ok (.irem, 1) := by decide +kernel
theorem dX12_covers_41 : decode cX12_covers 41 = .ok (.iadd, 1) := by decide +kernel
theorem dX12_covers_42 : decode cX12_covers 42 = .ok (.istore 7, 2) := by decide +kernel
theorem dX12_covers_44 : decode cX12_covers 44 = .ok (.aload_n 0, 1) := by decide +kernel
theorem dX12_covers_45 : decode cX12_covers 45 = .ok (.getfield 16, 3) := by decide +kernel
theorem dX12_covers_48 : decode cX12_covers 48 = .ok (.iload 6, 2) := by decide +kernel
theorem dX12_covers_50 : decode cX12_covers 50 = .ok (.iaload, 1) := by decide +kernel
theorem dX12_covers_51 : decode cX12_covers 51 = .ok (.aload_n 0, 1) := by decide +kernel
theorem dX12_covers_52 : decode cX12_covers 52 = .ok (.getfield 16, 3) := by decide +kernel
theorem dX12_covers_55 : decode cX12_covers 55 = .ok (.iload 7, 2) := by decide +kernel
theorem dX12_covers_57 : decode cX12_covers 57 = .ok (.iaload, 1) := by decide +kernel
theorem dX12_covers_58 : decode cX12_covers 58 = .ok (.if_icmp .ne 18, 3) := by decide +kernel
theorem dX12_covers_61 : decode cX12_covers 61 = .ok (.aload_n 0, 1) := by decide +kernel
theorem dX12_covers_62 : decode cX12_covers 62 = .ok (.getfield 16, 3) := by decide +kernel
theorem dX12_covers_65 : decode cX12_covers 65 = .ok (.iload 6, 2) := by decide +kernel
theorem dX12_covers_67 : decode cX12_covers 67 = .ok (.iaload, 1) := by decide +kernel
theorem dX12_covers_68 : decode cX12_covers 68 = .ok (.iload_n 2, 1) := by decide +kernel
theorem dX12_covers_69 : decode cX12_covers 69 = .ok (.if_icmp .le 7, 3) := by decide +kernel
theorem dX12_covers_72 : decode cX12_covers 72 = .ok (.iconst 1, 1) := by decide +kernel
theorem dX12_covers_73 : decode cX12_covers 73 = .ok (.goto 4, 3) := by decide +kernel
theorem dX12_covers_76 : decode cX12_covers 76 = .ok (.iconst 0, 1) := by decide +kernel
theorem dX12_covers_77 : decode cX12_covers 77 = .ok (.istore 8, 2) := by decide +kernel
theorem dX12_covers_79 : decode cX12_covers 79 = .ok (.iload 8, 2) := by decide +kernel
theorem dX12_covers_81 : decode cX12_covers 81 = .ok (.ifCond .eq 51, 3) := by decide +kernel
theorem dX12_covers_84 : decode cX12_covers 84 = .ok (.aload_n 0, 1) := by decide +kernel
theorem dX12_covers_85 : decode cX12_covers 85 = .ok (.getfield 19, 3) := by decide +kernel
theorem dX12_covers_88 : decode cX12_covers 88 = .ok (.iload 6, 2) := by decide +kernel
theorem dX12_covers_90 : decode cX12_covers 90 = .ok (.iaload, 1) := by decide +kernel
theorem dX12_covers_91 : decode cX12_covers 91 = .ok (.iload_n 3, 1) := by decide +kernel
theorem dX12_covers_92 : decode cX12_covers 92 = .ok (.if_icmp .gt 7, 3) := by decide +kernel
theorem dX12_covers_95 : decode cX12_covers 95 = .ok (.iconst 1, 1) := by decide +kernel
theorem dX12_covers_96 : decode cX12_covers 96 = .ok (.goto 4, 3) := by decide +kernel
theorem dX12_covers_99 : decode cX12_covers 99 = .ok (.iconst 0, 1) := by decide +kernel
theorem dX12_covers_100 : decode cX12_covers 100 = .ok (.aload_n 0, 1) := by decide +kernel
theorem dX12_covers_101 : decode cX12_covers 101 = .ok (.getfield 19, 3) := by decide +kernel
theorem dX12_covers_104 : decode cX12_covers 104 = .ok (.iload 7, 2) := by decide +kernel
theorem dX12_covers_106 : decode cX12_covers 106 = .ok (.iaload, 1) := by decide +kernel
theorem dX12_covers_107 : decode cX12_covers 107 = .ok (.iload_n 3, 1) := by decide +kernel
theorem dX12_covers_108 : decode cX12_covers 108 = .ok (.if_icmp .gt 7, 3) := by decide +kernel
theorem dX12_covers_111 : decode cX12_covers 111 = .ok (.iconst 1, 1) := by decide +kernel
theorem dX12_covers_112 : decode cX12_covers 112 = .ok (.goto 4, 3) := by decide +kernel
theorem dX12_covers_115 : decode cX12_covers 115 = .ok (.iconst 0, 1) := by decide +kernel
theorem dX12_covers_116 : decode cX12_covers 116 = .ok (.if_icmp .eq 16, 3) := by decide +kernel
theorem dX12_covers_119 : decode cX12_covers 119 = .ok (.iload 4, 2) := by decide +kernel
theorem dX12_covers_121 : decode cX12_covers 121 = .ok (.ifCond .ne 7, 3) := by decide +kernel
theorem dX12_covers_124 : decode cX12_covers 124 = .ok (.iconst 1, 1) := by decide +kernel
theorem dX12_covers_125 : decode cX12_covers 125 = .ok (.goto 9, 3) := by decide +kernel
theorem dX12_covers_128 : decode cX12_covers 128 = .ok (.iconst 0, 1) := by decide +kernel
theorem dX12_covers_129 : decode cX12_covers 129 = .ok (.goto 5, 3) := by decide +kernel
theorem dX12_covers_132 : decode cX12_covers 132 = .ok (.iload 4, 2) := by decide +kernel
theorem dX12_covers_134 : decode cX12_covers 134 = .ok (.istore 4, 2) := by decide +kernel
theorem dX12_covers_136 : decode cX12_covers 136 = .ok (.iinc 5 1, 3) := by decide +kernel
theorem dX12_covers_139 : decode cX12_covers 139 = .ok (.goto (-133), 3) := by decide +kernel
theorem dX12_covers_142 : decode cX12_covers 142 = .ok (.iload 4, 2) := by decide +kernel
theorem dX12_covers_144 : decode cX12_covers 144 = .ok (.ireturn, 1) := by decide +kernel
theorem dX12_isLetter_0 : decode cX12_isLetter 0 = .ok (.iload_n 0, 1) := by decide +kernel
theorem dX12_isLetter_1 : decode cX12_isLetter 1 = .ok (.bipush 97, 2) := by decide +kernel
theorem dX12_isLetter_3 : decode cX12_isLetter 3 = .ok (.if_icmp .lt 13, 3) := by decide +kernel
theorem dX12_isLetter_6 : decode cX12_isLetter 6 = .ok (.iload_n 0, 1) := by decide +kernel
theorem dX12_isLetter_7 : decode cX12_isLetter 7 = .ok (.bipush 122, 2) := by decide +kernel
theorem dX12_isLetter_9 : decode cX12_isLetter 9 = .ok (.if_icmp .gt 7, 3) := by decide +kernel
theorem dX12_isLetter_12 : decode cX12_isLetter 12 = .ok (.iconst 1, 1) := by decide +kernel
theorem dX12_isLetter_13 : decode cX12_isLetter 13 = .ok (.goto 4, 3) := by decide +kernel
theorem dX12_isLetter_16 : decode cX12_isLetter 16 = .ok (.iconst 0, 1) := by decide +kernel
theorem dX12_isLetter_17 : decode cX12_isLetter 17 = .ok (.ireturn, 1) := by decide +kernel
theorem dX12_isDigit_0 : decode cX12_isDigit 0 = .ok (.iload_n 0, 1) := by decide +kernel
theorem dX12_isDigit_1 : decode cX12_isDigit 1 = .ok (.bipush 48, 2) := by decide +kernel
theorem dX12_isDigit_3 : decode cX12_isDigit 3 = .ok (.if_icmp .lt 13, 3) := by decide +kernel
theorem dX12_isDigit_6 : decode cX12_isDigit 6 = .ok (.iload_n 0, 1) := by decide +kernel
theorem dX12_isDigit_7 : decode cX12_isDigit 7 = .ok (.bipush 57, 2) := by decide +kernel
theorem dX12_isDigit_9 : decode cX12_isDigit 9 = .ok (.if_icmp .gt 7, 3) := by decide +kernel
theorem dX12_isDigit_12 : decode cX12_isDigit 12 = .ok (.iconst 1, 1) := by decide +kernel
theorem dX12_isDigit_13 : decode cX12_isDigit 13 = .ok (.goto 4, 3) := by decide +kernel
theorem dX12_isDigit_16 : decode cX12_isDigit 16 = .ok (.iconst 0, 1) := by decide +kernel
theorem dX12_isDigit_17 : decode cX12_isDigit 17 = .ok (.ireturn, 1) := by decide +kernel
theorem dX12_isCharacter_0 : decode cX12_isCharacter 0 = .ok (.iload_n 0, 1) := by decide +kernel
theorem dX12_isCharacter_1 : decode cX12_isCharacter 1 = .ok (.bipush 32, 2) := by decide +kernel
theorem dX12_isCharacter_3 : decode cX12_isCharacter 3 = .ok (.if_icmp .lt 9, 3) := by decide +kernel
theorem dX12_isCharacter_6 : decode cX12_isCharacter 6 = .ok (.iload_n 0, 1) := by decide +kernel
theorem dX12_isCharacter_7 : decode cX12_isCharacter 7 = .ok (.bipush 126, 2) := by decide +kernel
theorem dX12_isCharacter_9 : decode cX12_isCharacter 9 = .ok (.if_icmp .le 9, 3) := by decide +kernel
theorem dX12_isCharacter_12 : decode cX12_isCharacter 12 = .ok (.iload_n 0, 1) := by decide +kernel
theorem dX12_isCharacter_13 : decode cX12_isCharacter 13 = .ok (.bipush 10, 2) := by decide +kernel
theorem dX12_isCharacter_15 : decode cX12_isCharacter 15 = .ok (.if_icmp .ne 7, 3) := by decide +kernel
theorem dX12_isCharacter_18 : decode cX12_isCharacter 18 = .ok (.iconst 1, 1) := by decide +kernel
theorem dX12_isCharacter_19 : decode cX12_isCharacter 19 = .ok (.goto 4, 3) := by decide +kernel
theorem dX12_isCharacter_22 : decode cX12_isCharacter 22 = .ok (.iconst 0, 1) := by decide +kernel
theorem dX12_isCharacter_23 : decode cX12_isCharacter 23 = .ok (.ireturn, 1) := by decide +kernel
theorem dX12_unit_0 : decode cX12_unit 0 = .ok (.aload_n 0, 1) := by decide +kernel
theorem dX12_unit_1 : decode cX12_unit 1 = .ok (.iconst 0, 1) := by decide +kernel
theorem dX12_unit_2 : decode cX12_unit 2 = .ok (.putfield 124, 3) := by decide +kernel
theorem dX12_unit_5 : decode cX12_unit 5 = .ok (.iload_n 1, 1) := by decide +kernel
theorem dX12_unit_6 : decode cX12_unit 6 = .ok (.invokestatic 143, 3) := by decide +kernel
theorem dX12_unit_9 : decode cX12_unit 9 = .ok (.ifCond .eq 13, 3) := by decide +kernel
theorem dX12_unit_12 : decode cX12_unit 12 = .ok (.aload_n 0, 1) := by decide +kernel
theorem dX12_unit_13 : decode cX12_unit 13 = .ok (.getfield 147, 3) := by decide +kernel
theorem dX12_unit_16 : decode cX12_unit 16 = .ok (.sipush 800, 3) := by decide +kernel
theorem dX12_unit_19 : decode cX12_unit 19 = .ok (.if_icmp .ne 5, 3) := by decide +kernel
theorem dX12_unit_22 : decode cX12_unit 22 = .ok (.iconst 0, 1) := by decide +kernel
theorem dX12_unit_23 : decode cX12_unit 23 = .ok (.ireturn, 1) := by decide +kernel
theorem dX12_unit_24 : decode cX12_unit 24 = .ok (.aload_n 0, 1) := by decide +kernel
theorem dX12_unit_25 : decode cX12_unit 25 = .ok (.getfield 68, 3) := by decide +kernel
theorem dX12_unit_28 : decode cX12_unit 28 = .ok (.aload_n 0, 1) := by decide +kernel
theorem dX12_unit_29 : decode cX12_unit 29 = .ok (.getfield 147, 3) := by decide +kernel
theorem dX12_unit_32 : decode cX12_unit 32 = .ok (.iload_n 1, 1) := by decide +kernel
theorem dX12_unit_33 : decode cX12_unit 33 = .ok (.iastore, 1) := by decide +kernel
theorem dX12_unit_34 : decode cX12_unit 34 = .ok (.aload_n 0, 1) := by decide +kernel
theorem dX12_unit_35 : decode cX12_unit 35 = .ok (.dup, 1) := by decide +kernel
theorem dX12_unit_36 : decode cX12_unit 36 = .ok (.getfield 147, 3) := by decide +kernel
theorem dX12_unit_39 : decode cX12_unit 39 = .ok (.iconst 1, 1) := by decide +kernel
theorem dX12_unit_40 : decode cX12_unit 40 = .ok (.iadd, 1) := by decide +kernel
theorem dX12_unit_41 : decode cX12_unit 41 = .ok (.putfield 147, 3) := by decide +kernel
theorem dX12_unit_44 : decode cX12_unit 44 = .ok (.iconst 1, 1) := by decide +kernel
theorem dX12_unit_45 : decode cX12_unit 45 = .ok (.ireturn, 1) := by decide +kernel
theorem dX12_units_0 : decode cX12_units 0 = .ok (.aload_n 0, 1) := by decide +kernel
theorem dX12_units_1 : decode cX12_units 1 = .ok (.iconst 0, 1) := by decide +kernel
theorem dX12_units_2 : decode cX12_units 2 = .ok (.putfield 124, 3) := by decide +kernel
theorem dX12_units_5 : decode cX12_units 5 = .ok (.iconst 0, 1) := by decide +kernel
theorem dX12_units_6 : decode cX12_units 6 = .ok (.istore_n 2, 1) := by decide +kernel
theorem dX12_units_7 : decode cX12_units 7 = .ok (.bipush 24, 2) := by decide +kernel
theorem dX12_units_9 : decode cX12_units 9 = .ok (.istore_n 3, 1) := by decide +kernel
theorem dX12_units_10 : decode cX12_units 10 = .ok (.iload_n 3, 1) := by decide +kernel
theorem dX12_units_11 : decode cX12_units 11 = .ok (.ifCond .lt 46, 3) := by decide +kernel
theorem dX12_units_14 : decode cX12_units 14 = .ok (.iload_n 1, 1) := by decide +kernel
theorem dX12_units_15 : decode cX12_units 15 = .ok (.iload_n 3, 1) := by decide +kernel
theorem dX12_units_16 : decode cX12_units 16 = .ok (.iushr, 1) := by decide +kernel
theorem dX12_units_17 : decode cX12_units 17 = .ok (.sipush 255, 3) := by decide +kernel
theorem dX12_units_20 : decode cX12_units 20 = .ok (.iand, 1) := by decide +kernel
theorem dX12_units_21 : decode cX12_units 21 = .ok (.istore 4, 2) := by decide +kernel
theorem dX12_units_23 : decode cX12_units 23 = .ok (.iload 4, 2) := by decide +kernel
theorem dX12_units_25 : decode cX12_units 25 = .ok (.ifCond .eq 13, 3) := by decide +kernel
theorem dX12_units_28 : decode cX12_units 28 = .ok (.iload 4, 2) := by decide +kernel
theorem dX12_units_30 : decode cX12_units 30 = .ok (.invokestatic 143, 3) := by decide +kernel
theorem dX12_units_33 : decode cX12_units 33 = .ok (.ifCond .ne 5, 3) := by decide +kernel
theorem dX12_units_36 : decode cX12_units 36 = .ok (.iconst 0, 1) := by decide +kernel
theorem dX12_units_37 : decode cX12_units 37 = .ok (.ireturn, 1) := by decide +kernel
theorem dX12_units_38 : decode cX12_units 38 = .ok (.iload_n 2, 1) := by decide +kernel
theorem dX12_units_39 : decode cX12_units 39 = .ok (.iload 4, 2) := by decide +kernel
theorem dX12_units_41 : decode cX12_units 41 = .ok (.ifCond .eq 7, 3) := by decide +kernel
theorem dX12_units_44 : decode cX12_units 44 = .ok (.iconst 1, 1) := by decide +kernel
theorem dX12_units_45 : decode cX12_units 45 = .ok (.goto 4, 3) := by decide +kernel
theorem dX12_units_48 : decode cX12_units 48 = .ok (.iconst 0, 1) := by decide +kernel
theorem dX12_units_49 : decode cX12_units 49 = .ok (.iadd, 1) := by decide +kernel
theorem dX12_units_50 : decode cX12_units 50 = .ok (.istore_n 2, 1) := by decide +kernel
theorem dX12_units_51 : decode cX12_units 51 = .ok (.iinc 3 (-8), 3) := by decide +kernel
theorem dX12_units_54 : decode cX12_units 54 = .ok (.goto (-44), 3) := by decide +kernel
theorem dX12_units_57 : decode cX12_units 57 = .ok (.aload_n 0, 1) := by decide +kernel
theorem dX12_units_58 : decode cX12_units 58 = .ok (.getfield 147, 3) := by decide +kernel
theorem dX12_units_61 : decode cX12_units 61 = .ok (.iload_n 2, 1) := by decide +kernel
theorem dX12_units_62 : decode cX12_units 62 = .ok (.iadd, 1) := by decide +kernel
theorem dX12_units_63 : decode cX12_units 63 = .ok (.sipush 800, 3) := by decide +kernel
theorem dX12_units_66 : decode cX12_units 66 = .ok (.if_icmp .le 5, 3) := by decide +kernel
theorem dX12_units_69 : decode cX12_units 69 = .ok (.iconst 0, 1) := by decide +kernel
theorem dX12_units_70 : decode cX12_units 70 = .ok (.ireturn, 1) := by decide +kernel
theorem dX12_units_71 : decode cX12_units 71 = .ok (.bipush 24, 2) := by decide +kernel
theorem dX12_units_73 : decode cX12_units 73 = .ok (.istore_n 3, 1) := by decide +kernel
theorem dX12_units_74 : decode cX12_units 74 = .ok (.iload_n 3, 1) := by decide +kernel
theorem dX12_units_75 : decode cX12_units 75 = .ok (.ifCond .lt 45, 3) := by decide +kernel
theorem dX12_units_78 : decode cX12_units 78 = .ok (.iload_n 1, 1) := by decide +kernel
theorem dX12_units_79 : decode cX12_units 79 = .ok (.iload_n 3, 1) := by decide +kernel
theorem dX12_units_80 : decode cX12_units 80 = .ok (.iushr, 1) := by decide +kernel
theorem dX12_units_81 : decode cX12_units 81 = .ok (.sipush 255, 3) := by decide +kernel
theorem dX12_units_84 : decode cX12_units 84 = .ok (.iand, 1) := by decide +kernel
theorem dX12_units_85 : decode cX12_units 85 = .ok (.ifCond .eq 29, 3) := by decide +kernel
theorem dX12_units_88 : decode cX12_units 88 = .ok (.aload_n 0, 1) := by decide +kernel
theorem dX12_units_89 : decode cX12_units 89 = .ok (.getfield 68, 3) := by decide +kernel
theorem dX12_units_92 : decode cX12_units 92 = .ok (.aload_n 0, 1) := by decide +kernel
theorem dX12_units_93 : decode cX12_units 93 = .ok (.getfield 147, 3) := by decide +kernel
theorem dX12_units_96 : decode cX12_units 96 = .ok (.iload_n 1, 1) := by decide +kernel
theorem dX12_units_97 : decode cX12_units 97 = .ok (.iload_n 3, 1) := by decide +kernel
theorem dX12_units_98 : decode cX12_units 98 = .ok (.iushr, 1) := by decide +kernel
theorem dX12_units_99 : decode cX12_units 99 = .ok (.sipush 255, 3) := by decide +kernel
theorem dX12_units_102 : decode cX12_units 102 = .ok (.iand, 1) := by decide +kernel
theorem dX12_units_103 : decode cX12_units 103 = .ok (.iastore, 1) := by decide +kernel
theorem dX12_units_104 : decode cX12_units 104 = .ok (.aload_n 0, 1) := by decide +kernel
theorem dX12_units_105 : decode cX12_units 105 = .ok (.dup, 1) := by decide +kernel
theorem dX12_units_106 : decode cX12_units 106 = .ok (.getfield 147, 3) := by decide +kernel
theorem dX12_units_109 : decode cX12_units 109 = .ok (.iconst 1, 1) := by decide +kernel
theorem dX12_units_110 : decode cX12_units 110 = .ok (.iadd, 1) := by decide +kernel
theorem dX12_units_111 : decode cX12_units 111 = .ok (.putfield 147, 3) := by decide +kernel
theorem dX12_units_114 : decode cX12_units 114 = .ok (.iinc 3 (-8), 3) := by decide +kernel
theorem dX12_units_117 : decode cX12_units 117 = .ok (.goto (-43), 3) := by decide +kernel
theorem dX12_units_120 : decode cX12_units 120 = .ok (.iconst 1, 1) := by decide +kernel
theorem dX12_units_121 : decode cX12_units 121 = .ok (.ireturn, 1) := by decide +kernel
theorem dX12_next_0 : decode cX12_next 0 = .ok (.aload_n 0, 1) := by decide +kernel
theorem dX12_next_1 : decode cX12_next 1 = .ok (.dup, 1) := by decide +kernel
theorem dX12_next_2 : decode cX12_next 2 = .ok (.getfield 150, 3) := by decide +kernel
theorem dX12_next_5 : decode cX12_next 5 = .ok (.iconst 1, 1) := by decide +kernel
theorem dX12_next_6 : decode cX12_next 6 = .ok (.iadd, 1) := by decide +kernel
theorem dX12_next_7 : decode cX12_next 7 = .ok (.putfield 150, 3) := by decide +kernel
theorem dX12_next_10 : decode cX12_next 10 = .ok (.aload_n 0, 1) := by decide +kernel
theorem dX12_next_11 : decode cX12_next 11 = .ok (.aload_n 0, 1) := by decide +kernel
theorem dX12_next_12 : decode cX12_next 12 = .ok (.getfield 153, 3) := by decide +kernel
theorem dX12_next_15 : decode cX12_next 15 = .ok (.putfield 156, 3) := by decide +kernel
theorem dX12_next_18 : decode cX12_next 18 = .ok (.aload_n 0, 1) := by decide +kernel
theorem dX12_next_19 : decode cX12_next 19 = .ok (.getfield 156, 3) := by decide +kernel
theorem dX12_next_22 : decode cX12_next 22 = .ok (.aload_n 0, 1) := by decide +kernel
theorem dX12_next_23 : decode cX12_next 23 = .ok (.getfield 147, 3) := by decide +kernel
theorem dX12_next_26 : decode cX12_next 26 = .ok (.if_icmp .ge 44, 3) := by decide +kernel
theorem dX12_next_29 : decode cX12_next 29 = .ok (.aload_n 0, 1) := by decide +kernel
theorem dX12_next_30 : decode cX12_next 30 = .ok (.getfield 68, 3) := by decide +kernel
theorem dX12_next_33 : decode cX12_next 33 = .ok (.aload_n 0, 1) := by decide +kernel
theorem dX12_next_34 : decode cX12_next 34 = .ok (.getfield 156, 3) := by decide +kernel
theorem dX12_next_37 : decode cX12_next 37 = .ok (.iaload, 1) := by decide +kernel
theorem dX12_next_38 : decode cX12_next 38 = .ok (.bipush 32, 2) := by decide +kernel
theorem dX12_next_40 : decode cX12_next 40 = .ok (.if_icmp .eq 17, 3) := by decide +kernel
theorem dX12_next_43 : decode cX12_next 43 = .ok (.aload_n 0, 1) := by decide +kernel
theorem dX12_next_44 : decode cX12_next 44 = .ok (.getfield 68, 3) := by decide +kernel
theorem dX12_next_47 : decode cX12_next 47 = .ok (.aload_n 0, 1) := by decide +kernel
theorem dX12_next_48 : decode cX12_next 48 = .ok (.getfield 156, 3) := by decide +kernel
theorem dX12_next_51 : decode cX12_next 51 = .ok (.iaload, 1) := by decide +kernel
theorem dX12_next_52 : decode cX12_next 52 = .ok (.bipush 10, 2) := by decide +kernel
theorem dX12_next_54 : decode cX12_next 54 = .ok (.if_icmp .ne 16, 3) := by decide +kernel
theorem dX12_next_57 : decode cX12_next 57 = .ok (.aload_n 0, 1) := by decide +kernel
theorem dX12_next_58 : decode cX12_next 58 = .ok (.dup, 1) := by decide +kernel
theorem dX12_next_59 : decode cX12_next 59 = .ok (.getfield 156, 3) := by decide +kernel
theorem dX12_next_62 : decode cX12_next 62 = .ok (.iconst 1, 1) := by decide +kernel
theorem dX12_next_63 : decode cX12_next 63 = .ok (.iadd, 1) := by decide +kernel
theorem dX12_next_64 : decode cX12_next 64 = .ok (.putfield 156, 3) := by decide +kernel
theorem dX12_next_67 : decode cX12_next 67 = .ok (.goto (-49), 3) := by decide +kernel
theorem dX12_next_70 : decode cX12_next 70 = .ok (.aload_n 0, 1) := by decide +kernel
theorem dX12_next_71 : decode cX12_next 71 = .ok (.aload_n 0, 1) := by decide +kernel
theorem dX12_next_72 : decode cX12_next 72 = .ok (.getfield 156, 3) := by decide +kernel
theorem dX12_next_75 : decode cX12_next 75 = .ok (.putfield 153, 3) := by decide +kernel
theorem dX12_next_78 : decode cX12_next 78 = .ok (.aload_n 0, 1) := by decide +kernel
theorem dX12_next_79 : decode cX12_next 79 = .ok (.getfield 156, 3) := by decide +kernel
theorem dX12_next_82 : decode cX12_next 82 = .ok (.aload_n 0, 1) := by decide +kernel
theorem dX12_next_83 : decode cX12_next 83 = .ok (.getfield 147, 3) := by decide +kernel
theorem dX12_next_86 : decode cX12_next 86 = .ok (.if_icmp .ne 4, 3) := by decide +kernel
theorem dX12_next_89 : decode cX12_next 89 = .ok (.return_, 1) := by decide +kernel
theorem dX12_next_90 : decode cX12_next 90 = .ok (.aload_n 0, 1) := by decide +kernel
theorem dX12_next_91 : decode cX12_next 91 = .ok (.getfield 68, 3) := by decide +kernel
theorem dX12_next_94 : decode cX12_next 94 = .ok (.aload_n 0, 1) := by decide +kernel
theorem dX12_next_95 : decode cX12_next 95 = .ok (.getfield 156, 3) := by decide +kernel
theorem dX12_next_98 : decode cX12_next 98 = .ok (.iaload, 1) := by decide +kernel
theorem dX12_next_99 : decode cX12_next 99 = .ok (.invokestatic 159, 3) := by decide +kernel
theorem dX12_next_102 : decode cX12_next 102 = .ok (.istore_n 1, 1) := by decide +kernel
theorem dX12_next_103 : decode cX12_next 103 = .ok (.aload_n 0, 1) := by decide +kernel
theorem dX12_next_104 : decode cX12_next 104 = .ok (.getfield 68, 3) := by decide +kernel
theorem dX12_next_107 : decode cX12_next 107 = .ok (.aload_n 0, 1) := by decide +kernel
theorem dX12_next_108 : decode cX12_next 108 = .ok (.getfield 156, 3) := by decide +kernel
theorem dX12_next_111 : decode cX12_next 111 = .ok (.iaload, 1) := by decide +kernel
theorem dX12_next_112 : decode cX12_next 112 = .ok (.invokestatic 162, 3) := by decide +kernel
theorem dX12_next_115 : decode cX12_next 115 = .ok (.istore_n 2, 1) := by decide +kernel
theorem dX12_next_116 : decode cX12_next 116 = .ok (.aload_n 0, 1) := by decide +kernel
theorem dX12_next_117 : decode cX12_next 117 = .ok (.dup, 1) := by decide +kernel
theorem dX12_next_118 : decode cX12_next 118 = .ok (.getfield 153, 3) := by decide +kernel
theorem dX12_next_121 : decode cX12_next 121 = .ok (.iconst 1, 1) := by decide +kernel
theorem dX12_next_122 : decode cX12_next 122 = .ok (.iadd, 1) := by decide +kernel
theorem dX12_next_123 : decode cX12_next 123 = .ok (.putfield 153, 3) := by decide +kernel
theorem dX12_next_126 : decode cX12_next 126 = .ok (.aload_n 0, 1) := by decide +kernel
theorem dX12_next_127 : decode cX12_next 127 = .ok (.getfield 153, 3) := by decide +kernel
theorem dX12_next_130 : decode cX12_next 130 = .ok (.aload_n 0, 1) := by decide +kernel
theorem dX12_next_131 : decode cX12_next 131 = .ok (.getfield 147, 3) := by decide +kernel
theorem dX12_next_134 : decode cX12_next 134 = .ok (.if_icmp .ge 54, 3) := by decide +kernel
theorem dX12_next_137 : decode cX12_next 137 = .ok (.iload_n 1, 1) := by decide +kernel
theorem dX12_next_138 : decode cX12_next 138 = .ok (.ifCond .eq 18, 3) := by decide +kernel
theorem dX12_next_141 : decode cX12_next 141 = .ok (.aload_n 0, 1) := by decide +kernel
theorem dX12_next_142 : decode cX12_next 142 = .ok (.getfield 68, 3) := by decide +kernel
theorem dX12_next_145 : decode cX12_next 145 = .ok (.aload_n 0, 1) := by decide +kernel
theorem dX12_next_146 : decode cX12_next 146 = .ok (.getfield 153, 3) := by decide +kernel
theorem dX12_next_149 : decode cX12_next 149 = .ok (.iaload, 1) := by decide +kernel
theorem dX12_next_150 : decode cX12_next 150 = .ok (.invokestatic 159, 3) := by decide +kernel
theorem dX12_next_153 : decode cX12_next 153 = .ok (.ifCond .ne 22, 3) := by decide +kernel
theorem dX12_next_156 : decode cX12_next 156 = .ok (.iload_n 2, 1) := by decide +kernel
theorem dX12_next_157 : decode cX12_next 157 = .ok (.ifCond .eq 31, 3) := by decide +kernel
theorem dX12_next_160 : decode cX12_next 160 = .ok (.aload_n 0, 1) := by decide +kernel
theorem dX12_next_161 : decode cX12_next 161 = .ok (.getfield 68, 3) := by decide +kernel
theorem dX12_next_164 : decode cX12_next 164 = .ok (.aload_n 0, 1) := by decide +kernel
theorem dX12_next_165 : decode cX12_next 165 = .ok (.getfield 153, 3) := by decide +kernel
theorem dX12_next_168 : decode cX12_next 168 = .ok (.iaload, 1) := by decide +kernel
theorem dX12_next_169 : decode cX12_next 169 = .ok (.invokestatic 162, 3) := by decide +kernel
theorem dX12_next_172 : decode cX12_next 172 = .ok (.ifCond .eq 16, 3) := by decide +kernel
theorem dX12_next_175 : decode cX12_next 175 = .ok (.aload_n 0, 1) := by decide +kernel
theorem dX12_next_176 : decode cX12_next 176 = .ok (.dup, 1) := by decide +kernel
theorem dX12_next_177 : decode cX12_next 177 = .ok (.getfield 153, 3) := by decide +kernel
theorem dX12_next_180 : decode cX12_next 180 = .ok (.iconst 1, 1) := by decide +kernel
theorem dX12_next_181 : decode cX12_next 181 = .ok (.iadd, 1) := by decide +kernel
theorem dX12_next_182 : decode cX12_next 182 = .ok (.putfield 153, 3) := by decide +kernel
theorem dX12_next_185 : decode cX12_next 185 = .ok (.goto (-59), 3) := by decide +kernel
theorem dX12_next_188 : decode cX12_next 188 = .ok (.return_, 1) := by decide +kernel
theorem dX12_is_0 : decode cX12_is 0 = .ok (.aload_n 0, 1) := by decide +kernel
theorem dX12_is_1 : decode cX12_is 1 = .ok (.getfield 153, 3) := by decide +kernel
theorem dX12_is_4 : decode cX12_is 4 = .ok (.aload_n 0, 1) := by decide +kernel
theorem dX12_is_5 : decode cX12_is 5 = .ok (.getfield 156, 3) := by decide +kernel
theorem dX12_is_8 : decode cX12_is 8 = .ok (.iconst 1, 1) := by decide +kernel
theorem dX12_is_9 : decode cX12_is 9 = .ok (.iadd, 1) := by decide +kernel
theorem dX12_is_10 : decode cX12_is 10 = .ok (.if_icmp .ne 20, 3) := by decide +kernel
theorem dX12_is_13 : decode cX12_is 13 = .ok (.aload_n 0, 1) := by decide +kernel
theorem dX12_is_14 : decode cX12_is 14 = .ok (.getfield 68, 3) := by decide +kernel
theorem dX12_is_17 : decode cX12_is 17 = .ok (.aload_n 0, 1) := by decide +kernel
theorem dX12_is_18 : decode cX12_is 18 = .ok (.getfield 156, 3) := by decide +kernel
theorem dX12_is_21 : decode cX12_is 21 = .ok (.iaload, 1) := by decide +kernel
theorem dX12_is_22 : decode cX12_is 22 = .ok (.iload_n 1, 1) := by decide +kernel
theorem dX12_is_23 : decode cX12_is 23 = .ok (.if_icmp .ne 7, 3) := by decide +kernel
theorem dX12_is_26 : decode cX12_is 26 = .ok (.iconst 1, 1) := by decide +kernel
theorem dX12_is_27 : decode cX12_is 27 = .ok (.goto 4, 3) := by decide +kernel
theorem dX12_is_30 : decode cX12_is 30 = .ok (.iconst 0, 1) := by decide +kernel
theorem dX12_is_31 : decode cX12_is 31 = .ok (.ireturn, 1) := by decide +kernel
theorem dX12_name_0 : decode cX12_name 0 = .ok (.aload_n 0, 1) := by decide +kernel
theorem dX12_name_1 : decode cX12_name 1 = .ok (.getfield 156, 3) := by decide +kernel
theorem dX12_name_4 : decode cX12_name 4 = .ok (.aload_n 0, 1) := by decide +kernel
theorem dX12_name_5 : decode cX12_name 5 = .ok (.getfield 153, 3) := by decide +kernel
theorem dX12_name_8 : decode cX12_name 8 = .ok (.if_icmp .eq 32, 3) := by decide +kernel
theorem dX12_name_11 : decode cX12_name 11 = .ok (.aload_n 0, 1) := by decide +kernel
theorem dX12_name_12 : decode cX12_name 12 = .ok (.getfield 68, 3) := by decide +kernel
theorem dX12_name_15 : decode cX12_name 15 = .ok (.aload_n 0, 1) := by decide +kernel
theorem dX12_name_16 : decode cX12_name 16 = .ok (.getfield 156, 3) := by decide +kernel
theorem dX12_name_19 : decode cX12_name 19 = .ok (.iaload, 1) := by decide +kernel
theorem dX12_name_20 : decode cX12_name 20 = .ok (.invokestatic 159, 3) := by decide +kernel
theorem dX12_name_23 : decode cX12_name 23 = .ok (.ifCond .eq 17, 3) := by decide +kernel
theorem dX12_name_26 : decode cX12_name 26 = .ok (.aload_n 0, 1) := by decide +kernel
theorem dX12_name_27 : decode cX12_name 27 = .ok (.getfield 153, 3) := by decide +kernel
theorem dX12_name_30 : decode cX12_name 30 = .ok (.aload_n 0, 1) := by decide +kernel
theorem dX12_name_31 : decode cX12_name 31 = .ok (.getfield 156, 3) := by decide +kernel
theorem dX12_name_34 : decode cX12_name 34 = .ok (.isub, 1) := by decide +kernel
theorem dX12_name_35 : decode cX12_name 35 = .ok (.bipush 8, 2) := by decide +kernel
theorem dX12_name_37 : decode cX12_name 37 = .ok (.if_icmp .le 5, 3) := by decide +kernel
theorem dX12_name_40 : decode cX12_name 40 = .ok (.lconst 0, 1) := by decide +kernel
theorem dX12_name_41 : decode cX12_name 41 = .ok (.lreturn, 1) := by decide +kernel
theorem dX12_name_42 : decode cX12_name 42 = .ok (.lconst 0, 1) := by decide +kernel
theorem dX12_name_43 : decode cX12_name 43 = .ok (.lstore_n 1, 1) := by decide +kernel
theorem dX12_name_44 : decode cX12_name 44 = .ok (.aload_n 0, 1) := by decide +kernel
theorem dX12_name_45 : decode cX12_name 45 = .ok (.getfield 156, 3) := by decide +kernel
theorem dX12_name_48 : decode cX12_name 48 = .ok (.istore_n 3, 1) := by decide +kernel
theorem dX12_name_49 : decode cX12_name 49 = .ok (.iload_n 3, 1) := by decide +kernel
theorem dX12_name_50 : decode cX12_name 50 = .ok (.aload_n 0, 1) := by decide +kernel
theorem dX12_name_51 : decode cX12_name 51 = .ok (.getfield 153, 3) := by decide +kernel
theorem dX12_name_54 : decode cX12_name 54 = .ok (.if_icmp .ge 27, 3) := by decide +kernel
theorem dX12_name_57 : decode cX12_name 57 = .ok (.ldc2_w 165, 3) := by decide +kernel
theorem dX12_name_60 : decode cX12_name 60 = .ok (.lload_n 1, 1) := by decide +kernel
theorem dX12_name_61 : decode cX12_name 61 = .ok (.lmul, 1) := by decide +kernel
theorem dX12_name_62 : decode cX12_name 62 = .ok (.aload_n 0, 1) := by decide +kernel
theorem dX12_name_63 : decode cX12_name 63 = .ok (.getfield 68, 3) := by decide +kernel
theorem dX12_name_66 : decode cX12_name 66 = .ok (.iload_n 3, 1) := by decide +kernel
theorem dX12_name_67 : decode cX12_name 67 = .ok (.iaload, 1) := by decide +kernel
theorem dX12_name_68 : decode cX12_name 68 = .ok (.i2l, 1) := by decide +kernel
theorem dX12_name_69 : decode cX12_name 69 = .ok (.ladd, 1) := by decide +kernel
theorem dX12_name_70 : decode cX12_name 70 = .ok (.ldc2_w 167, 3) := by decide +kernel
theorem dX12_name_73 : decode cX12_name 73 = .ok (.lsub, 1) := by decide +kernel
theorem dX12_name_74 : decode cX12_name 74 = .ok (.lstore_n 1, 1) := by decide +kernel
theorem dX12_name_75 : decode cX12_name 75 = .ok (.iinc 3 1, 3) := by decide +kernel
theorem dX12_name_78 : decode cX12_name 78 = .ok (.goto (-29), 3) := by decide +kernel
theorem dX12_name_81 : decode cX12_name 81 = .ok (.lload_n 1, 1) := by decide +kernel
theorem dX12_name_82 : decode cX12_name 82 = .ok (.lreturn, 1) := by decide +kernel
theorem dX12_take_0 : decode cX12_take 0 = .ok (.aload_n 0, 1) := by decide +kernel
theorem dX12_take_1 : decode cX12_take 1 = .ok (.aload_n 0, 1) := by decide +kernel
theorem dX12_take_2 : decode cX12_take 2 = .ok (.getfield 169, 3) := by decide +kernel
theorem dX12_take_5 : decode cX12_take 5 = .ok (.ifCond .eq 11, 3) := by decide +kernel
theorem dX12_take_8 : decode cX12_take 8 = .ok (.iload_n 1, 1) := by decide +kernel
theorem dX12_take_9 : decode cX12_take 9 = .ok (.ifCond .eq 7, 3) := by decide +kernel
theorem dX12_take_12 : decode cX12_take 12 = .ok (.iconst 1, 1) := by decide +kernel
theorem dX12_take_13 : decode cX12_take 13 = .ok (.goto 4, 3) := by decide +kernel
theorem dX12_take_16 : decode cX12_take 16 = .ok (.iconst 0, 1) := by decide +kernel
theorem dX12_take_17 : decode cX12_take 17 = .ok (.putfield 169, 3) := by decide +kernel
theorem dX12_take_20 : decode cX12_take 20 = .ok (.aload_n 0, 1) := by decide +kernel
theorem dX12_take_21 : decode cX12_take 21 = .ok (.getfield 169, 3) := by decide +kernel
theorem dX12_take_24 : decode cX12_take 24 = .ok (.ifCond .eq 7, 3) := by decide +kernel
theorem dX12_take_27 : decode cX12_take 27 = .ok (.aload_n 0, 1) := by decide +kernel
theorem dX12_take_28 : decode cX12_take 28 = .ok (.invokevirtual 172, 3) := by decide +kernel
theorem dX12_take_31 : decode cX12_take 31 = .ok (.return_, 1) := by decide +kernel
theorem dX12_word_0 : decode cX12_word 0 = .ok (.iload_n 0, 1) := by decide +kernel
theorem dX12_word_1 : decode cX12_word 1 = .ok (.i2l, 1) := by decide +kernel
theorem dX12_word_2 : decode cX12_word 2 = .ok (.ldc2_w 167, 3) := by decide +kernel
theorem dX12_word_5 : decode cX12_word 5 = .ok (.lsub, 1) := by decide +kernel
theorem dX12_word_6 : decode cX12_word 6 = .ok (.lstore 5, 2) := by decide +kernel
theorem dX12_word_8 : decode cX12_word 8 = .ok (.ldc2_w 165, 3) := by decide +kernel
theorem dX12_word_11 : decode cX12_word 11 = .ok (.lload 5, 2) := by decide +kernel
theorem dX12_word_13 : decode cX12_word 13 = .ok (.lmul, 1) := by decide +kernel
theorem dX12_word_14 : decode cX12_word 14 = .ok (.iload_n 1, 1) := by decide +kernel
theorem dX12_word_15 : decode cX12_word 15 = .ok (.i2l, 1) := by decide +kernel
theorem dX12_word_16 : decode cX12_word 16 = .ok (.ladd, 1) := by decide +kernel
theorem dX12_word_17 : decode cX12_word 17 = .ok (.ldc2_w 167, 3) := by decide +kernel
theorem dX12_word_20 : decode cX12_word 20 = .ok (.lsub, 1) := by decide +kernel
theorem dX12_word_21 : decode cX12_word 21 = .ok (.lstore 5, 2) := by decide +kernel
theorem dX12_word_23 : decode cX12_word 23 = .ok (.iload_n 2, 1) := by decide +kernel
theorem dX12_word_24 : decode cX12_word 24 = .ok (.ifCond .le 19, 3) := by decide +kernel
theorem dX12_word_27 : decode cX12_word 27 = .ok (.ldc2_w 165, 3) := by decide +kernel
theorem dX12_word_30 : decode cX12_word 30 = .ok (.lload 5, 2) := by decide +kernel
theorem dX12_word_32 : decode cX12_word 32 = .ok (.lmul, 1) := by decide +kernel
theorem dX12_word_33 : decode cX12_word 33 = .ok (.iload_n 2, 1) := by decide +kernel
theorem dX12_word_34 : decode cX12_word 34 = .ok (.i2l, 1) := by decide +kernel
theorem dX12_word_35 : decode cX12_word 35 = .ok (.ladd, 1) := by decide +kernel
theorem dX12_word_36 : decode cX12_word 36 = .ok (.ldc2_w 167, 3) := by decide +kernel
theorem dX12_word_39 : decode cX12_word 39 = .ok (.lsub, 1) := by decide +kernel
theorem dX12_word_40 : decode cX12_word 40 = .ok (.goto 5, 3) := by decide +kernel
theorem dX12_word_43 : decode cX12_word 43 = .ok (.lload 5, 2) := by decide +kernel
theorem dX12_word_45 : decode cX12_word 45 = .ok (.lstore 5, 2) := by decide +kernel
theorem dX12_word_47 : decode cX12_word 47 = .ok (.iload_n 3, 1) := by decide +kernel
theorem dX12_word_48 : decode cX12_word 48 = .ok (.ifCond .le 19, 3) := by decide +kernel
theorem dX12_word_51 : decode cX12_word 51 = .ok (.ldc2_w 165, 3) := by decide +kernel
theorem dX12_word_54 : decode cX12_word 54 = .ok (.lload 5, 2) := by decide +kernel
theorem dX12_word_56 : decode cX12_word 56 = .ok (.lmul, 1) := by decide +kernel
theorem dX12_word_57 : decode cX12_word 57 = .ok (.iload_n 3, 1) := by decide +kernel
theorem dX12_word_58 : decode cX12_word 58 = .ok (.i2l, 1) := by decide +kernel
theorem dX12_word_59 : decode cX12_word 59 = .ok (.ladd, 1) := by decide +kernel
theorem dX12_word_60 : decode cX12_word 60 = .ok (.ldc2_w 167, 3) := by decide +kernel
theorem dX12_word_63 : decode cX12_word 63 = .ok (.lsub, 1) := by decide +kernel
theorem dX12_word_64 : decode cX12_word 64 = .ok (.goto 5, 3) := by decide +kernel
theorem dX12_word_67 : decode cX12_word 67 = .ok (.lload 5, 2) := by decide +kernel
theorem dX12_word_69 : decode cX12_word 69 = .ok (.lstore 5, 2) := by decide +kernel
theorem dX12_word_71 : decode cX12_word 71 = .ok (.iload 4, 2) := by decide +kernel
theorem dX12_word_73 : decode cX12_word 73 = .ok (.ifCond .le 20, 3) := by decide +kernel
theorem dX12_word_76 : decode cX12_word 76 = .ok (.ldc2_w 165, 3) := by decide +kernel
theorem dX12_word_79 : decode cX12_word 79 = .ok (.lload 5, 2) := by decide +kernel
theorem dX12_word_81 : decode cX12_word 81 = .ok (.lmul, 1) := by decide +kernel
theorem dX12_word_82 : decode cX12_word 82 = .ok (.iload 4, 2) := by decide +kernel
theorem dX12_word_84 : decode cX12_word 84 = .ok (.i2l, 1) := by decide +kernel
theorem dX12_word_85 : decode cX12_word 85 = .ok (.ladd, 1) := by decide +kernel
theorem dX12_word_86 : decode cX12_word 86 = .ok (.ldc2_w 167, 3) := by decide +kernel
theorem dX12_word_89 : decode cX12_word 89 = .ok (.lsub, 1) := by decide +kernel
theorem dX12_word_90 : decode cX12_word 90 = .ok (.goto 5, 3) := by decide +kernel
theorem dX12_word_93 : decode cX12_word 93 = .ok (.lload 5, 2) := by decide +kernel
theorem dX12_word_95 : decode cX12_word 95 = .ok (.lreturn, 1) := by decide +kernel
theorem dX12_layerAt_0 : decode cX12_layerAt 0 = .ok (.aload_n 0, 1) := by decide +kernel
theorem dX12_layerAt_1 : decode cX12_layerAt 1 = .ok (.invokevirtual 175, 3) := by decide +kernel
theorem dX12_layerAt_4 : decode cX12_layerAt 4 = .ok (.lstore_n 1, 1) := by decide +kernel
theorem dX12_layerAt_5 : decode cX12_layerAt 5 = .ok (.iconst (-1), 1) := by decide +kernel
theorem dX12_layerAt_6 : decode cX12_layerAt 6 = .ok (.istore_n 3, 1) := by decide +kernel
theorem dX12_layerAt_7 : decode cX12_layerAt 7 = .ok (.iconst 0, 1) := by decide +kernel
theorem dX12_layerAt_8 : decode cX12_layerAt 8 = .ok (.istore 4, 2) := by decide +kernel
theorem dX12_layerAt_10 : decode cX12_layerAt 10 = .ok (.iload 4, 2) := by decide +kernel
theorem dX12_layerAt_12 : decode cX12_layerAt 12 = .ok (.aload_n 0, 1) := by decide +kernel
theorem dX12_layerAt_13 : decode cX12_layerAt 13 = .ok (.getfield 179, 3) := by decide +kernel
theorem dX12_layerAt_16 : decode cX12_layerAt 16 = .ok (.if_icmp .ge 37, 3) := by decide +kernel
theorem dX12_layerAt_19 : decode cX12_layerAt 19 = .ok (.lload_n 1, 1) := by decide +kernel
theorem dX12_layerAt_20 : decode cX12_layerAt 20 = .ok (.lconst 0, 1) := by decide +kernel
theorem dX12_layerAt_21 : decode cX12_layerAt 21 = .ok (.lcmp, 1) := by decide +kernel
theorem dX12_layerAt_22 : decode cX12_layerAt 22 = .ok (.ifCond .le 31, 3) := by decide +kernel
theorem dX12_layerAt_25 : decode cX12_layerAt 25 = .ok (.aload_n 0, 1) := by decide +kernel
theorem dX12_layerAt_26 : decode cX12_layerAt 26 = .ok (.getfield 31, 3) := by decide +kernel
theorem dX12_layerAt_29 : decode cX12_layerAt 29 = .ok (.bipush 24, 2) := by decide +kernel
theorem dX12_layerAt_31 : decode cX12_layerAt 31 = .ok (.iload 4, 2) := by decide +kernel
theorem dX12_layerAt_33 : decode cX12_layerAt 33 = .ok (.iadd, 1) := by decide +kernel
theorem dX12_layerAt_34 : decode cX12_layerAt 34 = .ok (.laload, 1) := by decide +kernel
theorem dX12_layerAt_35 : decode cX12_layerAt 35 = .ok (.lload_n 1, 1) := by decide +kernel
theorem dX12_layerAt_36 : decode cX12_layerAt 36 = .ok (.lcmp, 1) := by decide +kernel
theorem dX12_layerAt_37 : decode cX12_layerAt 37 = .ok (.ifCond .ne 8, 3) := by decide +kernel
theorem dX12_layerAt_40 : decode cX12_layerAt 40 = .ok (.iload 4, 2) := by decide +kernel
theorem dX12_layerAt_42 : decode cX12_layerAt 42 = .ok (.goto 4, 3) := by decide +kernel
theorem dX12_layerAt_45 : decode cX12_layerAt 45 = .ok (.iload_n 3, 1) := by decide +kernel
theorem dX12_layerAt_46 : decode cX12_layerAt 46 = .ok (.istore_n 3, 1) := by decide +kernel
theorem dX12_layerAt_47 : decode cX12_layerAt 47 = .ok (.iinc 4 1, 3) := by decide +kernel
theorem dX12_layerAt_50 : decode cX12_layerAt 50 = .ok (.goto (-40), 3) := by decide +kernel
theorem dX12_layerAt_53 : decode cX12_layerAt 53 = .ok (.iload_n 3, 1) := by decide +kernel
theorem dX12_layerAt_54 : decode cX12_layerAt 54 = .ok (.ireturn, 1) := by decide +kernel
theorem dX12_takeLayer_0 : decode cX12_takeLayer 0 = .ok (.aload_n 0, 1) := by decide +kernel
theorem dX12_takeLayer_1 : decode cX12_takeLayer 1 = .ok (.invokevirtual 182, 3) := by decide +kernel
theorem dX12_takeLayer_4 : decode cX12_takeLayer 4 = .ok (.istore_n 1, 1) := by decide +kernel
theorem dX12_takeLayer_5 : decode cX12_takeLayer 5 = .ok (.aload_n 0, 1) := by decide +kernel
theorem dX12_takeLayer_6 : decode cX12_takeLayer 6 = .ok (.iload_n 1, 1) := by decide +kernel
theorem dX12_takeLayer_7 : decode cX12_takeLayer 7 = .ok (.iconst (-1), 1) := by decide +kernel
theorem dX12_takeLayer_8 : decode cX12_takeLayer 8 = .ok (.if_icmp .eq 7, 3) := by decide +kernel
theorem dX12_takeLayer_11 : decode cX12_takeLayer 11 = .ok (.iconst 1, 1) := by decide +kernel
theorem dX12_takeLayer_12 : decode cX12_takeLayer 12 = .ok (.goto 4, 3) := by decide +kernel
theorem dX12_takeLayer_15 : decode cX12_takeLayer 15 = .ok (.iconst 0, 1) := by decide +kernel
theorem dX12_takeLayer_16 : decode cX12_takeLayer 16 = .ok (.invokevirtual 186, 3) := by decide +kernel
theorem dX12_takeLayer_19 : decode cX12_takeLayer 19 = .ok (.iload_n 1, 1) := by decide +kernel
theorem dX12_takeLayer_20 : decode cX12_takeLayer 20 = .ok (.ireturn, 1) := by decide +kernel
theorem dX12_takeWire_0 : decode cX12_takeWire 0 = .ok (.aload_n 0, 1) := by decide +kernel
theorem dX12_takeWire_1 : decode cX12_takeWire 1 = .ok (.invokevirtual 182, 3) := by decide +kernel
theorem dX12_takeWire_4 : decode cX12_takeWire 4 = .ok (.istore_n 1, 1) := by decide +kernel
theorem dX12_takeWire_5 : decode cX12_takeWire 5 = .ok (.iconst (-1), 1) := by decide +kernel
theorem dX12_takeWire_6 : decode cX12_takeWire 6 = .ok (.istore_n 2, 1) := by decide +kernel
theorem dX12_takeWire_7 : decode cX12_takeWire 7 = .ok (.iconst 0, 1) := by decide +kernel
theorem dX12_takeWire_8 : decode cX12_takeWire 8 = .ok (.istore_n 3, 1) := by decide +kernel
theorem dX12_takeWire_9 : decode cX12_takeWire 9 = .ok (.iload_n 3, 1) := by decide +kernel
theorem dX12_takeWire_10 : decode cX12_takeWire 10 = .ok (.aload_n 0, 1) := by decide +kernel
theorem dX12_takeWire_11 : decode cX12_takeWire 11 = .ok (.getfield 190, 3) := by decide +kernel
theorem dX12_takeWire_14 : decode cX12_takeWire 14 = .ok (.if_icmp .ge 33, 3) := by decide +kernel
theorem dX12_takeWire_17 : decode cX12_takeWire 17 = .ok (.iload_n 1, 1) := by decide +kernel
theorem dX12_takeWire_18 : decode cX12_takeWire 18 = .ok (.iconst (-1), 1) := by decide +kernel
theorem dX12_takeWire_19 : decode cX12_takeWire 19 = .ok (.if_icmp .eq 20, 3) := by decide +kernel
theorem dX12_takeWire_22 : decode cX12_takeWire 22 = .ok (.aload_n 0, 1) := by decide +kernel
theorem dX12_takeWire_23 : decode cX12_takeWire 23 = .ok (.getfield 44, 3) := by decide +kernel
theorem dX12_takeWire_26 : decode cX12_takeWire 26 = .ok (.bipush 8, 2) := by decide +kernel
theorem dX12_takeWire_28 : decode cX12_takeWire 28 = .ok (.iload_n 3, 1) := by decide +kernel
theorem dX12_takeWire_29 : decode cX12_takeWire 29 = .ok (.iadd, 1) := by decide +kernel
theorem dX12_takeWire_30 : decode cX12_takeWire 30 = .ok (.iaload, 1) := by decide +kernel
theorem dX12_takeWire_31 : decode cX12_takeWire 31 = .ok (.iload_n 1, 1) := by decide +kernel
theorem dX12_takeWire_32 : decode cX12_takeWire 32 = .ok (.if_icmp .ne 7, 3) := by decide +kernel
theorem dX12_takeWire_35 : decode cX12_takeWire 35 = .ok (.iload_n 3, 1) := by decide +kernel
theorem dX12_takeWire_36 : decode cX12_takeWire 36 = .ok (.goto 4, 3) := by decide +kernel
theorem dX12_takeWire_39 : decode cX12_takeWire 39 = .ok (.iload_n 2, 1) := by decide +kernel
theorem dX12_takeWire_40 : decode cX12_takeWire 40 = .ok (.istore_n 2, 1) := by decide +kernel
theorem dX12_takeWire_41 : decode cX12_takeWire 41 = .ok (.iinc 3 1, 3) := by decide +kernel
theorem dX12_takeWire_44 : decode cX12_takeWire 44 = .ok (.goto (-35), 3) := by decide +kernel
theorem dX12_takeWire_47 : decode cX12_takeWire 47 = .ok (.aload_n 0, 1) := by decide +kernel
theorem dX12_takeWire_48 : decode cX12_takeWire 48 = .ok (.iload_n 2, 1) := by decide +kernel
theorem dX12_takeWire_49 : decode cX12_takeWire 49 = .ok (.iconst (-1), 1) := by decide +kernel
theorem dX12_takeWire_50 : decode cX12_takeWire 50 = .ok (.if_icmp .eq 7, 3) := by decide +kernel
theorem dX12_takeWire_53 : decode cX12_takeWire 53 = .ok (.iconst 1, 1) := by decide +kernel
theorem dX12_takeWire_54 : decode cX12_takeWire 54 = .ok (.goto 4, 3) := by decide +kernel
theorem dX12_takeWire_57 : decode cX12_takeWire 57 = .ok (.iconst 0, 1) := by decide +kernel
theorem dX12_takeWire_58 : decode cX12_takeWire 58 = .ok (.invokevirtual 186, 3) := by decide +kernel
theorem dX12_takeWire_61 : decode cX12_takeWire 61 = .ok (.iload_n 2, 1) := by decide +kernel
theorem dX12_takeWire_62 : decode cX12_takeWire 62 = .ok (.ireturn, 1) := by decide +kernel
theorem dX12_takeNew_0 : decode cX12_takeNew 0 = .ok (.aload_n 0, 1) := by decide +kernel
theorem dX12_takeNew_1 : decode cX12_takeNew 1 = .ok (.invokevirtual 175, 3) := by decide +kernel
theorem dX12_takeNew_4 : decode cX12_takeNew 4 = .ok (.lstore_n 1, 1) := by decide +kernel
theorem dX12_takeNew_5 : decode cX12_takeNew 5 = .ok (.aload_n 0, 1) := by decide +kernel
theorem dX12_takeNew_6 : decode cX12_takeNew 6 = .ok (.lload_n 1, 1) := by decide +kernel
theorem dX12_takeNew_7 : decode cX12_takeNew 7 = .ok (.lconst 0, 1) := by decide +kernel
theorem dX12_takeNew_8 : decode cX12_takeNew 8 = .ok (.lcmp, 1) := by decide +kernel
theorem dX12_takeNew_9 : decode cX12_takeNew 9 = .ok (.ifCond .le 15, 3) := by decide +kernel
theorem dX12_takeNew_12 : decode cX12_takeNew 12 = .ok (.aload_n 0, 1) := by decide +kernel
theorem dX12_takeNew_13 : decode cX12_takeNew 13 = .ok (.invokevirtual 182, 3) := by decide +kernel
theorem dX12_takeNew_16 : decode cX12_takeNew 16 = .ok (.iconst (-1), 1) := by decide +kernel
theorem dX12_takeNew_17 : decode cX12_takeNew 17 = .ok (.if_icmp .ne 7, 3) := by decide +kernel
theorem dX12_takeNew_20 : decode cX12_takeNew 20 = .ok (.iconst 1, 1) := by decide +kernel
theorem dX12_takeNew_21 : decode cX12_takeNew 21 = .ok (.goto 4, 3) := by decide +kernel
theorem dX12_takeNew_24 : decode cX12_takeNew 24 = .ok (.iconst 0, 1) := by decide +kernel
theorem dX12_takeNew_25 : decode cX12_takeNew 25 = .ok (.invokevirtual 186, 3) := by decide +kernel
theorem dX12_takeNew_28 : decode cX12_takeNew 28 = .ok (.aload_n 0, 1) := by decide +kernel
theorem dX12_takeNew_29 : decode cX12_takeNew 29 = .ok (.getfield 169, 3) := by decide +kernel
theorem dX12_takeNew_32 : decode cX12_takeNew 32 = .ok (.ifCond .eq 16, 3) := by decide +kernel
theorem dX12_takeNew_35 : decode cX12_takeNew 35 = .ok (.aload_n 0, 1) := by decide +kernel
theorem dX12_takeNew_36 : decode cX12_takeNew 36 = .ok (.getfield 31, 3) := by decide +kernel
theorem dX12_takeNew_39 : decode cX12_takeNew 39 = .ok (.bipush 24, 2) := by decide +kernel
theorem dX12_takeNew_41 : decode cX12_takeNew 41 = .ok (.aload_n 0, 1) := by decide +kernel
theorem dX12_takeNew_42 : decode cX12_takeNew 42 = .ok (.getfield 179, 3) := by decide +kernel
theorem dX12_takeNew_45 : decode cX12_takeNew 45 = .ok (.iadd, 1) := by decide +kernel
theorem dX12_takeNew_46 : decode cX12_takeNew 46 = .ok (.lload_n 1, 1) := by decide +kernel
theorem dX12_takeNew_47 : decode cX12_takeNew 47 = .ok (.lastore, 1) := by decide +kernel
theorem dX12_takeNew_48 : decode cX12_takeNew 48 = .ok (.aload_n 0, 1) := by decide +kernel
theorem dX12_takeNew_49 : decode cX12_takeNew 49 = .ok (.aload_n 0, 1) := by decide +kernel
theorem dX12_takeNew_50 : decode cX12_takeNew 50 = .ok (.bipush 61, 2) := by decide +kernel
theorem dX12_takeNew_52 : decode cX12_takeNew 52 = .ok (.invokevirtual 193, 3) := by decide +kernel
theorem dX12_takeNew_55 : decode cX12_takeNew 55 = .ok (.invokevirtual 186, 3) := by decide +kernel
theorem dX12_takeNew_58 : decode cX12_takeNew 58 = .ok (.return_, 1) := by decide +kernel
theorem dX12_readInput_0 : decode cX12_readInput 0 = .ok (.aload_n 0, 1) := by decide +kernel
theorem dX12_readInput_1 : decode cX12_readInput 1 = .ok (.aload_n 0, 1) := by decide +kernel
theorem dX12_readInput_2 : decode cX12_readInput 2 = .ok (.getfield 179, 3) := by decide +kernel
theorem dX12_readInput_5 : decode cX12_readInput 5 = .ok (.bipush 24, 2) := by decide +kernel
theorem dX12_readInput_7 : decode cX12_readInput 7 = .ok (.if_icmp .ge 7, 3) := by decide +kernel
theorem dX12_readInput_10 : decode cX12_readInput 10 = .ok (.iconst 1, 1) := by decide +kernel
theorem dX12_readInput_11 : decode cX12_readInput 11 = .ok (.goto 4, 3) := by decide +kernel
theorem dX12_readInput_14 : decode cX12_readInput 14 = .ok (.iconst 0, 1) := by decide +kernel
theorem dX12_readInput_15 : decode cX12_readInput 15 = .ok (.invokevirtual 186, 3) := by decide +kernel
theorem dX12_readInput_18 : decode cX12_readInput 18 = .ok (.aload_n 0, 1) := by decide +kernel
theorem dX12_readInput_19 : decode cX12_readInput 19 = .ok (.invokevirtual 196, 3) := by decide +kernel
theorem dX12_readInput_22 : decode cX12_readInput 22 = .ok (.aload_n 0, 1) := by decide +kernel
theorem dX12_readInput_23 : decode cX12_readInput 23 = .ok (.getfield 156, 3) := by decide +kernel
theorem dX12_readInput_26 : decode cX12_readInput 26 = .ok (.aload_n 0, 1) := by decide +kernel
theorem dX12_readInput_27 : decode cX12_readInput 27 = .ok (.getfield 153, 3) := by decide +kernel
theorem dX12_readInput_30 : decode cX12_readInput 30 = .ok (.if_icmp .ge 36, 3) := by decide +kernel
theorem dX12_readInput_33 : decode cX12_readInput 33 = .ok (.aload_n 0, 1) := by decide +kernel
theorem dX12_readInput_34 : decode cX12_readInput 34 = .ok (.getfield 68, 3) := by decide +kernel
theorem dX12_readInput_37 : decode cX12_readInput 37 = .ok (.aload_n 0, 1) := by decide +kernel
theorem dX12_readInput_38 : decode cX12_readInput 38 = .ok (.getfield 156, 3) := by decide +kernel
theorem dX12_readInput_41 : decode cX12_readInput 41 = .ok (.iaload, 1) := by decide +kernel
theorem dX12_readInput_42 : decode cX12_readInput 42 = .ok (.invokestatic 162, 3) := by decide +kernel
theorem dX12_readInput_45 : decode cX12_readInput 45 = .ok (.ifCond .eq 21, 3) := by decide +kernel
theorem dX12_readInput_48 : decode cX12_readInput 48 = .ok (.aload_n 0, 1) := by decide +kernel
theorem dX12_readInput_49 : decode cX12_readInput 49 = .ok (.getfield 153, 3) := by decide +kernel
theorem dX12_readInput_52 : decode cX12_readInput 52 = .ok (.aload_n 0, 1) := by decide +kernel
theorem dX12_readInput_53 : decode cX12_readInput 53 = .ok (.getfield 156, 3) := by decide +kernel
theorem dX12_readInput_56 : decode cX12_readInput 56 = .ok (.isub, 1) := by decide +kernel
theorem dX12_readInput_57 : decode cX12_readInput 57 = .ok (.bipush 6, 2) := by decide +kernel
theorem dX12_readInput_59 : decode cX12_readInput 59 = .ok (.if_icmp .gt 7, 3) := by decide +kernel
theorem dX12_readInput_62 : decode cX12_readInput 62 = .ok (.iconst 1, 1) := by decide +kernel
theorem dX12_readInput_63 : decode cX12_readInput 63 = .ok (.goto 4, 3) := by decide +kernel
theorem dX12_readInput_66 : decode cX12_readInput 66 = .ok (.iconst 0, 1) := by decide +kernel
theorem dX12_readInput_67 : decode cX12_readInput 67 = .ok (.istore_n 1, 1) := by decide +kernel
theorem dX12_readInput_68 : decode cX12_readInput 68 = .ok (.iconst 0, 1) := by decide +kernel
theorem dX12_readInput_69 : decode cX12_readInput 69 = .ok (.istore_n 2, 1) := by decide +kernel
theorem dX12_readInput_70 : decode cX12_readInput 70 = .ok (.aload_n 0, 1) := by decide +kernel
theorem dX12_readInput_71 : decode cX12_readInput 71 = .ok (.getfield 156, 3) := by decide +kernel
theorem dX12_readInput_74 : decode cX12_readInput 74 = .ok (.istore_n 3, 1) := by decide +kernel
theorem dX12_readInput_75 : decode cX12_readInput 75 = .ok (.iload_n 3, 1) := by decide +kernel
theorem dX12_readInput_76 : decode cX12_readInput 76 = .ok (.aload_n 0, 1) := by decide +kernel
theorem dX12_readInput_77 : decode cX12_readInput 77 = .ok (.getfield 153, 3) := by decide +kernel
theorem dX12_readInput_80 : decode cX12_readInput 80 = .ok (.if_icmp .ge 28, 3) := by decide +kernel
theorem dX12_readInput_83 : decode cX12_readInput 83 = .ok (.iload_n 1, 1) := by decide +kernel
theorem dX12_readInput_84 : decode cX12_readInput 84 = .ok (.ifCond .eq 24, 3) := by decide +kernel
theorem dX12_readInput_87 : decode cX12_readInput 87 = .ok (.bipush 10, 2) := by decide +kernel
theorem dX12_readInput_89 : decode cX12_readInput 89 = .ok (.iload_n 2, 1) := by decide +kernel
theorem dX12_readInput_90 : decode cX12_readInput 90 = .ok (.imul, 1) := by decide +kernel
theorem dX12_readInput_91 : decode cX12_readInput 91 = .ok (.aload_n 0, 1) := by decide +kernel
theorem dX12_readInput_92 : decode cX12_readInput 92 = .ok (.getfield 68, 3) := by decide +kernel
theorem dX12_readInput_95 : decode cX12_readInput 95 = .ok (.iload_n 3, 1) := by decide +kernel
theorem dX12_readInput_96 : decode cX12_readInput 96 = .ok (.iaload, 1) := by decide +kernel
theorem dX12_readInput_97 : decode cX12_readInput 97 = .ok (.iadd, 1) := by decide +kernel
theorem dX12_readInput_98 : decode cX12_readInput 98 = .ok (.bipush 48, 2) := by decide +kernel
theorem dX12_readInput_100 : decode cX12_readInput 100 = .ok (.isub, 1) := by decide +kernel
theorem dX12_readInput_101 : decode cX12_readInput 101 = .ok (.istore_n 2, 1) := by decide +kernel
theorem dX12_readInput_102 : decode cX12_readInput 102 = .ok (.iinc 3 1, 3) := by decide +kernel
theorem dX12_readInput_105 : decode cX12_readInput 105 = .ok (.goto (-30), 3) := by decide +kernel
theorem dX12_readInput_108 : decode cX12_readInput 108 = .ok (.aload_n 0, 1) := by decide +kernel
theorem dX12_readInput_109 : decode cX12_readInput 109 = .ok (.iload_n 1, 1) := by decide +kernel
theorem dX12_readInput_110 : decode cX12_readInput 110 = .ok (.ifCond .eq 15, 3) := by decide +kernel
theorem dX12_readInput_113 : decode cX12_readInput 113 = .ok (.iload_n 2, 1) := by decide +kernel
theorem dX12_readInput_114 : decode cX12_readInput 114 = .ok (.aload_n 0, 1) := by decide +kernel
theorem dX12_readInput_115 : decode cX12_readInput 115 = .ok (.getfield 120, 3) := by decide +kernel
theorem dX12_readInput_118 : decode cX12_readInput 118 = .ok (.if_icmp .ge 7, 3) := by decide +kernel
theorem dX12_readInput_121 : decode cX12_readInput 121 = .ok (.iconst 1, 1) := by decide +kernel
theorem dX12_readInput_122 : decode cX12_readInput 122 = .ok (.goto 4, 3) := by decide +kernel
theorem dX12_readInput_125 : decode cX12_readInput 125 = .ok (.iconst 0, 1) := by decide +kernel
theorem dX12_readInput_126 : decode cX12_readInput 126 = .ok (.invokevirtual 186, 3) := by decide +kernel
theorem dX12_readInput_129 : decode cX12_readInput 129 = .ok (.aload_n 0, 1) := by decide +kernel
theorem dX12_readInput_130 : decode cX12_readInput 130 = .ok (.aload_n 0, 1) := by decide +kernel
theorem dX12_readInput_131 : decode cX12_readInput 131 = .ok (.bipush 59, 2) := by decide +kernel
theorem dX12_readInput_133 : decode cX12_readInput 133 = .ok (.invokevirtual 193, 3) := by decide +kernel
theorem dX12_readInput_136 : decode cX12_readInput 136 = .ok (.invokevirtual 186, 3) := by decide +kernel
theorem dX12_readInput_139 : decode cX12_readInput 139 = .ok (.aload_n 0, 1) := by decide +kernel
theorem dX12_readInput_140 : decode cX12_readInput 140 = .ok (.getfield 169, 3) := by decide +kernel
theorem dX12_readInput_143 : decode cX12_readInput 143 = .ok (.ifCond .eq 39, 3) := by decide +kernel
theorem dX12_readInput_146 : decode cX12_readInput 146 = .ok (.aload_n 0, 1) := by decide +kernel
theorem dX12_readInput_147 : decode cX12_readInput 147 = .ok (.getfield 35, 3) := by decide +kernel
theorem dX12_readInput_150 : decode cX12_readInput 150 = .ok (.bipush 24, 2) := by decide +kernel
theorem dX12_readInput_152 : decode cX12_readInput 152 = .ok (.aload_n 0, 1) := by decide +kernel
theorem dX12_readInput_153 : decode cX12_readInput 153 = .ok (.getfield 179, 3) := by decide +kernel
theorem dX12_readInput_156 : decode cX12_readInput 156 = .ok (.iadd, 1) := by decide +kernel
theorem dX12_readInput_157 : decode cX12_readInput 157 = .ok (.iconst 0, 1) := by decide +kernel
theorem dX12_readInput_158 : decode cX12_readInput 158 = .ok (.iastore, 1) := by decide +kernel
theorem dX12_readInput_159 : decode cX12_readInput 159 = .ok (.aload_n 0, 1) := by decide +kernel
theorem dX12_readInput_160 : decode cX12_readInput 160 = .ok (.getfield 38, 3) := by decide +kernel
theorem dX12_readInput_163 : decode cX12_readInput 163 = .ok (.bipush 24, 2) := by decide +kernel
theorem dX12_readInput_165 : decode cX12_readInput 165 = .ok (.aload_n 0, 1) := by decide +kernel
theorem dX12_readInput_166 : decode cX12_readInput 166 = .ok (.getfield 179, 3) := by decide +kernel
theorem dX12_readInput_169 : decode cX12_readInput 169 = .ok (.iadd, 1) := by decide +kernel
theorem dX12_readInput_170 : decode cX12_readInput 170 = .ok (.iload_n 2, 1) := by decide +kernel
theorem dX12_readInput_171 : decode cX12_readInput 171 = .ok (.iastore, 1) := by decide +kernel
theorem dX12_readInput_172 : decode cX12_readInput 172 = .ok (.aload_n 0, 1) := by decide +kernel
theorem dX12_readInput_173 : decode cX12_readInput 173 = .ok (.dup, 1) := by decide +kernel
theorem dX12_readInput_174 : decode cX12_readInput 174 = .ok (.getfield 179, 3) := by decide +kernel
theorem dX12_readInput_177 : decode cX12_readInput 177 = .ok (.iconst 1, 1) := by decide +kernel
theorem dX12_readInput_178 : decode cX12_readInput 178 = .ok (.iadd, 1) := by decide +kernel
theorem dX12_readInput_179 : decode cX12_readInput 179 = .ok (.putfield 179, 3) := by decide +kernel
theorem dX12_readInput_182 : decode cX12_readInput 182 = .ok (.return_, 1) := by decide +kernel
theorem dX12_readMake_0 : decode cX12_readMake 0 = .ok (.aload_n 0, 1) := by decide +kernel
theorem dX12_readMake_1 : decode cX12_readMake 1 = .ok (.aload_n 0, 1) := by decide +kernel
theorem dX12_readMake_2 : decode cX12_readMake 2 = .ok (.getfield 179, 3) := by decide +kernel
theorem dX12_readMake_5 : decode cX12_readMake 5 = .ok (.bipush 24, 2) := by decide +kernel
theorem dX12_readMake_7 : decode cX12_readMake 7 = .ok (.if_icmp .ge 7, 3) := by decide +kernel
theorem dX12_readMake_10 : decode cX12_readMake 10 = .ok (.iconst 1, 1) := by decide +kernel
theorem dX12_readMake_11 : decode cX12_readMake 11 = .ok (.goto 4, 3) := by decide +kernel
theorem dX12_readMake_14 : decode cX12_readMake 14 = .ok (.iconst 0, 1) := by decide +kernel
theorem dX12_readMake_15 : decode cX12_readMake 15 = .ok (.invokevirtual 186, 3) := by decide +kernel
theorem dX12_readMake_18 : decode cX12_readMake 18 = .ok (.aload_n 0, 1) := by decide +kernel
theorem dX12_readMake_19 : decode cX12_readMake 19 = .ok (.invokevirtual 196, 3) := by decide +kernel
theorem dX12_readMake_22 : decode cX12_readMake 22 = .ok (.aload_n 0, 1) := by decide +kernel
theorem dX12_readMake_23 : decode cX12_readMake 23 = .ok (.invokevirtual 199, 3) := by decide +kernel
theorem dX12_readMake_26 : decode cX12_readMake 26 = .ok (.istore_n 1, 1) := by decide +kernel
theorem dX12_readMake_27 : decode cX12_readMake 27 = .ok (.aload_n 0, 1) := by decide +kernel
theorem dX12_readMake_28 : decode cX12_readMake 28 = .ok (.invokevirtual 175, 3) := by decide +kernel
theorem dX12_readMake_31 : decode cX12_readMake 31 = .ok (.lstore_n 2, 1) := by decide +kernel
theorem dX12_readMake_32 : decode cX12_readMake 32 = .ok (.lload_n 2, 1) := by decide +kernel
theorem dX12_readMake_33 : decode cX12_readMake 33 = .ok (.bipush 97, 2) := by decide +kernel
theorem dX12_readMake_35 : decode cX12_readMake 35 = .ok (.bipush 110, 2) := by decide +kernel
theorem dX12_readMake_37 : decode cX12_readMake 37 = .ok (.bipush 100, 2) := by decide +kernel
theorem dX12_readMake_39 : decode cX12_readMake 39 = .ok (.iconst 0, 1) := by decide +kernel
theorem dX12_readMake_40 : decode cX12_readMake 40 = .ok (.iconst 0, 1) := by decide +kernel
theorem dX12_readMake_41 : decode cX12_readMake 41 = .ok (.invokestatic 202, 3) := by decide +kernel
theorem dX12_readMake_44 : decode cX12_readMake 44 = .ok (.lcmp, 1) := by decide +kernel
theorem dX12_readMake_45 : decode cX12_readMake 45 = .ok (.ifCond .ne 7, 3) := by decide +kernel
theorem dX12_readMake_48 : decode cX12_readMake 48 = .ok (.iconst 1, 1) := by decide +kernel
theorem dX12_readMake_49 : decode cX12_readMake 49 = .ok (.goto 44, 3) := by decide +kernel
theorem dX12_readMake_52 : decode cX12_readMake 52 = .ok (.lload_n 2, 1) := by decide +kernel
theorem dX12_readMake_53 : decode cX12_readMake 53 = .ok (.bipush 111, 2) := by decide +kernel
theorem dX12_readMake_55 : decode cX12_readMake 55 = .ok (.bipush 114, 2) := by decide +kernel
theorem dX12_readMake_57 : decode cX12_readMake 57 = .ok (.iconst 0, 1) := by decide +kernel
theorem dX12_readMake_58 : decode cX12_readMake 58 = .ok (.iconst 0, 1) := by decide +kernel
theorem dX12_readMake_59 : decode cX12_readMake 59 = .ok (.iconst 0, 1) := by decide +kernel
theorem dX12_readMake_60 : decode cX12_readMake 60 = .ok (.invokestatic 202, 3) := by decide +kernel
theorem dX12_readMake_63 : decode cX12_readMake 63 = .ok (.lcmp, 1) := by decide +kernel
theorem dX12_readMake_64 : decode cX12_readMake 64 = .ok (.ifCond .ne 7, 3) := by decide +kernel
theorem dX12_readMake_67 : decode cX12_readMake 67 = .ok (.iconst 2, 1) := by decide +kernel
theorem dX12_readMake_68 : decode cX12_readMake 68 = .ok (.goto 25, 3) := by decide +kernel
theorem dX12_readMake_71 : decode cX12_readMake 71 = .ok (.lload_n 2, 1) := by decide +kernel
theorem dX12_readMake_72 : decode cX12_readMake 72 = .ok (.bipush 108, 2) := by decide +kernel
theorem dX12_readMake_74 : decode cX12_readMake 74 = .ok (.bipush 101, 2) := by decide +kernel
theorem dX12_readMake_76 : decode cX12_readMake 76 = .ok (.bipush 115, 2) := by decide +kernel
theorem dX12_readMake_78 : decode cX12_readMake 78 = .ok (.bipush 115, 2) := by decide +kernel
theorem dX12_readMake_80 : decode cX12_readMake 80 = .ok (.iconst 0, 1) := by decide +kernel
theorem dX12_readMake_81 : decode cX12_readMake 81 = .ok (.invokestatic 202, 3) := by decide +kernel
theorem dX12_readMake_84 : decode cX12_readMake 84 = .ok (.lcmp, 1) := by decide +kernel
theorem dX12_readMake_85 : decode cX12_readMake 85 = .ok (.ifCond .ne 7, 3) := by decide +kernel
theorem dX12_readMake_88 : decode cX12_readMake 88 = .ok (.iconst 3, 1) := by decide +kernel
theorem dX12_readMake_89 : decode cX12_readMake 89 = .ok (.goto 4, 3) := by decide +kernel
theorem dX12_readMake_92 : decode cX12_readMake 92 = .ok (.iconst 0, 1) := by decide +kernel
theorem dX12_readMake_93 : decode cX12_readMake 93 = .ok (.istore 4, 2) := by decide +kernel
theorem dX12_readMake_95 : decode cX12_readMake 95 = .ok (.aload_n 0, 1) := by decide +kernel
theorem dX12_readMake_96 : decode cX12_readMake 96 = .ok (.iload 4, 2) := by decide +kernel
theorem dX12_readMake_98 : decode cX12_readMake 98 = .ok (.ifCond .le 7, 3) := by decide +kernel
theorem dX12_readMake_101 : decode cX12_readMake 101 = .ok (.iconst 1, 1) := by decide +kernel
theorem dX12_readMake_102 : decode cX12_readMake 102 = .ok (.goto 4, 3) := by decide +kernel
theorem dX12_readMake_105 : decode cX12_readMake 105 = .ok (.iconst 0, 1) := by decide +kernel
theorem dX12_readMake_106 : decode cX12_readMake 106 = .ok (.invokevirtual 186, 3) := by decide +kernel
theorem dX12_readMake_109 : decode cX12_readMake 109 = .ok (.aload_n 0, 1) := by decide +kernel
theorem dX12_readMake_110 : decode cX12_readMake 110 = .ok (.invokevirtual 199, 3) := by decide +kernel
theorem dX12_readMake_113 : decode cX12_readMake 113 = .ok (.istore 5, 2) := by decide +kernel
theorem dX12_readMake_115 : decode cX12_readMake 115 = .ok (.aload_n 0, 1) := by decide +kernel
theorem dX12_readMake_116 : decode cX12_readMake 116 = .ok (.aload_n 0, 1) := by decide +kernel
theorem dX12_readMake_117 : decode cX12_readMake 117 = .ok (.bipush 59, 2) := by decide +kernel
theorem dX12_readMake_119 : decode cX12_readMake 119 = .ok (.invokevirtual 193, 3) := by decide +kernel
theorem dX12_readMake_122 : decode cX12_readMake 122 = .ok (.invokevirtual 186, 3) := by decide +kernel
theorem dX12_readMake_125 : decode cX12_readMake 125 = .ok (.aload_n 0, 1) := by decide +kernel
theorem dX12_readMake_126 : decode cX12_readMake 126 = .ok (.getfield 169, 3) := by decide +kernel
theorem dX12_readMake_129 : decode cX12_readMake 129 = .ok (.ifCond .eq 54, 3) := by decide +kernel
theorem dX12_readMake_132 : decode cX12_readMake 132 = .ok (.aload_n 0, 1) := by decide +kernel
theorem dX12_readMake_133 : decode cX12_readMake 133 = .ok (.getfield 35, 3) := by decide +kernel
theorem dX12_readMake_136 : decode cX12_readMake 136 = .ok (.bipush 24, 2) := by decide +kernel
theorem dX12_readMake_138 : decode cX12_readMake 138 = .ok (.aload_n 0, 1) := by decide +kernel
theorem dX12_readMake_139 : decode cX12_readMake 139 = .ok (.getfield 179, 3) := by decide +kernel
theorem dX12_readMake_142 : decode cX12_readMake 142 = .ok (.iadd, 1) := by decide +kernel
theorem dX12_readMake_143 : decode cX12_readMake 143 = .ok (.iload 4, 2) := by decide +kernel
theorem dX12_readMake_145 : decode cX12_readMake 145 = .ok (.iastore, 1) := by decide +kernel
theorem dX12_readMake_146 : decode cX12_readMake 146 = .ok (.aload_n 0, 1) := by decide +kernel
theorem dX12_readMake_147 : decode cX12_readMake 147 = .ok (.getfield 38, 3) := by decide +kernel
theorem dX12_readMake_150 : decode cX12_readMake 150 = .ok (.bipush 24, 2) := by decide +kernel
theorem dX12_readMake_152 : decode cX12_readMake 152 = .ok (.aload_n 0, 1) := by decide +kernel
theorem dX12_readMake_153 : decode cX12_readMake 153 = .ok (.getfield 179, 3) := by decide +kernel
theorem dX12_readMake_156 : decode cX12_readMake 156 = .ok (.iadd, 1) := by decide +kernel
theorem dX12_readMake_157 : decode cX12_readMake 157 = .ok (.iload_n 1, 1) := by decide +kernel
theorem dX12_readMake_158 : decode cX12_readMake 158 = .ok (.iastore, 1) := by decide +kernel
theorem dX12_readMake_159 : decode cX12_readMake 159 = .ok (.aload_n 0, 1) := by decide +kernel
theorem dX12_readMake_160 : decode cX12_readMake 160 = .ok (.getfield 41, 3) := by decide +kernel
theorem dX12_readMake_163 : decode cX12_readMake 163 = .ok (.bipush 24, 2) := by decide +kernel
theorem dX12_readMake_165 : decode cX12_readMake 165 = .ok (.aload_n 0, 1) := by decide +kernel
theorem dX12_readMake_166 : decode cX12_readMake 166 = .ok (.getfield 179, 3) := by decide +kernel
theorem dX12_readMake_169 : decode cX12_readMake 169 = .ok (.iadd, 1) := by decide +kernel
theorem dX12_readMake_170 : decode cX12_readMake 170 = .ok (.iload 5, 2) := by decide +kernel
theorem dX12_readMake_172 : decode cX12_readMake 172 = .ok (.iastore, 1) := by decide +kernel
theorem dX12_readMake_173 : decode cX12_readMake 173 = .ok (.aload_n 0, 1) := by decide +kernel
theorem dX12_readMake_174 : decode cX12_readMake 174 = .ok (.dup, 1) := by decide +kernel
theorem dX12_readMake_175 : decode cX12_readMake 175 = .ok (.getfield 179, 3) := by decide +kernel
theorem dX12_readMake_178 : decode cX12_readMake 178 = .ok (.iconst 1, 1) := by decide +kernel
theorem dX12_readMake_179 : decode cX12_readMake 179 = .ok (.iadd, 1) := by decide +kernel
theorem dX12_readMake_180 : decode cX12_readMake 180 = .ok (.putfield 179, 3) := by decide +kernel
theorem dX12_readMake_183 : decode cX12_readMake 183 = .ok (.return_, 1) := by decide +kernel
theorem dX12_readWire_0 : decode cX12_readWire 0 = .ok (.aload_n 0, 1) := by decide +kernel
theorem dX12_readWire_1 : decode cX12_readWire 1 = .ok (.aload_n 0, 1) := by decide +kernel
theorem dX12_readWire_2 : decode cX12_readWire 2 = .ok (.getfield 190, 3) := by decide +kernel
theorem dX12_readWire_5 : decode cX12_readWire 5 = .ok (.bipush 8, 2) := by decide +kernel
theorem dX12_readWire_7 : decode cX12_readWire 7 = .ok (.if_icmp .ge 7, 3) := by decide +kernel
theorem dX12_readWire_10 : decode cX12_readWire 10 = .ok (.iconst 1, 1) := by decide +kernel
theorem dX12_readWire_11 : decode cX12_readWire 11 = .ok (.goto 4, 3) := by decide +kernel
theorem dX12_readWire_14 : decode cX12_readWire 14 = .ok (.iconst 0, 1) := by decide +kernel
theorem dX12_readWire_15 : decode cX12_readWire 15 = .ok (.invokevirtual 186, 3) := by decide +kernel
theorem dX12_readWire_18 : decode cX12_readWire 18 = .ok (.aload_n 0, 1) := by decide +kernel
theorem dX12_readWire_19 : decode cX12_readWire 19 = .ok (.invokevirtual 182, 3) := by decide +kernel
theorem dX12_readWire_22 : decode cX12_readWire 22 = .ok (.istore_n 1, 1) := by decide +kernel
theorem dX12_readWire_23 : decode cX12_readWire 23 = .ok (.iload_n 1, 1) := by decide +kernel
theorem dX12_readWire_24 : decode cX12_readWire 24 = .ok (.iconst (-1), 1) := by decide +kernel
theorem dX12_readWire_25 : decode cX12_readWire 25 = .ok (.if_icmp .eq 7, 3) := by decide +kernel
theorem dX12_readWire_28 : decode cX12_readWire 28 = .ok (.iconst 1, 1) := by decide +kernel
theorem dX12_readWire_29 : decode cX12_readWire 29 = .ok (.goto 4, 3) := by decide +kernel
theorem dX12_readWire_32 : decode cX12_readWire 32 = .ok (.iconst 0, 1) := by decide +kernel
theorem dX12_readWire_33 : decode cX12_readWire 33 = .ok (.istore_n 2, 1) := by decide +kernel
theorem dX12_readWire_34 : decode cX12_readWire 34 = .ok (.iconst 0, 1) := by decide +kernel
theorem dX12_readWire_35 : decode cX12_readWire 35 = .ok (.istore_n 3, 1) := by decide +kernel
theorem dX12_readWire_36 : decode cX12_readWire 36 = .ok (.iload_n 3, 1) := by decide +kernel
theorem dX12_readWire_37 : decode cX12_readWire 37 = .ok (.aload_n 0, 1) := by decide +kernel
theorem dX12_readWire_38 : decode cX12_readWire 38 = .ok (.getfield 190, 3) := by decide +kernel
theorem dX12_readWire_41 : decode cX12_readWire 41 = .ok (.if_icmp .ge 32, 3) := by decide +kernel
theorem dX12_readWire_44 : decode cX12_readWire 44 = .ok (.iload_n 2, 1) := by decide +kernel
theorem dX12_readWire_45 : decode cX12_readWire 45 = .ok (.ifCond .eq 20, 3) := by decide +kernel
theorem dX12_readWire_48 : decode cX12_readWire 48 = .ok (.aload_n 0, 1) := by decide +kernel
theorem dX12_readWire_49 : decode cX12_readWire 49 = .ok (.getfield 44, 3) := by decide +kernel
theorem dX12_readWire_52 : decode cX12_readWire 52 = .ok (.bipush 8, 2) := by decide +kernel
theorem dX12_readWire_54 : decode cX12_readWire 54 = .ok (.iload_n 3, 1) := by decide +kernel
theorem dX12_readWire_55 : decode cX12_readWire 55 = .ok (.iadd, 1) := by decide +kernel
theorem dX12_readWire_56 : decode cX12_readWire 56 = .ok (.iaload, 1) := by decide +kernel
theorem dX12_readWire_57 : decode cX12_readWire 57 = .ok (.iload_n 1, 1) := by decide +kernel
theorem dX12_readWire_58 : decode cX12_readWire 58 = .ok (.if_icmp .eq 7, 3) := by decide +kernel
theorem dX12_readWire_61 : decode cX12_readWire 61 = .ok (.iconst 1, 1) := by decide +kernel
theorem dX12_readWire_62 : decode cX12_readWire 62 = .ok (.goto 4, 3) := by decide +kernel
theorem dX12_readWire_65 : decode cX12_readWire 65 = .ok (.iconst 0, 1) := by decide +kernel
theorem dX12_readWire_66 : decode cX12_readWire 66 = .ok (.istore_n 2, 1) := by decide +kernel
theorem dX12_readWire_67 : decode cX12_readWire 67 = .ok (.iinc 3 1, 3) := by decide +kernel
theorem dX12_readWire_70 : decode cX12_readWire 70 = .ok (.goto (-34), 3) := by decide +kernel
theorem dX12_readWire_73 : decode cX12_readWire 73 = .ok (.aload_n 0, 1) := by decide +kernel
theorem dX12_readWire_74 : decode cX12_readWire 74 = .ok (.iload_n 2, 1) := by decide +kernel
theorem dX12_readWire_75 : decode cX12_readWire 75 = .ok (.invokevirtual 186, 3) := by decide +kernel
theorem dX12_readWire_78 : decode cX12_readWire 78 = .ok (.aload_n 0, 1) := by decide +kernel
theorem dX12_readWire_79 : decode cX12_readWire 79 = .ok (.aload_n 0, 1) := by decide +kernel
theorem dX12_readWire_80 : decode cX12_readWire 80 = .ok (.bipush 59, 2) := by decide +kernel
theorem dX12_readWire_82 : decode cX12_readWire 82 = .ok (.invokevirtual 193, 3) := by decide +kernel
theorem dX12_readWire_85 : decode cX12_readWire 85 = .ok (.invokevirtual 186, 3) := by decide +kernel
theorem dX12_readWire_88 : decode cX12_readWire 88 = .ok (.aload_n 0, 1) := by decide +kernel
theorem dX12_readWire_89 : decode cX12_readWire 89 = .ok (.getfield 169, 3) := by decide +kernel
theorem dX12_readWire_92 : decode cX12_readWire 92 = .ok (.ifCond .eq 26, 3) := by decide +kernel
theorem dX12_readWire_95 : decode cX12_readWire 95 = .ok (.aload_n 0, 1) := by decide +kernel
theorem dX12_readWire_96 : decode cX12_readWire 96 = .ok (.getfield 44, 3) := by decide +kernel
theorem dX12_readWire_99 : decode cX12_readWire 99 = .ok (.bipush 8, 2) := by decide +kernel
theorem dX12_readWire_101 : decode cX12_readWire 101 = .ok (.aload_n 0, 1) := by decide +kernel
theorem dX12_readWire_102 : decode cX12_readWire 102 = .ok (.getfield 190, 3) := by decide +kernel
theorem dX12_readWire_105 : decode cX12_readWire 105 = .ok (.iadd, 1) := by decide +kernel
theorem dX12_readWire_106 : decode cX12_readWire 106 = .ok (.iload_n 1, 1) := by decide +kernel
theorem dX12_readWire_107 : decode cX12_readWire 107 = .ok (.iastore, 1) := by decide +kernel
theorem dX12_readWire_108 : decode cX12_readWire 108 = .ok (.aload_n 0, 1) := by decide +kernel
theorem dX12_readWire_109 : decode cX12_readWire 109 = .ok (.dup, 1) := by decide +kernel
theorem dX12_readWire_110 : decode cX12_readWire 110 = .ok (.getfield 190, 3) := by decide +kernel
theorem dX12_readWire_113 : decode cX12_readWire 113 = .ok (.iconst 1, 1) := by decide +kernel
theorem dX12_readWire_114 : decode cX12_readWire 114 = .ok (.iadd, 1) := by decide +kernel
theorem dX12_readWire_115 : decode cX12_readWire 115 = .ok (.putfield 190, 3) := by decide +kernel
theorem dX12_readWire_118 : decode cX12_readWire 118 = .ok (.return_, 1) := by decide +kernel
theorem dX12_readJoin_0 : decode cX12_readJoin 0 = .ok (.aload_n 0, 1) := by decide +kernel
theorem dX12_readJoin_1 : decode cX12_readJoin 1 = .ok (.aload_n 0, 1) := by decide +kernel
theorem dX12_readJoin_2 : decode cX12_readJoin 2 = .ok (.getfield 205, 3) := by decide +kernel
theorem dX12_readJoin_5 : decode cX12_readJoin 5 = .ok (.bipush 16, 2) := by decide +kernel
theorem dX12_readJoin_7 : decode cX12_readJoin 7 = .ok (.if_icmp .ge 7, 3) := by decide +kernel
theorem dX12_readJoin_10 : decode cX12_readJoin 10 = .ok (.iconst 1, 1) := by decide +kernel
theorem dX12_readJoin_11 : decode cX12_readJoin 11 = .ok (.goto 4, 3) := by decide +kernel
theorem dX12_readJoin_14 : decode cX12_readJoin 14 = .ok (.iconst 0, 1) := by decide +kernel
theorem dX12_readJoin_15 : decode cX12_readJoin 15 = .ok (.invokevirtual 186, 3) := by decide +kernel
theorem dX12_readJoin_18 : decode cX12_readJoin 18 = .ok (.aload_n 0, 1) := by decide +kernel
theorem dX12_readJoin_19 : decode cX12_readJoin 19 = .ok (.invokevirtual 208, 3) := by decide +kernel
theorem dX12_readJoin_22 : decode cX12_readJoin 22 = .ok (.istore_n 1, 1) := by decide +kernel
theorem dX12_readJoin_23 : decode cX12_readJoin 23 = .ok (.aload_n 0, 1) := by decide +kernel
theorem dX12_readJoin_24 : decode cX12_readJoin 24 = .ok (.invokevirtual 208, 3) := by decide +kernel
theorem dX12_readJoin_27 : decode cX12_readJoin 27 = .ok (.istore_n 2, 1) := by decide +kernel
theorem dX12_readJoin_28 : decode cX12_readJoin 28 = .ok (.aload_n 0, 1) := by decide +kernel
theorem dX12_readJoin_29 : decode cX12_readJoin 29 = .ok (.aload_n 0, 1) := by decide +kernel
theorem dX12_readJoin_30 : decode cX12_readJoin 30 = .ok (.invokevirtual 175, 3) := by decide +kernel
theorem dX12_readJoin_33 : decode cX12_readJoin 33 = .ok (.bipush 98, 2) := by decide +kernel
theorem dX12_readJoin_35 : decode cX12_readJoin 35 = .ok (.bipush 121, 2) := by decide +kernel
theorem dX12_readJoin_37 : decode cX12_readJoin 37 = .ok (.iconst 0, 1) := by decide +kernel
theorem dX12_readJoin_38 : decode cX12_readJoin 38 = .ok (.iconst 0, 1) := by decide +kernel
theorem dX12_readJoin_39 : decode cX12_readJoin 39 = .ok (.iconst 0, 1) := by decide +kernel
theorem dX12_readJoin_40 : decode cX12_readJoin 40 = .ok (.invokestatic 202, 3) := by decide +kernel
theorem dX12_readJoin_43 : decode cX12_readJoin 43 = .ok (.lcmp, 1) := by decide +kernel
theorem dX12_readJoin_44 : decode cX12_readJoin 44 = .ok (.ifCond .ne 7, 3) := by decide +kernel
theorem dX12_readJoin_47 : decode cX12_readJoin 47 = .ok (.iconst 1, 1) := by decide +kernel
theorem dX12_readJoin_48 : decode cX12_readJoin 48 = .ok (.goto 4, 3) := by decide +kernel
theorem dX12_readJoin_51 : decode cX12_readJoin 51 = .ok (.iconst 0, 1) := by decide +kernel
theorem dX12_readJoin_52 : decode cX12_readJoin 52 = .ok (.invokevirtual 186, 3) := by decide +kernel
theorem dX12_readJoin_55 : decode cX12_readJoin 55 = .ok (.aload_n 0, 1) := by decide +kernel
theorem dX12_readJoin_56 : decode cX12_readJoin 56 = .ok (.invokevirtual 199, 3) := by decide +kernel
theorem dX12_readJoin_59 : decode cX12_readJoin 59 = .ok (.istore_n 3, 1) := by decide +kernel
theorem dX12_readJoin_60 : decode cX12_readJoin 60 = .ok (.aload_n 0, 1) := by decide +kernel
theorem dX12_readJoin_61 : decode cX12_readJoin 61 = .ok (.aload_n 0, 1) := by decide +kernel
theorem dX12_readJoin_62 : decode cX12_readJoin 62 = .ok (.bipush 59, 2) := by decide +kernel
theorem dX12_readJoin_64 : decode cX12_readJoin 64 = .ok (.invokevirtual 193, 3) := by decide +kernel
theorem dX12_readJoin_67 : decode cX12_readJoin 67 = .ok (.invokevirtual 186, 3) := by decide +kernel
theorem dX12_readJoin_70 : decode cX12_readJoin 70 = .ok (.aload_n 0, 1) := by decide +kernel
theorem dX12_readJoin_71 : decode cX12_readJoin 71 = .ok (.getfield 169, 3) := by decide +kernel
theorem dX12_readJoin_74 : decode cX12_readJoin 74 = .ok (.ifCond .eq 52, 3) := by decide +kernel
theorem dX12_readJoin_77 : decode cX12_readJoin 77 = .ok (.aload_n 0, 1) := by decide +kernel
theorem dX12_readJoin_78 : decode cX12_readJoin 78 = .ok (.getfield 47, 3) := by decide +kernel
theorem dX12_readJoin_81 : decode cX12_readJoin 81 = .ok (.bipush 16, 2) := by decide +kernel
theorem dX12_readJoin_83 : decode cX12_readJoin 83 = .ok (.aload_n 0, 1) := by decide +kernel
theorem dX12_readJoin_84 : decode cX12_readJoin 84 = .ok (.getfield 205, 3) := by decide +kernel
theorem dX12_readJoin_87 : decode cX12_readJoin 87 = .ok (.iadd, 1) := by decide +kernel
theorem dX12_readJoin_88 : decode cX12_readJoin 88 = .ok (.iload_n 1, 1) := by decide +kernel
theorem dX12_readJoin_89 : decode cX12_readJoin 89 = .ok (.iastore, 1) := by decide +kernel
theorem dX12_readJoin_90 : decode cX12_readJoin 90 = .ok (.aload_n 0, 1) := by decide +kernel
theorem dX12_readJoin_91 : decode cX12_readJoin 91 = .ok (.getfield 50, 3) := by decide +kernel
theorem dX12_readJoin_94 : decode cX12_readJoin 94 = .ok (.bipush 16, 2) := by decide +kernel
theorem dX12_readJoin_96 : decode cX12_readJoin 96 = .ok (.aload_n 0, 1) := by decide +kernel
theorem dX12_readJoin_97 : decode cX12_readJoin 97 = .ok (.getfield 205, 3) := by decide +kernel
theorem dX12_readJoin_100 : decode cX12_readJoin 100 = .ok (.iadd, 1) := by decide +kernel
theorem dX12_readJoin_101 : decode cX12_readJoin 101 = .ok (.iload_n 2, 1) := by decide +kernel
theorem dX12_readJoin_102 : decode cX12_readJoin 102 = .ok (.iastore, 1) := by decide +kernel
theorem dX12_readJoin_103 : decode cX12_readJoin 103 = .ok (.aload_n 0, 1) := by decide +kernel
theorem dX12_readJoin_104 : decode cX12_readJoin 104 = .ok (.getfield 53, 3) := by decide +kernel
theorem dX12_readJoin_107 : decode cX12_readJoin 107 = .ok (.bipush 16, 2) := by decide +kernel
theorem dX12_readJoin_109 : decode cX12_readJoin 109 = .ok (.aload_n 0, 1) := by decide +kernel
theorem dX12_readJoin_110 : decode cX12_readJoin 110 = .ok (.getfield 205, 3) := by decide +kernel
theorem dX12_readJoin_113 : decode cX12_readJoin 113 = .ok (.iadd, 1) := by decide +kernel
theorem dX12_readJoin_114 : decode cX12_readJoin 114 = .ok (.iload_n 3, 1) := by decide +kernel
theorem dX12_readJoin_115 : decode cX12_readJoin 115 = .ok (.iastore, 1) := by decide +kernel
theorem dX12_readJoin_116 : decode cX12_readJoin 116 = .ok (.aload_n 0, 1) := by decide +kernel
theorem dX12_readJoin_117 : decode cX12_readJoin 117 = .ok (.dup, 1) := by decide +kernel
theorem dX12_readJoin_118 : decode cX12_readJoin 118 = .ok (.getfield 205, 3) := by decide +kernel
theorem dX12_readJoin_121 : decode cX12_readJoin 121 = .ok (.iconst 1, 1) := by decide +kernel
theorem dX12_readJoin_122 : decode cX12_readJoin 122 = .ok (.iadd, 1) := by decide +kernel
theorem dX12_readJoin_123 : decode cX12_readJoin 123 = .ok (.putfield 205, 3) := by decide +kernel
theorem dX12_readJoin_126 : decode cX12_readJoin 126 = .ok (.return_, 1) := by decide +kernel
theorem dX12_readDevice_0 : decode cX12_readDevice 0 = .ok (.aload_n 0, 1) := by decide +kernel
theorem dX12_readDevice_1 : decode cX12_readDevice 1 = .ok (.aload_n 0, 1) := by decide +kernel
theorem dX12_readDevice_2 : decode cX12_readDevice 2 = .ok (.getfield 211, 3) := by decide +kernel
theorem dX12_readDevice_5 : decode cX12_readDevice 5 = .ok (.bipush 8, 2) := by decide +kernel
theorem dX12_readDevice_7 : decode cX12_readDevice 7 = .ok (.if_icmp .ge 7, 3) := by decide +kernel
theorem dX12_readDevice_10 : decode cX12_readDevice 10 = .ok (.iconst 1, 1) := by decide +kernel
theorem dX12_readDevice_11 : decode cX12_readDevice 11 = .ok (.goto 4, 3) := by decide +kernel
theorem dX12_readDevice_14 : decode cX12_readDevice 14 = .ok (.iconst 0, 1) := by decide +kernel
theorem dX12_readDevice_15 : decode cX12_readDevice 15 = .ok (.invokevirtual 186, 3) := by decide +kernel
theorem dX12_readDevice_18 : decode cX12_readDevice 18 = .ok (.aload_n 0, 1) := by decide +kernel
theorem dX12_readDevice_19 : decode cX12_readDevice 19 = .ok (.invokevirtual 175, 3) := by decide +kernel
theorem dX12_readDevice_22 : decode cX12_readDevice 22 = .ok (.lstore_n 1, 1) := by decide +kernel
theorem dX12_readDevice_23 : decode cX12_readDevice 23 = .ok (.lload_n 1, 1) := by decide +kernel
theorem dX12_readDevice_24 : decode cX12_readDevice 24 = .ok (.lconst 0, 1) := by decide +kernel
theorem dX12_readDevice_25 : decode cX12_readDevice 25 = .ok (.lcmp, 1) := by decide +kernel
theorem dX12_readDevice_26 : decode cX12_readDevice 26 = .ok (.ifCond .le 7, 3) := by decide +kernel
theorem dX12_readDevice_29 : decode cX12_readDevice 29 = .ok (.iconst 1, 1) := by decide +kernel
theorem dX12_readDevice_30 : decode cX12_readDevice 30 = .ok (.goto 4, 3) := by decide +kernel
theorem dX12_readDevice_33 : decode cX12_readDevice 33 = .ok (.iconst 0, 1) := by decide +kernel
theorem dX12_readDevice_34 : decode cX12_readDevice 34 = .ok (.istore_n 3, 1) := by decide +kernel
theorem dX12_readDevice_35 : decode cX12_readDevice 35 = .ok (.iconst 0, 1) := by decide +kernel
theorem dX12_readDevice_36 : decode cX12_readDevice 36 = .ok (.istore 4, 2) := by decide +kernel
theorem dX12_readDevice_38 : decode cX12_readDevice 38 = .ok (.iload 4, 2) := by decide +kernel
theorem dX12_readDevice_40 : decode cX12_readDevice 40 = .ok (.aload_n 0, 1) := by decide +kernel
theorem dX12_readDevice_41 : decode cX12_readDevice 41 = .ok (.getfield 211, 3) := by decide +kernel
theorem dX12_readDevice_44 : decode cX12_readDevice 44 = .ok (.if_icmp .ge 34, 3) := by decide +kernel
theorem dX12_readDevice_47 : decode cX12_readDevice 47 = .ok (.iload_n 3, 1) := by decide +kernel
theorem dX12_readDevice_48 : decode cX12_readDevice 48 = .ok (.ifCond .eq 22, 3) := by decide +kernel
theorem dX12_readDevice_51 : decode cX12_readDevice 51 = .ok (.aload_n 0, 1) := by decide +kernel
theorem dX12_readDevice_52 : decode cX12_readDevice 52 = .ok (.getfield 56, 3) := by decide +kernel
theorem dX12_readDevice_55 : decode cX12_readDevice 55 = .ok (.bipush 8, 2) := by decide +kernel
theorem dX12_readDevice_57 : decode cX12_readDevice 57 = .ok (.iload 4, 2) := by decide +kernel
theorem dX12_readDevice_59 : decode cX12_readDevice 59 = .ok (.iadd, 1) := by decide +kernel
theorem dX12_readDevice_60 : decode cX12_readDevice 60 = .ok (.laload, 1) := by decide +kernel
theorem dX12_readDevice_61 : decode cX12_readDevice 61 = .ok (.lload_n 1, 1) := by decide +kernel
theorem dX12_readDevice_62 : decode cX12_readDevice 62 = .ok (.lcmp, 1) := by decide +kernel
theorem dX12_readDevice_63 : decode cX12_readDevice 63 = .ok (.ifCond .eq 7, 3) := by decide +kernel
theorem dX12_readDevice_66 : decode cX12_readDevice 66 = .ok (.iconst 1, 1) := by decide +kernel
theorem dX12_readDevice_67 : decode cX12_readDevice 67 = .ok (.goto 4, 3) := by decide +kernel
theorem dX12_readDevice_70 : decode cX12_readDevice 70 = .ok (.iconst 0, 1) := by decide +kernel
theorem dX12_readDevice_71 : decode cX12_readDevice 71 = .ok (.istore_n 3, 1) := by decide +kernel
theorem dX12_readDevice_72 : decode cX12_readDevice 72 = .ok (.iinc 4 1, 3) := by decide +kernel
theorem dX12_readDevice_75 : decode cX12_readDevice 75 = .ok (.goto (-37), 3) := by decide +kernel
theorem dX12_readDevice_78 : decode cX12_readDevice 78 = .ok (.aload_n 0, 1) := by decide +kernel
theorem dX12_readDevice_79 : decode cX12_readDevice 79 = .ok (.iload_n 3, 1) := by decide +kernel
theorem dX12_readDevice_80 : decode cX12_readDevice 80 = .ok (.invokevirtual 186, 3) := by decide +kernel
theorem dX12_readDevice_83 : decode cX12_readDevice 83 = .ok (.aload_n 0, 1) := by decide +kernel
theorem dX12_readDevice_84 : decode cX12_readDevice 84 = .ok (.aload_n 0, 1) := by decide +kernel
theorem dX12_readDevice_85 : decode cX12_readDevice 85 = .ok (.bipush 61, 2) := by decide +kernel
theorem dX12_readDevice_87 : decode cX12_readDevice 87 = .ok (.invokevirtual 193, 3) := by decide +kernel
theorem dX12_readDevice_90 : decode cX12_readDevice 90 = .ok (.invokevirtual 186, 3) := by decide +kernel
theorem dX12_readDevice_93 : decode cX12_readDevice 93 = .ok (.aload_n 0, 1) := by decide +kernel
theorem dX12_readDevice_94 : decode cX12_readDevice 94 = .ok (.invokevirtual 199, 3) := by decide +kernel
theorem dX12_readDevice_97 : decode cX12_readDevice 97 = .ok (.istore 4, 2) := by decide +kernel
theorem dX12_readDevice_99 : decode cX12_readDevice 99 = .ok (.aload_n 0, 1) := by decide +kernel
theorem dX12_readDevice_100 : decode cX12_readDevice 100 = .ok (.aload_n 0, 1) := by decide +kernel
theorem dX12_readDevice_101 : decode cX12_readDevice 101 = .ok (.invokevirtual 175, 3) := by decide +kernel
theorem dX12_readDevice_104 : decode cX12_readDevice 104 = .ok (.bipush 112, 2) := by decide +kernel
theorem dX12_readDevice_106 : decode cX12_readDevice 106 = .ok (.bipush 105, 2) := by decide +kernel
theorem dX12_readDevice_108 : decode cX12_readDevice 108 = .ok (.bipush 110, 2) := by decide +kernel
theorem dX12_readDevice_110 : decode cX12_readDevice 110 = .ok (.bipush 115, 2) := by decide +kernel
theorem dX12_readDevice_112 : decode cX12_readDevice 112 = .ok (.iconst 0, 1) := by decide +kernel
theorem dX12_readDevice_113 : decode cX12_readDevice 113 = .ok (.invokestatic 202, 3) := by decide +kernel
theorem dX12_readDevice_116 : decode cX12_readDevice 116 = .ok (.lcmp, 1) := by decide +kernel
theorem dX12_readDevice_117 : decode cX12_readDevice 117 = .ok (.ifCond .ne 7, 3) := by decide +kernel
theorem dX12_readDevice_120 : decode cX12_readDevice 120 = .ok (.iconst 1, 1) := by decide +kernel
theorem dX12_readDevice_121 : decode cX12_readDevice 121 = .ok (.goto 4, 3) := by decide +kernel
theorem dX12_readDevice_124 : decode cX12_readDevice 124 = .ok (.iconst 0, 1) := by decide +kernel
theorem dX12_readDevice_125 : decode cX12_readDevice 125 = .ok (.invokevirtual 186, 3) := by decide +kernel
theorem dX12_readDevice_128 : decode cX12_readDevice 128 = .ok (.iconst 0, 1) := by decide +kernel
theorem dX12_readDevice_129 : decode cX12_readDevice 129 = .ok (.istore 5, 2) := by decide +kernel
theorem dX12_readDevice_131 : decode cX12_readDevice 131 = .ok (.aload_n 0, 1) := by decide +kernel
theorem dX12_readDevice_132 : decode cX12_readDevice 132 = .ok (.getfield 169, 3) := by decide +kernel
theorem dX12_readDevice_135 : decode cX12_readDevice 135 = .ok (.ifCond .eq 50, 3) := by decide +kernel
theorem dX12_readDevice_138 : decode cX12_readDevice 138 = .ok (.iload 5, 2) := by decide +kernel
theorem dX12_readDevice_140 : decode cX12_readDevice 140 = .ok (.ifCond .eq 18, 3) := by decide +kernel
theorem dX12_readDevice_143 : decode cX12_readDevice 143 = .ok (.aload_n 0, 1) := by decide +kernel
theorem dX12_readDevice_144 : decode cX12_readDevice 144 = .ok (.bipush 59, 2) := by decide +kernel
theorem dX12_readDevice_146 : decode cX12_readDevice 146 = .ok (.invokevirtual 193, 3) := by decide +kernel
theorem dX12_readDevice_149 : decode cX12_readDevice 149 = .ok (.ifCond .ne 36, 3) := by decide +kernel
theorem dX12_readDevice_152 : decode cX12_readDevice 152 = .ok (.iload 5, 2) := by decide +kernel
theorem dX12_readDevice_154 : decode cX12_readDevice 154 = .ok (.iconst 4, 1) := by decide +kernel
theorem dX12_readDevice_155 : decode cX12_readDevice 155 = .ok (.if_icmp .ge 30, 3) := by decide +kernel
theorem dX12_readDevice_158 : decode cX12_readDevice 158 = .ok (.aload_n 0, 1) := by decide +kernel
theorem dX12_readDevice_159 : decode cX12_readDevice 159 = .ok (.getfield 65, 3) := by decide +kernel
theorem dX12_readDevice_162 : decode cX12_readDevice 162 = .ok (.iconst 4, 1) := by decide +kernel
theorem dX12_readDevice_163 : decode cX12_readDevice 163 = .ok (.bipush 8, 2) := by decide +kernel
theorem dX12_readDevice_165 : decode cX12_readDevice 165 = .ok (.aload_n 0, 1) := by decide +kernel
theorem dX12_readDevice_166 : decode cX12_readDevice 166 = .ok (.getfield 211, 3) := by decide +kernel
theorem dX12_readDevice_169 : decode cX12_readDevice 169 = .ok (.iadd, 1) := by decide +kernel
theorem dX12_readDevice_170 : decode cX12_readDevice 170 = .ok (.imul, 1) := by decide +kernel
theorem dX12_readDevice_171 : decode cX12_readDevice 171 = .ok (.iload 5, 2) := by decide +kernel
theorem dX12_readDevice_173 : decode cX12_readDevice 173 = .ok (.iadd, 1) := by decide +kernel
theorem dX12_readDevice_174 : decode cX12_readDevice 174 = .ok (.aload_n 0, 1) := by decide +kernel
theorem dX12_readDevice_175 : decode cX12_readDevice 175 = .ok (.invokevirtual 208, 3) := by decide +kernel
theorem dX12_readDevice_178 : decode cX12_readDevice 178 = .ok (.iastore, 1) := by decide +kernel
theorem dX12_readDevice_179 : decode cX12_readDevice 179 = .ok (.iinc 5 1, 3) := by decide +kernel
theorem dX12_readDevice_182 : decode cX12_readDevice 182 = .ok (.goto (-51), 3) := by decide +kernel
theorem dX12_readDevice_185 : decode cX12_readDevice 185 = .ok (.aload_n 0, 1) := by decide +kernel
theorem dX12_readDevice_186 : decode cX12_readDevice 186 = .ok (.aload_n 0, 1) := by decide +kernel
theorem dX12_readDevice_187 : decode cX12_readDevice 187 = .ok (.bipush 59, 2) := by decide +kernel
theorem dX12_readDevice_189 : decode cX12_readDevice 189 = .ok (.invokevirtual 193, 3) := by decide +kernel
theorem dX12_readDevice_192 : decode cX12_readDevice 192 = .ok (.invokevirtual 186, 3) := by decide +kernel
theorem dX12_readDevice_195 : decode cX12_readDevice 195 = .ok (.aload_n 0, 1) := by decide +kernel
theorem dX12_readDevice_196 : decode cX12_readDevice 196 = .ok (.getfield 169, 3) := by decide +kernel
theorem dX12_readDevice_199 : decode cX12_readDevice 199 = .ok (.ifCond .eq 54, 3) := by decide +kernel
theorem dX12_readDevice_202 : decode cX12_readDevice 202 = .ok (.aload_n 0, 1) := by decide +kernel
theorem dX12_readDevice_203 : decode cX12_readDevice 203 = .ok (.getfield 56, 3) := by decide +kernel
theorem dX12_readDevice_206 : decode cX12_readDevice 206 = .ok (.bipush 8, 2) := by decide +kernel
theorem dX12_readDevice_208 : decode cX12_readDevice 208 = .ok (.aload_n 0, 1) := by decide +kernel
theorem dX12_readDevice_209 : decode cX12_readDevice 209 = .ok (.getfield 211, 3) := by decide +kernel
theorem dX12_readDevice_212 : decode cX12_readDevice 212 = .ok (.iadd, 1) := by decide +kernel
theorem dX12_readDevice_213 : decode cX12_readDevice 213 = .ok (.lload_n 1, 1) := by decide +kernel
theorem dX12_readDevice_214 : decode cX12_readDevice 214 = .ok (.lastore, 1) := by decide +kernel
theorem dX12_readDevice_215 : decode cX12_readDevice 215 = .ok (.aload_n 0, 1) := by decide +kernel
theorem dX12_readDevice_216 : decode cX12_readDevice 216 = .ok (.getfield 59, 3) := by decide +kernel
theorem dX12_readDevice_219 : decode cX12_readDevice 219 = .ok (.bipush 8, 2) := by decide +kernel
theorem dX12_readDevice_221 : decode cX12_readDevice 221 = .ok (.aload_n 0, 1) := by decide +kernel
theorem dX12_readDevice_222 : decode cX12_readDevice 222 = .ok (.getfield 211, 3) := by decide +kernel
theorem dX12_readDevice_225 : decode cX12_readDevice 225 = .ok (.iadd, 1) := by decide +kernel
theorem dX12_readDevice_226 : decode cX12_readDevice 226 = .ok (.iload 4, 2) := by decide +kernel
theorem dX12_readDevice_228 : decode cX12_readDevice 228 = .ok (.iastore, 1) := by decide +kernel
theorem dX12_readDevice_229 : decode cX12_readDevice 229 = .ok (.aload_n 0, 1) := by decide +kernel
theorem dX12_readDevice_230 : decode cX12_readDevice 230 = .ok (.getfield 62, 3) := by decide +kernel
theorem dX12_readDevice_233 : decode cX12_readDevice 233 = .ok (.bipush 8, 2) := by decide +kernel
theorem dX12_readDevice_235 : decode cX12_readDevice 235 = .ok (.aload_n 0, 1) := by decide +kernel
theorem dX12_readDevice_236 : decode cX12_readDevice 236 = .ok (.getfield 211, 3) := by decide +kernel
theorem dX12_readDevice_239 : decode cX12_readDevice 239 = .ok (.iadd, 1) := by decide +kernel
theorem dX12_readDevice_240 : decode cX12_readDevice 240 = .ok (.iload 5, 2) := by decide +kernel
theorem dX12_readDevice_242 : decode cX12_readDevice 242 = .ok (.iastore, 1) := by decide +kernel
theorem dX12_readDevice_243 : decode cX12_readDevice 243 = .ok (.aload_n 0, 1) := by decide +kernel
theorem dX12_readDevice_244 : decode cX12_readDevice 244 = .ok (.dup, 1) := by decide +kernel
theorem dX12_readDevice_245 : decode cX12_readDevice 245 = .ok (.getfield 211, 3) := by decide +kernel
theorem dX12_readDevice_248 : decode cX12_readDevice 248 = .ok (.iconst 1, 1) := by decide +kernel
theorem dX12_readDevice_249 : decode cX12_readDevice 249 = .ok (.iadd, 1) := by decide +kernel
theorem dX12_readDevice_250 : decode cX12_readDevice 250 = .ok (.putfield 211, 3) := by decide +kernel
theorem dX12_readDevice_253 : decode cX12_readDevice 253 = .ok (.return_, 1) := by decide +kernel
theorem dX12_readSentence_0 : decode cX12_readSentence 0 = .ok (.aload_n 0, 1) := by decide +kernel
theorem dX12_readSentence_1 : decode cX12_readSentence 1 = .ok (.invokevirtual 175, 3) := by decide +kernel
theorem dX12_readSentence_4 : decode cX12_readSentence 4 = .ok (.lstore_n 1, 1) := by decide +kernel
theorem dX12_readSentence_5 : decode cX12_readSentence 5 = .ok (.lload_n 1, 1) := by decide +kernel
theorem dX12_readSentence_6 : decode cX12_readSentence 6 = .ok (.bipush 105, 2) := by decide +kernel
theorem dX12_readSentence_8 : decode cX12_readSentence 8 = .ok (.bipush 110, 2) := by decide +kernel
theorem dX12_readSentence_10 : decode cX12_readSentence 10 = .ok (.bipush 112, 2) := by decide +kernel
theorem dX12_readSentence_12 : decode cX12_readSentence 12 = .ok (.bipush 117, 2) := by decide +kernel
theorem dX12_readSentence_14 : decode cX12_readSentence 14 = .ok (.bipush 116, 2) := by decide +kernel
theorem dX12_readSentence_16 : decode cX12_readSentence 16 = .ok (.invokestatic 202, 3) := by decide +kernel
theorem dX12_readSentence_19 : decode cX12_readSentence 19 = .ok (.lcmp, 1) := by decide +kernel
theorem dX12_readSentence_20 : decode cX12_readSentence 20 = .ok (.ifCond .ne 10, 3) := by decide +kernel
theorem dX12_readSentence_23 : decode cX12_readSentence 23 = .ok (.aload_n 0, 1) := by decide +kernel
theorem dX12_readSentence_24 : decode cX12_readSentence 24 = .ok (.invokevirtual 214, 3) := by decide +kernel
theorem dX12_readSentence_27 : decode cX12_readSentence 27 = .ok (.goto 121, 3) := by decide +kernel
theorem dX12_readSentence_30 : decode cX12_readSentence 30 = .ok (.lload_n 1, 1) := by decide +kernel
theorem dX12_readSentence_31 : decode cX12_readSentence 31 = .ok (.bipush 109, 2) := by decide +kernel
theorem dX12_readSentence_33 : decode cX12_readSentence 33 = .ok (.bipush 97, 2) := by decide +kernel
theorem dX12_readSentence_35 : decode cX12_readSentence 35 = .ok (.bipush 107, 2) := by decide +kernel
theorem dX12_readSentence_37 : decode cX12_readSentence 37 = .ok (.bipush 101, 2) := by decide +kernel
theorem dX12_readSentence_39 : decode cX12_readSentence 39 = .ok (.iconst 0, 1) := by decide +kernel
theorem dX12_readSentence_40 : decode cX12_readSentence 40 = .ok (.invokestatic 202, 3) := by decide +kernel
theorem dX12_readSentence_43 : decode cX12_readSentence 43 = .ok (.lcmp, 1) := by decide +kernel
theorem dX12_readSentence_44 : decode cX12_readSentence 44 = .ok (.ifCond .ne 10, 3) := by decide +kernel
theorem dX12_readSentence_47 : decode cX12_readSentence 47 = .ok (.aload_n 0, 1) := by decide +kernel
theorem dX12_readSentence_48 : decode cX12_readSentence 48 = .ok (.invokevirtual 217, 3) := by decide +kernel
theorem dX12_readSentence_51 : decode cX12_readSentence 51 = .ok (.goto 97, 3) := by decide +kernel
theorem dX12_readSentence_54 : decode cX12_readSentence 54 = .ok (.lload_n 1, 1) := by decide +kernel
theorem dX12_readSentence_55 : decode cX12_readSentence 55 = .ok (.bipush 119, 2) := by decide +kernel
theorem dX12_readSentence_57 : decode cX12_readSentence 57 = .ok (.bipush 105, 2) := by decide +kernel
theorem dX12_readSentence_59 : decode cX12_readSentence 59 = .ok (.bipush 114, 2) := by decide +kernel
theorem dX12_readSentence_61 : decode cX12_readSentence 61 = .ok (.bipush 101, 2) := by decide +kernel
theorem dX12_readSentence_63 : decode cX12_readSentence 63 = .ok (.iconst 0, 1) := by decide +kernel
theorem dX12_readSentence_64 : decode cX12_readSentence 64 = .ok (.invokestatic 202, 3) := by decide +kernel
theorem dX12_readSentence_67 : decode cX12_readSentence 67 = .ok (.lcmp, 1) := by decide +kernel
theorem dX12_readSentence_68 : decode cX12_readSentence 68 = .ok (.ifCond .ne 10, 3) := by decide +kernel
theorem dX12_readSentence_71 : decode cX12_readSentence 71 = .ok (.aload_n 0, 1) := by decide +kernel
theorem dX12_readSentence_72 : decode cX12_readSentence 72 = .ok (.invokevirtual 220, 3) := by decide +kernel
theorem dX12_readSentence_75 : decode cX12_readSentence 75 = .ok (.goto 73, 3) := by decide +kernel
theorem dX12_readSentence_78 : decode cX12_readSentence 78 = .ok (.lload_n 1, 1) := by decide +kernel
theorem dX12_readSentence_79 : decode cX12_readSentence 79 = .ok (.bipush 106, 2) := by decide +kernel
theorem dX12_readSentence_81 : decode cX12_readSentence 81 = .ok (.bipush 111, 2) := by decide +kernel
theorem dX12_readSentence_83 : decode cX12_readSentence 83 = .ok (.bipush 105, 2) := by decide +kernel
theorem dX12_readSentence_85 : decode cX12_readSentence 85 = .ok (.bipush 110, 2) := by decide +kernel
theorem dX12_readSentence_87 : decode cX12_readSentence 87 = .ok (.iconst 0, 1) := by decide +kernel
theorem dX12_readSentence_88 : decode cX12_readSentence 88 = .ok (.invokestatic 202, 3) := by decide +kernel
theorem dX12_readSentence_91 : decode cX12_readSentence 91 = .ok (.lcmp, 1) := by decide +kernel
theorem dX12_readSentence_92 : decode cX12_readSentence 92 = .ok (.ifCond .ne 10, 3) := by decide +kernel
theorem dX12_readSentence_95 : decode cX12_readSentence 95 = .ok (.aload_n 0, 1) := by decide +kernel
theorem dX12_readSentence_96 : decode cX12_readSentence 96 = .ok (.invokevirtual 223, 3) := by decide +kernel
theorem dX12_readSentence_99 : decode cX12_readSentence 99 = .ok (.goto 49, 3) := by decide +kernel
theorem dX12_readSentence_102 : decode cX12_readSentence 102 = .ok (.aload_n 0, 1) := by decide +kernel
theorem dX12_readSentence_103 : decode cX12_readSentence 103 = .ok (.lload_n 1, 1) := by decide +kernel
theorem dX12_readSentence_104 : decode cX12_readSentence 104 = .ok (.ldc2_w 165, 3) := by decide +kernel
theorem dX12_readSentence_107 : decode cX12_readSentence 107 = .ok (.bipush 100, 2) := by decide +kernel
theorem dX12_readSentence_109 : decode cX12_readSentence 109 = .ok (.bipush 101, 2) := by decide +kernel
theorem dX12_readSentence_111 : decode cX12_readSentence 111 = .ok (.bipush 118, 2) := by decide +kernel
theorem dX12_readSentence_113 : decode cX12_readSentence 113 = .ok (.bipush 105, 2) := by decide +kernel
theorem dX12_readSentence_115 : decode cX12_readSentence 115 = .ok (.bipush 99, 2) := by decide +kernel
theorem dX12_readSentence_117 : decode cX12_readSentence 117 = .ok (.invokestatic 202, 3) := by decide +kernel
theorem dX12_readSentence_120 : decode cX12_readSentence 120 = .ok (.lmul, 1) := by decide +kernel
theorem dX12_readSentence_121 : decode cX12_readSentence 121 = .ok (.ldc2_w 226, 3) := by decide +kernel
theorem dX12_readSentence_124 : decode cX12_readSentence 124 = .ok (.ladd, 1) := by decide +kernel
theorem dX12_readSentence_125 : decode cX12_readSentence 125 = .ok (.lcmp, 1) := by decide +kernel
theorem dX12_readSentence_126 : decode cX12_readSentence 126 = .ok (.ifCond .ne 7, 3) := by decide +kernel
theorem dX12_readSentence_129 : decode cX12_readSentence 129 = .ok (.iconst 1, 1) := by decide +kernel
theorem dX12_readSentence_130 : decode cX12_readSentence 130 = .ok (.goto 4, 3) := by decide +kernel
theorem dX12_readSentence_133 : decode cX12_readSentence 133 = .ok (.iconst 0, 1) := by decide +kernel
theorem dX12_readSentence_134 : decode cX12_readSentence 134 = .ok (.putfield 169, 3) := by decide +kernel
theorem dX12_readSentence_137 : decode cX12_readSentence 137 = .ok (.aload_n 0, 1) := by decide +kernel
theorem dX12_readSentence_138 : decode cX12_readSentence 138 = .ok (.getfield 169, 3) := by decide +kernel
theorem dX12_readSentence_141 : decode cX12_readSentence 141 = .ok (.ifCond .eq 7, 3) := by decide +kernel
theorem dX12_readSentence_144 : decode cX12_readSentence 144 = .ok (.aload_n 0, 1) := by decide +kernel
theorem dX12_readSentence_145 : decode cX12_readSentence 145 = .ok (.invokevirtual 228, 3) := by decide +kernel
theorem dX12_readSentence_148 : decode cX12_readSentence 148 = .ok (.return_, 1) := by decide +kernel
theorem dX12_read_0 : decode cX12_read 0 = .ok (.aload_n 0, 1) := by decide +kernel
theorem dX12_read_1 : decode cX12_read 1 = .ok (.iconst 0, 1) := by decide +kernel
theorem dX12_read_2 : decode cX12_read 2 = .ok (.putfield 124, 3) := by decide +kernel
theorem dX12_read_5 : decode cX12_read 5 = .ok (.aload_n 0, 1) := by decide +kernel
theorem dX12_read_6 : decode cX12_read 6 = .ok (.iconst 0, 1) := by decide +kernel
theorem dX12_read_7 : decode cX12_read 7 = .ok (.putfield 153, 3) := by decide +kernel
theorem dX12_read_10 : decode cX12_read 10 = .ok (.aload_n 0, 1) := by decide +kernel
theorem dX12_read_11 : decode cX12_read 11 = .ok (.iconst (-1), 1) := by decide +kernel
theorem dX12_read_12 : decode cX12_read 12 = .ok (.putfield 150, 3) := by decide +kernel
theorem dX12_read_15 : decode cX12_read 15 = .ok (.aload_n 0, 1) := by decide +kernel
theorem dX12_read_16 : decode cX12_read 16 = .ok (.iconst 1, 1) := by decide +kernel
theorem dX12_read_17 : decode cX12_read 17 = .ok (.putfield 169, 3) := by decide +kernel
theorem dX12_read_20 : decode cX12_read 20 = .ok (.aload_n 0, 1) := by decide +kernel
theorem dX12_read_21 : decode cX12_read 21 = .ok (.iconst 0, 1) := by decide +kernel
theorem dX12_read_22 : decode cX12_read 22 = .ok (.putfield 179, 3) := by decide +kernel
theorem dX12_read_25 : decode cX12_read 25 = .ok (.aload_n 0, 1) := by decide +kernel
theorem dX12_read_26 : decode cX12_read 26 = .ok (.iconst 0, 1) := by decide +kernel
theorem dX12_read_27 : decode cX12_read 27 = .ok (.putfield 190, 3) := by decide +kernel
theorem dX12_read_30 : decode cX12_read 30 = .ok (.aload_n 0, 1) := by decide +kernel
theorem dX12_read_31 : decode cX12_read 31 = .ok (.iconst 0, 1) := by decide +kernel
theorem dX12_read_32 : decode cX12_read 32 = .ok (.putfield 205, 3) := by decide +kernel
theorem dX12_read_35 : decode cX12_read 35 = .ok (.aload_n 0, 1) := by decide +kernel
theorem dX12_read_36 : decode cX12_read 36 = .ok (.iconst 0, 1) := by decide +kernel
theorem dX12_read_37 : decode cX12_read 37 = .ok (.putfield 211, 3) := by decide +kernel
theorem dX12_read_40 : decode cX12_read 40 = .ok (.aload_n 0, 1) := by decide +kernel
theorem dX12_read_41 : decode cX12_read 41 = .ok (.invokevirtual 172, 3) := by decide +kernel
theorem dX12_read_44 : decode cX12_read 44 = .ok (.aload_n 0, 1) := by decide +kernel
theorem dX12_read_45 : decode cX12_read 45 = .ok (.getfield 169, 3) := by decide +kernel
theorem dX12_read_48 : decode cX12_read 48 = .ok (.ifCond .eq 21, 3) := by decide +kernel
theorem dX12_read_51 : decode cX12_read 51 = .ok (.aload_n 0, 1) := by decide +kernel
theorem dX12_read_52 : decode cX12_read 52 = .ok (.getfield 156, 3) := by decide +kernel
theorem dX12_read_55 : decode cX12_read 55 = .ok (.aload_n 0, 1) := by decide +kernel
theorem dX12_read_56 : decode cX12_read 56 = .ok (.getfield 147, 3) := by decide +kernel
theorem dX12_read_59 : decode cX12_read 59 = .ok (.if_icmp .ge 10, 3) := by decide +kernel
theorem dX12_read_62 : decode cX12_read 62 = .ok (.aload_n 0, 1) := by decide +kernel
theorem dX12_read_63 : decode cX12_read 63 = .ok (.invokevirtual 231, 3) := by decide +kernel
theorem dX12_read_66 : decode cX12_read 66 = .ok (.goto (-22), 3) := by decide +kernel
theorem dX12_read_69 : decode cX12_read 69 = .ok (.aload_n 0, 1) := by decide +kernel
theorem dX12_read_70 : decode cX12_read 70 = .ok (.iconst 0, 1) := by decide +kernel
theorem dX12_read_71 : decode cX12_read 71 = .ok (.putfield 147, 3) := by decide +kernel
theorem dX12_read_74 : decode cX12_read 74 = .ok (.aload_n 0, 1) := by decide +kernel
theorem dX12_read_75 : decode cX12_read 75 = .ok (.getfield 169, 3) := by decide +kernel
theorem dX12_read_78 : decode cX12_read 78 = .ok (.ifCond .ne 10, 3) := by decide +kernel
theorem dX12_read_81 : decode cX12_read 81 = .ok (.iconst (-1), 1) := by decide +kernel
theorem dX12_read_82 : decode cX12_read 82 = .ok (.aload_n 0, 1) := by decide +kernel
theorem dX12_read_83 : decode cX12_read 83 = .ok (.getfield 150, 3) := by decide +kernel
theorem dX12_read_86 : decode cX12_read 86 = .ok (.isub, 1) := by decide +kernel
theorem dX12_read_87 : decode cX12_read 87 = .ok (.ireturn, 1) := by decide +kernel
theorem dX12_read_88 : decode cX12_read 88 = .ok (.aload_n 0, 1) := by decide +kernel
theorem dX12_read_89 : decode cX12_read 89 = .ok (.invokevirtual 234, 3) := by decide +kernel
theorem dX12_read_92 : decode cX12_read 92 = .ok (.aload_n 0, 1) := by decide +kernel
theorem dX12_read_93 : decode cX12_read 93 = .ok (.getfield 237, 3) := by decide +kernel
theorem dX12_read_96 : decode cX12_read 96 = .ok (.ireturn, 1) := by decide +kernel
theorem dX12_adopt_0 : decode cX12_adopt 0 = .ok (.aload_n 0, 1) := by decide +kernel
theorem dX12_adopt_1 : decode cX12_adopt 1 = .ok (.iconst 1, 1) := by decide +kernel
theorem dX12_adopt_2 : decode cX12_adopt 2 = .ok (.putfield 240, 3) := by decide +kernel
theorem dX12_adopt_5 : decode cX12_adopt 5 = .ok (.aload_n 0, 1) := by decide +kernel
theorem dX12_adopt_6 : decode cX12_adopt 6 = .ok (.iconst 0, 1) := by decide +kernel
theorem dX12_adopt_7 : decode cX12_adopt 7 = .ok (.putfield 130, 3) := by decide +kernel
theorem dX12_adopt_10 : decode cX12_adopt 10 = .ok (.aload_n 0, 1) := by decide +kernel
theorem dX12_adopt_11 : decode cX12_adopt 11 = .ok (.aload_n 0, 1) := by decide +kernel
theorem dX12_adopt_12 : decode cX12_adopt 12 = .ok (.getfield 179, 3) := by decide +kernel
theorem dX12_adopt_15 : decode cX12_adopt 15 = .ok (.putfield 243, 3) := by decide +kernel
theorem dX12_adopt_18 : decode cX12_adopt 18 = .ok (.aload_n 0, 1) := by decide +kernel
theorem dX12_adopt_19 : decode cX12_adopt 19 = .ok (.aload_n 0, 1) := by decide +kernel
theorem dX12_adopt_20 : decode cX12_adopt 20 = .ok (.getfield 190, 3) := by decide +kernel
theorem dX12_adopt_23 : decode cX12_adopt 23 = .ok (.putfield 246, 3) := by decide +kernel
theorem dX12_adopt_26 : decode cX12_adopt 26 = .ok (.aload_n 0, 1) := by decide +kernel
theorem dX12_adopt_27 : decode cX12_adopt 27 = .ok (.aload_n 0, 1) := by decide +kernel
theorem dX12_adopt_28 : decode cX12_adopt 28 = .ok (.getfield 205, 3) := by decide +kernel
theorem dX12_adopt_31 : decode cX12_adopt 31 = .ok (.putfield 249, 3) := by decide +kernel
theorem dX12_adopt_34 : decode cX12_adopt 34 = .ok (.aload_n 0, 1) := by decide +kernel
theorem dX12_adopt_35 : decode cX12_adopt 35 = .ok (.aload_n 0, 1) := by decide +kernel
theorem dX12_adopt_36 : decode cX12_adopt 36 = .ok (.getfield 211, 3) := by decide +kernel
theorem dX12_adopt_39 : decode cX12_adopt 39 = .ok (.putfield 237, 3) := by decide +kernel
theorem dX12_adopt_42 : decode cX12_adopt 42 = .ok (.iconst 0, 1) := by decide +kernel
theorem dX12_adopt_43 : decode cX12_adopt 43 = .ok (.istore_n 1, 1) := by decide +kernel
theorem dX12_adopt_44 : decode cX12_adopt 44 = .ok (.iload_n 1, 1) := by decide +kernel
theorem dX12_adopt_45 : decode cX12_adopt 45 = .ok (.bipush 24, 2) := by decide +kernel
theorem dX12_adopt_47 : decode cX12_adopt 47 = .ok (.if_icmp .ge 69, 3) := by decide +kernel
theorem dX12_adopt_50 : decode cX12_adopt 50 = .ok (.aload_n 0, 1) := by decide +kernel
theorem dX12_adopt_51 : decode cX12_adopt 51 = .ok (.getfield 31, 3) := by decide +kernel
theorem dX12_adopt_54 : decode cX12_adopt 54 = .ok (.iload_n 1, 1) := by decide +kernel
theorem dX12_adopt_55 : decode cX12_adopt 55 = .ok (.aload_n 0, 1) := by decide +kernel
theorem dX12_adopt_56 : decode cX12_adopt 56 = .ok (.getfield 31, 3) := by decide +kernel
theorem dX12_adopt_59 : decode cX12_adopt 59 = .ok (.bipush 24, 2) := by decide +kernel
theorem dX12_adopt_61 : decode cX12_adopt 61 = .ok (.iload_n 1, 1) := by decide +kernel
theorem dX12_adopt_62 : decode cX12_adopt 62 = .ok (.iadd, 1) := by decide +kernel
theorem dX12_adopt_63 : decode cX12_adopt 63 = .ok (.laload, 1) := by decide +kernel
theorem dX12_adopt_64 : decode cX12_adopt 64 = .ok (.lastore, 1) := by decide +kernel
theorem dX12_adopt_65 : decode cX12_adopt 65 = .ok (.aload_n 0, 1) := by decide +kernel
theorem dX12_adopt_66 : decode cX12_adopt 66 = .ok (.getfield 35, 3) := by decide +kernel
theorem dX12_adopt_69 : decode cX12_adopt 69 = .ok (.iload_n 1, 1) := by decide +kernel
theorem dX12_adopt_70 : decode cX12_adopt 70 = .ok (.aload_n 0, 1) := by decide +kernel
theorem dX12_adopt_71 : decode cX12_adopt 71 = .ok (.getfield 35, 3) := by decide +kernel
theorem dX12_adopt_74 : decode cX12_adopt 74 = .ok (.bipush 24, 2) := by decide +kernel
theorem dX12_adopt_76 : decode cX12_adopt 76 = .ok (.iload_n 1, 1) := by decide +kernel
theorem dX12_adopt_77 : decode cX12_adopt 77 = .ok (.iadd, 1) := by decide +kernel
theorem dX12_adopt_78 : decode cX12_adopt 78 = .ok (.iaload, 1) := by decide +kernel
theorem dX12_adopt_79 : decode cX12_adopt 79 = .ok (.iastore, 1) := by decide +kernel
theorem dX12_adopt_80 : decode cX12_adopt 80 = .ok (.aload_n 0, 1) := by decide +kernel
theorem dX12_adopt_81 : decode cX12_adopt 81 = .ok (.getfield 38, 3) := by decide +kernel
theorem dX12_adopt_84 : decode cX12_adopt 84 = .ok (.iload_n 1, 1) := by decide +kernel
theorem dX12_adopt_85 : decode cX12_adopt 85 = .ok (.aload_n 0, 1) := by decide +kernel
theorem dX12_adopt_86 : decode cX12_adopt 86 = .ok (.getfield 38, 3) := by decide +kernel
theorem dX12_adopt_89 : decode cX12_adopt 89 = .ok (.bipush 24, 2) := by decide +kernel
theorem dX12_adopt_91 : decode cX12_adopt 91 = .ok (.iload_n 1, 1) := by decide +kernel
theorem dX12_adopt_92 : decode cX12_adopt 92 = .ok (.iadd, 1) := by decide +kernel
theorem dX12_adopt_93 : decode cX12_adopt 93 = .ok (.iaload, 1) := by decide +kernel
theorem dX12_adopt_94 : decode cX12_adopt 94 = .ok (.iastore, 1) := by decide +kernel
theorem dX12_adopt_95 : decode cX12_adopt 95 = .ok (.aload_n 0, 1) := by decide +kernel
theorem dX12_adopt_96 : decode cX12_adopt 96 = .ok (.getfield 41, 3) := by decide +kernel
theorem dX12_adopt_99 : decode cX12_adopt 99 = .ok (.iload_n 1, 1) := by decide +kernel
theorem dX12_adopt_100 : decode cX12_adopt 100 = .ok (.aload_n 0, 1) := by decide +kernel
theorem dX12_adopt_101 : decode cX12_adopt 101 = .ok (.getfield 41, 3) := by decide +kernel
theorem dX12_adopt_104 : decode cX12_adopt 104 = .ok (.bipush 24, 2) := by decide +kernel
theorem dX12_adopt_106 : decode cX12_adopt 106 = .ok (.iload_n 1, 1) := by decide +kernel
theorem dX12_adopt_107 : decode cX12_adopt 107 = .ok (.iadd, 1) := by decide +kernel
theorem dX12_adopt_108 : decode cX12_adopt 108 = .ok (.iaload, 1) := by decide +kernel
theorem dX12_adopt_109 : decode cX12_adopt 109 = .ok (.iastore, 1) := by decide +kernel
theorem dX12_adopt_110 : decode cX12_adopt 110 = .ok (.iinc 1 1, 3) := by decide +kernel
theorem dX12_adopt_113 : decode cX12_adopt 113 = .ok (.goto (-69), 3) := by decide +kernel
theorem dX12_adopt_116 : decode cX12_adopt 116 = .ok (.iconst 0, 1) := by decide +kernel
theorem dX12_adopt_117 : decode cX12_adopt 117 = .ok (.istore_n 1, 1) := by decide +kernel
theorem dX12_adopt_118 : decode cX12_adopt 118 = .ok (.iload_n 1, 1) := by decide +kernel
theorem dX12_adopt_119 : decode cX12_adopt 119 = .ok (.bipush 8, 2) := by decide +kernel
theorem dX12_adopt_121 : decode cX12_adopt 121 = .ok (.if_icmp .ge 54, 3) := by decide +kernel
theorem dX12_adopt_124 : decode cX12_adopt 124 = .ok (.aload_n 0, 1) := by decide +kernel
theorem dX12_adopt_125 : decode cX12_adopt 125 = .ok (.getfield 44, 3) := by decide +kernel
theorem dX12_adopt_128 : decode cX12_adopt 128 = .ok (.iload_n 1, 1) := by decide +kernel
theorem dX12_adopt_129 : decode cX12_adopt 129 = .ok (.aload_n 0, 1) := by decide +kernel
theorem dX12_adopt_130 : decode cX12_adopt 130 = .ok (.getfield 44, 3) := by decide +kernel
theorem dX12_adopt_133 : decode cX12_adopt 133 = .ok (.bipush 8, 2) := by decide +kernel
theorem dX12_adopt_135 : decode cX12_adopt 135 = .ok (.iload_n 1, 1) := by decide +kernel
theorem dX12_adopt_136 : decode cX12_adopt 136 = .ok (.iadd, 1) := by decide +kernel
theorem dX12_adopt_137 : decode cX12_adopt 137 = .ok (.iaload, 1) := by decide +kernel
theorem dX12_adopt_138 : decode cX12_adopt 138 = .ok (.iastore, 1) := by decide +kernel
theorem dX12_adopt_139 : decode cX12_adopt 139 = .ok (.aload_n 0, 1) := by decide +kernel
theorem dX12_adopt_140 : decode cX12_adopt 140 = .ok (.getfield 59, 3) := by decide +kernel
theorem dX12_adopt_143 : decode cX12_adopt 143 = .ok (.iload_n 1, 1) := by decide +kernel
theorem dX12_adopt_144 : decode cX12_adopt 144 = .ok (.aload_n 0, 1) := by decide +kernel
theorem dX12_adopt_145 : decode cX12_adopt 145 = .ok (.getfield 59, 3) := by decide +kernel
theorem dX12_adopt_148 : decode cX12_adopt 148 = .ok (.bipush 8, 2) := by decide +kernel
theorem dX12_adopt_150 : decode cX12_adopt 150 = .ok (.iload_n 1, 1) := by decide +kernel
theorem dX12_adopt_151 : decode cX12_adopt 151 = .ok (.iadd, 1) := by decide +kernel
theorem dX12_adopt_152 : decode cX12_adopt 152 = .ok (.iaload, 1) := by decide +kernel
theorem dX12_adopt_153 : decode cX12_adopt 153 = .ok (.iastore, 1) := by decide +kernel
theorem dX12_adopt_154 : decode cX12_adopt 154 = .ok (.aload_n 0, 1) := by decide +kernel
theorem dX12_adopt_155 : decode cX12_adopt 155 = .ok (.getfield 62, 3) := by decide +kernel
theorem dX12_adopt_158 : decode cX12_adopt 158 = .ok (.iload_n 1, 1) := by decide +kernel
theorem dX12_adopt_159 : decode cX12_adopt 159 = .ok (.aload_n 0, 1) := by decide +kernel
theorem dX12_adopt_160 : decode cX12_adopt 160 = .ok (.getfield 62, 3) := by decide +kernel
theorem dX12_adopt_163 : decode cX12_adopt 163 = .ok (.bipush 8, 2) := by decide +kernel
theorem dX12_adopt_165 : decode cX12_adopt 165 = .ok (.iload_n 1, 1) := by decide +kernel
theorem dX12_adopt_166 : decode cX12_adopt 166 = .ok (.iadd, 1) := by decide +kernel
theorem dX12_adopt_167 : decode cX12_adopt 167 = .ok (.iaload, 1) := by decide +kernel
theorem dX12_adopt_168 : decode cX12_adopt 168 = .ok (.iastore, 1) := by decide +kernel
theorem dX12_adopt_169 : decode cX12_adopt 169 = .ok (.iinc 1 1, 3) := by decide +kernel
theorem dX12_adopt_172 : decode cX12_adopt 172 = .ok (.goto (-54), 3) := by decide +kernel
theorem dX12_adopt_175 : decode cX12_adopt 175 = .ok (.iconst 0, 1) := by decide +kernel
theorem dX12_adopt_176 : decode cX12_adopt 176 = .ok (.istore_n 1, 1) := by decide +kernel
theorem dX12_adopt_177 : decode cX12_adopt 177 = .ok (.iload_n 1, 1) := by decide +kernel
theorem dX12_adopt_178 : decode cX12_adopt 178 = .ok (.bipush 16, 2) := by decide +kernel
theorem dX12_adopt_180 : decode cX12_adopt 180 = .ok (.if_icmp .ge 54, 3) := by decide +kernel
theorem dX12_adopt_183 : decode cX12_adopt 183 = .ok (.aload_n 0, 1) := by decide +kernel
theorem dX12_adopt_184 : decode cX12_adopt 184 = .ok (.getfield 47, 3) := by decide +kernel
theorem dX12_adopt_187 : decode cX12_adopt 187 = .ok (.iload_n 1, 1) := by decide +kernel
theorem dX12_adopt_188 : decode cX12_adopt 188 = .ok (.aload_n 0, 1) := by decide +kernel
theorem dX12_adopt_189 : decode cX12_adopt 189 = .ok (.getfield 47, 3) := by decide +kernel
theorem dX12_adopt_192 : decode cX12_adopt 192 = .ok (.bipush 16, 2) := by decide +kernel
theorem dX12_adopt_194 : decode cX12_adopt 194 = .ok (.iload_n 1, 1) := by decide +kernel
theorem dX12_adopt_195 : decode cX12_adopt 195 = .ok (.iadd, 1) := by decide +kernel
theorem dX12_adopt_196 : decode cX12_adopt 196 = .ok (.iaload, 1) := by decide +kernel
theorem dX12_adopt_197 : decode cX12_adopt 197 = .ok (.iastore, 1) := by decide +kernel
theorem dX12_adopt_198 : decode cX12_adopt 198 = .ok (.aload_n 0, 1) := by decide +kernel
theorem dX12_adopt_199 : decode cX12_adopt 199 = .ok (.getfield 50, 3) := by decide +kernel
theorem dX12_adopt_202 : decode cX12_adopt 202 = .ok (.iload_n 1, 1) := by decide +kernel
theorem dX12_adopt_203 : decode cX12_adopt 203 = .ok (.aload_n 0, 1) := by decide +kernel
theorem dX12_adopt_204 : decode cX12_adopt 204 = .ok (.getfield 50, 3) := by decide +kernel
theorem dX12_adopt_207 : decode cX12_adopt 207 = .ok (.bipush 16, 2) := by decide +kernel
theorem dX12_adopt_209 : decode cX12_adopt 209 = .ok (.iload_n 1, 1) := by decide +kernel
theorem dX12_adopt_210 : decode cX12_adopt 210 = .ok (.iadd, 1) := by decide +kernel
theorem dX12_adopt_211 : decode cX12_adopt 211 = .ok (.iaload, 1) := by decide +kernel
theorem dX12_adopt_212 : decode cX12_adopt 212 = .ok (.iastore, 1) := by decide +kernel
theorem dX12_adopt_213 : decode cX12_adopt 213 = .ok (.aload_n 0, 1) := by decide +kernel
theorem dX12_adopt_214 : decode cX12_adopt 214 = .ok (.getfield 53, 3) := by decide +kernel
theorem dX12_adopt_217 : decode cX12_adopt 217 = .ok (.iload_n 1, 1) := by decide +kernel
theorem dX12_adopt_218 : decode cX12_adopt 218 = .ok (.aload_n 0, 1) := by decide +kernel
theorem dX12_adopt_219 : decode cX12_adopt 219 = .ok (.getfield 53, 3) := by decide +kernel
theorem dX12_adopt_222 : decode cX12_adopt 222 = .ok (.bipush 16, 2) := by decide +kernel
theorem dX12_adopt_224 : decode cX12_adopt 224 = .ok (.iload_n 1, 1) := by decide +kernel
theorem dX12_adopt_225 : decode cX12_adopt 225 = .ok (.iadd, 1) := by decide +kernel
theorem dX12_adopt_226 : decode cX12_adopt 226 = .ok (.iaload, 1) := by decide +kernel
theorem dX12_adopt_227 : decode cX12_adopt 227 = .ok (.iastore, 1) := by decide +kernel
theorem dX12_adopt_228 : decode cX12_adopt 228 = .ok (.iinc 1 1, 3) := by decide +kernel
theorem dX12_adopt_231 : decode cX12_adopt 231 = .ok (.goto (-54), 3) := by decide +kernel
theorem dX12_adopt_234 : decode cX12_adopt 234 = .ok (.iconst 0, 1) := by decide +kernel
theorem dX12_adopt_235 : decode cX12_adopt 235 = .ok (.istore_n 1, 1) := by decide +kernel
theorem dX12_adopt_236 : decode cX12_adopt 236 = .ok (.iload_n 1, 1) := by decide +kernel
theorem dX12_adopt_237 : decode cX12_adopt 237 = .ok (.bipush 32, 2) := by decide +kernel
theorem dX12_adopt_239 : decode cX12_adopt 239 = .ok (.if_icmp .ge 24, 3) := by decide +kernel
theorem dX12_adopt_242 : decode cX12_adopt 242 = .ok (.aload_n 0, 1) := by decide +kernel
theorem dX12_adopt_243 : decode cX12_adopt 243 = .ok (.getfield 65, 3) := by decide +kernel
theorem dX12_adopt_246 : decode cX12_adopt 246 = .ok (.iload_n 1, 1) := by decide +kernel
theorem dX12_adopt_247 : decode cX12_adopt 247 = .ok (.aload_n 0, 1) := by decide +kernel
theorem dX12_adopt_248 : decode cX12_adopt 248 = .ok (.getfield 65, 3) := by decide +kernel
theorem dX12_adopt_251 : decode cX12_adopt 251 = .ok (.bipush 32, 2) := by decide +kernel
theorem dX12_adopt_253 : decode cX12_adopt 253 = .ok (.iload_n 1, 1) := by decide +kernel
theorem dX12_adopt_254 : decode cX12_adopt 254 = .ok (.iadd, 1) := by decide +kernel
theorem dX12_adopt_255 : decode cX12_adopt 255 = .ok (.iaload, 1) := by decide +kernel
theorem dX12_adopt_256 : decode cX12_adopt 256 = .ok (.iastore, 1) := by decide +kernel
theorem dX12_adopt_257 : decode cX12_adopt 257 = .ok (.iinc 1 1, 3) := by decide +kernel
theorem dX12_adopt_260 : decode cX12_adopt 260 = .ok (.goto (-24), 3) := by decide +kernel
theorem dX12_adopt_263 : decode cX12_adopt 263 = .ok (.return_, 1) := by decide +kernel
theorem dX12_make_0 : decode cX12_make 0 = .ok (.iconst 0, 1) := by decide +kernel
theorem dX12_make_1 : decode cX12_make 1 = .ok (.istore_n 2, 1) := by decide +kernel
theorem dX12_make_2 : decode cX12_make 2 = .ok (.iload_n 2, 1) := by decide +kernel
theorem dX12_make_3 : decode cX12_make 3 = .ok (.sipush 4096, 3) := by decide +kernel
theorem dX12_make_6 : decode cX12_make 6 = .ok (.if_icmp .ge 229, 3) := by decide +kernel
theorem dX12_make_9 : decode cX12_make 9 = .ok (.iconst 0, 1) := by decide +kernel
theorem dX12_make_10 : decode cX12_make 10 = .ok (.istore_n 3, 1) := by decide +kernel
theorem dX12_make_11 : decode cX12_make 11 = .ok (.aload_n 0, 1) := by decide +kernel
theorem dX12_make_12 : decode cX12_make 12 = .ok (.getfield 35, 3) := by decide +kernel
theorem dX12_make_15 : decode cX12_make 15 = .ok (.iload_n 1, 1) := by decide +kernel
theorem dX12_make_16 : decode cX12_make 16 = .ok (.iaload, 1) := by decide +kernel
theorem dX12_make_17 : decode cX12_make 17 = .ok (.ifCond .ne 76, 3) := by decide +kernel
theorem dX12_make_20 : decode cX12_make 20 = .ok (.iconst 0, 1) := by decide +kernel
theorem dX12_make_21 : decode cX12_make 21 = .ok (.istore 4, 2) := by decide +kernel
theorem dX12_make_23 : decode cX12_make 23 = .ok (.iload 4, 2) := by decide +kernel
theorem dX12_make_25 : decode cX12_make 25 = .ok (.aload_n 0, 1) := by decide +kernel
theorem dX12_make_26 : decode cX12_make 26 = .ok (.getfield 127, 3) := by decide +kernel
theorem dX12_make_29 : decode cX12_make 29 = .ok (.if_icmp .ge 61, 3) := by decide +kernel
theorem dX12_make_32 : decode cX12_make 32 = .ok (.iload_n 3, 1) := by decide +kernel
theorem dX12_make_33 : decode cX12_make 33 = .ok (.ifCond .ne 57, 3) := by decide +kernel
theorem dX12_make_36 : decode cX12_make 36 = .ok (.aload_n 0, 1) := by decide +kernel
theorem dX12_make_37 : decode cX12_make 37 = .ok (.getfield 7, 3) := by decide +kernel
theorem dX12_make_40 : decode cX12_make 40 = .ok (.iload 4, 2) := by decide +kernel
theorem dX12_make_42 : decode cX12_make 42 = .ok (.iaload, 1) := by decide +kernel
theorem dX12_make_43 : decode cX12_make 43 = .ok (.aload_n 0, 1) := by decide +kernel
theorem dX12_make_44 : decode cX12_make 44 = .ok (.getfield 38, 3) := by decide +kernel
theorem dX12_make_47 : decode cX12_make 47 = .ok (.iload_n 1, 1) := by decide +kernel
theorem dX12_make_48 : decode cX12_make 48 = .ok (.iaload, 1) := by decide +kernel
theorem dX12_make_49 : decode cX12_make 49 = .ok (.if_icmp .ne 33, 3) := by decide +kernel
theorem dX12_make_52 : decode cX12_make 52 = .ok (.aload_n 0, 1) := by decide +kernel
theorem dX12_make_53 : decode cX12_make 53 = .ok (.iload 4, 2) := by decide +kernel
theorem dX12_make_55 : decode cX12_make 55 = .ok (.invokevirtual 252, 3) := by decide +kernel
theorem dX12_make_58 : decode cX12_make 58 = .ok (.ifCond .ne 24, 3) := by decide +kernel
theorem dX12_make_61 : decode cX12_make 61 = .ok (.aload_n 0, 1) := by decide +kernel
theorem dX12_make_62 : decode cX12_make 62 = .ok (.iload 4, 2) := by decide +kernel
theorem dX12_make_64 : decode cX12_make 64 = .ok (.iload_n 2, 1) := by decide +kernel
theorem dX12_make_65 : decode cX12_make 65 = .ok (.bipush 64, 2) := by decide +kernel
theorem dX12_make_67 : decode cX12_make 67 = .ok (.irem, 1) := by decide +kernel
theorem dX12_make_68 : decode cX12_make 68 = .ok (.iload_n 2, 1) := by decide +kernel
theorem dX12_make_69 : decode cX12_make 69 = .ok (.bipush 64, 2) := by decide +kernel
theorem dX12_make_71 : decode cX12_make 71 = .ok (.idiv, 1) := by decide +kernel
theorem dX12_make_72 : decode cX12_make 72 = .ok (.invokevirtual 255, 3) := by decide +kernel
theorem dX12_make_75 : decode cX12_make 75 = .ok (.ifCond .eq 7, 3) := by decide +kernel
theorem dX12_make_78 : decode cX12_make 78 = .ok (.iconst 1, 1) := by decide +kernel
theorem dX12_make_79 : decode cX12_make 79 = .ok (.goto 4, 3) := by decide +kernel
theorem dX12_make_82 : decode cX12_make 82 = .ok (.iconst 0, 1) := by decide +kernel
theorem dX12_make_83 : decode cX12_make 83 = .ok (.istore_n 3, 1) := by decide +kernel
theorem dX12_make_84 : decode cX12_make 84 = .ok (.iinc 4 1, 3) := by decide +kernel
theorem dX12_make_87 : decode cX12_make 87 = .ok (.goto (-64), 3) := by decide +kernel
theorem dX12_make_90 : decode cX12_make 90 = .ok (.goto 113, 3) := by decide +kernel
theorem dX12_make_93 : decode cX12_make 93 = .ok (.aload_n 0, 1) := by decide +kernel
theorem dX12_make_94 : decode cX12_make 94 = .ok (.getfield 72, 3) := by decide +kernel
theorem dX12_make_97 : decode cX12_make 97 = .ok (.sipush 4096, 3) := by decide +kernel
theorem dX12_make_100 : decode cX12_make 100 = .ok (.aload_n 0, 1) := by decide +kernel
theorem dX12_make_101 : decode cX12_make 101 = .ok (.getfield 38, 3) := by decide +kernel
theorem dX12_make_104 : decode cX12_make 104 = .ok (.iload_n 1, 1) := by decide +kernel
theorem dX12_make_105 : decode cX12_make 105 = .ok (.iaload, 1) := by decide +kernel
theorem dX12_make_106 : decode cX12_make 106 = .ok (.imul, 1) := by decide +kernel
theorem dX12_make_107 : decode cX12_make 107 = .ok (.iload_n 2, 1) := by decide +kernel
theorem dX12_make_108 : decode cX12_make 108 = .ok (.iadd, 1) := by decide +kernel
theorem dX12_make_109 : decode cX12_make 109 = .ok (.baload, 1) := by decide +kernel
theorem dX12_make_110 : decode cX12_make 110 = .ok (.istore 4, 2) := by decide +kernel
theorem dX12_make_112 : decode cX12_make 112 = .ok (.aload_n 0, 1) := by decide +kernel
theorem dX12_make_113 : decode cX12_make 113 = .ok (.getfield 72, 3) := by decide +kernel
theorem dX12_make_116 : decode cX12_make 116 = .ok (.sipush 4096, 3) := by decide +kernel
theorem dX12_make_119 : decode cX12_make 119 = .ok (.aload_n 0, 1) := by decide +kernel
theorem dX12_make_120 : decode cX12_make 120 = .ok (.getfield 41, 3) := by decide +kernel
theorem dX12_make_123 : decode cX12_make 123 = .ok (.iload_n 1, 1) := by decide +kernel
theorem dX12_make_124 : decode cX12_make 124 = .ok (.iaload, 1) := by decide +kernel
theorem dX12_make_125 : decode cX12_make 125 = .ok (.imul, 1) := by decide +kernel
theorem dX12_make_126 : decode cX12_make 126 = .ok (.iload_n 2, 1) := by decide +kernel
theorem dX12_make_127 : decode cX12_make 127 = .ok (.iadd, 1) := by decide +kernel
theorem dX12_make_128 : decode cX12_make 128 = .ok (.baload, 1) := by decide +kernel
theorem dX12_make_129 : decode cX12_make 129 = .ok (.istore 5, 2) := by decide +kernel
theorem dX12_make_131 : decode cX12_make 131 = .ok (.aload_n 0, 1) := by decide +kernel
theorem dX12_make_132 : decode cX12_make 132 = .ok (.getfield 35, 3) := by decide +kernel
theorem dX12_make_135 : decode cX12_make 135 = .ok (.iload_n 1, 1) := by decide +kernel
theorem dX12_make_136 : decode cX12_make 136 = .ok (.iaload, 1) := by decide +kernel
theorem dX12_make_137 : decode cX12_make 137 = .ok (.iconst 1, 1) := by decide +kernel
theorem dX12_make_138 : decode cX12_make 138 = .ok (.if_icmp .ne 21, 3) := by decide +kernel
theorem dX12_make_141 : decode cX12_make 141 = .ok (.iload 4, 2) := by decide +kernel
theorem dX12_make_143 : decode cX12_make 143 = .ok (.ifCond .eq 12, 3) := by decide +kernel
theorem dX12_make_146 : decode cX12_make 146 = .ok (.iload 5, 2) := by decide +kernel
theorem dX12_make_148 : decode cX12_make 148 = .ok (.ifCond .eq 7, 3) := by decide +kernel
theorem dX12_make_151 : decode cX12_make 151 = .ok (.iconst 1, 1) := by decide +kernel
theorem dX12_make_152 : decode cX12_make 152 = .ok (.goto 50, 3) := by decide +kernel
theorem dX12_make_155 : decode cX12_make 155 = .ok (.iconst 0, 1) := by decide +kernel
theorem dX12_make_156 : decode cX12_make 156 = .ok (.goto 46, 3) := by decide +kernel
theorem dX12_make_159 : decode cX12_make 159 = .ok (.aload_n 0, 1) := by decide +kernel
theorem dX12_make_160 : decode cX12_make 160 = .ok (.getfield 35, 3) := by decide +kernel
theorem dX12_make_163 : decode cX12_make 163 = .ok (.iload_n 1, 1) := by decide +kernel
theorem dX12_make_164 : decode cX12_make 164 = .ok (.iaload, 1) := by decide +kernel
theorem dX12_make_165 : decode cX12_make 165 = .ok (.iconst 2, 1) := by decide +kernel
theorem dX12_make_166 : decode cX12_make 166 = .ok (.if_icmp .ne 21, 3) := by decide +kernel
theorem dX12_make_169 : decode cX12_make 169 = .ok (.iload 4, 2) := by decide +kernel
theorem dX12_make_171 : decode cX12_make 171 = .ok (.ifCond .ne 8, 3) := by decide +kernel
theorem dX12_make_174 : decode cX12_make 174 = .ok (.iload 5, 2) := by decide +kernel
theorem dX12_make_176 : decode cX12_make 176 = .ok (.ifCond .eq 7, 3) := by decide +kernel
theorem dX12_make_179 : decode cX12_make 179 = .ok (.iconst 1, 1) := by decide +kernel
theorem dX12_make_180 : decode cX12_make 180 = .ok (.goto 22, 3) := by decide +kernel
theorem dX12_make_183 : decode cX12_make 183 = .ok (.iconst 0, 1) := by decide +kernel
theorem dX12_make_184 : decode cX12_make 184 = .ok (.goto 18, 3) := by decide +kernel
theorem dX12_make_187 : decode cX12_make 187 = .ok (.iload 4, 2) := by decide +kernel
theorem dX12_make_189 : decode cX12_make 189 = .ok (.ifCond .eq 12, 3) := by decide +kernel
theorem dX12_make_192 : decode cX12_make 192 = .ok (.iload 5, 2) := by decide +kernel
theorem dX12_make_194 : decode cX12_make 194 = .ok (.ifCond .ne 7, 3) := by decide +kernel
theorem dX12_make_197 : decode cX12_make 197 = .ok (.iconst 1, 1) := by decide +kernel
theorem dX12_make_198 : decode cX12_make 198 = .ok (.goto 4, 3) := by decide +kernel
theorem dX12_make_201 : decode cX12_make 201 = .ok (.iconst 0, 1) := by decide +kernel
theorem dX12_make_202 : decode cX12_make 202 = .ok (.istore_n 3, 1) := by decide +kernel
theorem dX12_make_203 : decode cX12_make 203 = .ok (.aload_n 0, 1) := by decide +kernel
theorem dX12_make_204 : decode cX12_make 204 = .ok (.getfield 72, 3) := by decide +kernel
theorem dX12_make_207 : decode cX12_make 207 = .ok (.sipush 4096, 3) := by decide +kernel
theorem dX12_make_210 : decode cX12_make 210 = .ok (.iload_n 1, 1) := by decide +kernel
theorem dX12_make_211 : decode cX12_make 211 = .ok (.imul, 1) := by decide +kernel
theorem dX12_make_212 : decode cX12_make 212 = .ok (.iload_n 2, 1) := by decide +kernel
theorem dX12_make_213 : decode cX12_make 213 = .ok (.iadd, 1) := by decide +kernel
theorem dX12_make_214 : decode cX12_make 214 = .ok (.iload_n 3, 1) := by decide +kernel
theorem dX12_make_215 : decode cX12_make 215 = .ok (.bastore, 1) := by decide +kernel
theorem dX12_make_216 : decode cX12_make 216 = .ok (.aload_n 0, 1) := by decide +kernel
theorem dX12_make_217 : decode cX12_make 217 = .ok (.getfield 76, 3) := by decide +kernel
theorem dX12_make_220 : decode cX12_make 220 = .ok (.sipush 4096, 3) := by decide +kernel
theorem dX12_make_223 : decode cX12_make 223 = .ok (.iload_n 1, 1) := by decide +kernel
theorem dX12_make_224 : decode cX12_make 224 = .ok (.imul, 1) := by decide +kernel
theorem dX12_make_225 : decode cX12_make 225 = .ok (.iload_n 2, 1) := by decide +kernel
theorem dX12_make_226 : decode cX12_make 226 = .ok (.iadd, 1) := by decide +kernel
theorem dX12_make_227 : decode cX12_make 227 = .ok (.iconst (-1), 1) := by decide +kernel
theorem dX12_make_228 : decode cX12_make 228 = .ok (.iastore, 1) := by decide +kernel
theorem dX12_make_229 : decode cX12_make 229 = .ok (.iinc 2 1, 3) := by decide +kernel
theorem dX12_make_232 : decode cX12_make 232 = .ok (.goto (-230), 3) := by decide +kernel
theorem dX12_make_235 : decode cX12_make 235 = .ok (.return_, 1) := by decide +kernel
theorem dX12_beside_0 : decode cX12_beside 0 = .ok (.iload_n 0, 1) := by decide +kernel
theorem dX12_beside_1 : decode cX12_beside 1 = .ok (.bipush 64, 2) := by decide +kernel
theorem dX12_beside_3 : decode cX12_beside 3 = .ok (.irem, 1) := by decide +kernel
theorem dX12_beside_4 : decode cX12_beside 4 = .ok (.iload_n 1, 1) := by decide +kernel
theorem dX12_beside_5 : decode cX12_beside 5 = .ok (.ifCond .ne 7, 3) := by decide +kernel
theorem dX12_beside_8 : decode cX12_beside 8 = .ok (.iconst 1, 1) := by decide +kernel
theorem dX12_beside_9 : decode cX12_beside 9 = .ok (.goto 13, 3) := by decide +kernel
theorem dX12_beside_12 : decode cX12_beside 12 = .ok (.iload_n 1, 1) := by decide +kernel
theorem dX12_beside_13 : decode cX12_beside 13 = .ok (.iconst 1, 1) := by decide +kernel
theorem dX12_beside_14 : decode cX12_beside 14 = .ok (.if_icmp .ne 7, 3) := by decide +kernel
theorem dX12_beside_17 : decode cX12_beside 17 = .ok (.iconst (-1), 1) := by decide +kernel
theorem dX12_beside_18 : decode cX12_beside 18 = .ok (.goto 4, 3) := by decide +kernel
theorem dX12_beside_21 : decode cX12_beside 21 = .ok (.iconst 0, 1) := by decide +kernel
theorem dX12_beside_22 : decode cX12_beside 22 = .ok (.iadd, 1) := by decide +kernel
theorem dX12_beside_23 : decode cX12_beside 23 = .ok (.istore_n 2, 1) := by decide +kernel
theorem dX12_beside_24 : decode cX12_beside 24 = .ok (.iload_n 0, 1) := by decide +kernel
theorem dX12_beside_25 : decode cX12_beside 25 = .ok (.bipush 64, 2) := by decide +kernel
theorem dX12_beside_27 : decode cX12_beside 27 = .ok (.idiv, 1) := by decide +kernel
theorem dX12_beside_28 : decode cX12_beside 28 = .ok (.iload_n 1, 1) := by decide +kernel
theorem dX12_beside_29 : decode cX12_beside 29 = .ok (.iconst 2, 1) := by decide +kernel
theorem dX12_beside_30 : decode cX12_beside 30 = .ok (.if_icmp .ne 7, 3) := by decide +kernel
theorem dX12_beside_33 : decode cX12_beside 33 = .ok (.iconst 1, 1) := by decide +kernel
theorem dX12_beside_34 : decode cX12_beside 34 = .ok (.goto 13, 3) := by decide +kernel
theorem dX12_beside_37 : decode cX12_beside 37 = .ok (.iload_n 1, 1) := by decide +kernel
theorem dX12_beside_38 : decode cX12_beside 38 = .ok (.iconst 3, 1) := by decide +kernel
theorem dX12_beside_39 : decode cX12_beside 39 = .ok (.if_icmp .ne 7, 3) := by decide +kernel
theorem dX12_beside_42 : decode cX12_beside 42 = .ok (.iconst (-1), 1) := by decide +kernel
theorem dX12_beside_43 : decode cX12_beside 43 = .ok (.goto 4, 3) := by decide +kernel
theorem dX12_beside_46 : decode cX12_beside 46 = .ok (.iconst 0, 1) := by decide +kernel
theorem dX12_beside_47 : decode cX12_beside 47 = .ok (.iadd, 1) := by decide +kernel
theorem dX12_beside_48 : decode cX12_beside 48 = .ok (.istore_n 3, 1) := by decide +kernel
theorem dX12_beside_49 : decode cX12_beside 49 = .ok (.iload_n 2, 1) := by decide +kernel
theorem dX12_beside_50 : decode cX12_beside 50 = .ok (.i2l, 1) := by decide +kernel
theorem dX12_beside_51 : decode cX12_beside 51 = .ok (.iload_n 3, 1) := by decide +kernel
theorem dX12_beside_52 : decode cX12_beside 52 = .ok (.i2l, 1) := by decide +kernel
theorem dX12_beside_53 : decode cX12_beside 53 = .ok (.invokestatic 136, 3) := by decide +kernel
theorem dX12_beside_56 : decode cX12_beside 56 = .ok (.ifCond .eq 12, 3) := by decide +kernel
theorem dX12_beside_59 : decode cX12_beside 59 = .ok (.bipush 64, 2) := by decide +kernel
theorem dX12_beside_61 : decode cX12_beside 61 = .ok (.iload_n 3, 1) := by decide +kernel
theorem dX12_beside_62 : decode cX12_beside 62 = .ok (.imul, 1) := by decide +kernel
theorem dX12_beside_63 : decode cX12_beside 63 = .ok (.iload_n 2, 1) := by decide +kernel
theorem dX12_beside_64 : decode cX12_beside 64 = .ok (.iadd, 1) := by decide +kernel
theorem dX12_beside_65 : decode cX12_beside 65 = .ok (.goto 4, 3) := by decide +kernel
theorem dX12_beside_68 : decode cX12_beside 68 = .ok (.iconst (-1), 1) := by decide +kernel
theorem dX12_beside_69 : decode cX12_beside 69 = .ok (.ireturn, 1) := by decide +kernel
theorem dX12_flood_0 : decode cX12_flood 0 = .ok (.sipush 4096, 3) := by decide +kernel
theorem dX12_flood_3 : decode cX12_flood 3 = .ok (.iload_n 1, 1) := by decide +kernel
theorem dX12_flood_4 : decode cX12_flood 4 = .ok (.imul, 1) := by decide +kernel
theorem dX12_flood_5 : decode cX12_flood 5 = .ok (.istore 4, 2) := by decide +kernel
theorem dX12_flood_7 : decode cX12_flood 7 = .ok (.iconst 1, 1) := by decide +kernel
theorem dX12_flood_8 : decode cX12_flood 8 = .ok (.istore 5, 2) := by decide +kernel
theorem dX12_flood_10 : decode cX12_flood 10 = .ok (.aload_n 0, 1) := by decide +kernel
theorem dX12_flood_11 : decode cX12_flood 11 = .ok (.getfield 110, 3) := by decide +kernel
theorem dX12_flood_14 : decode cX12_flood 14 = .ok (.iconst 0, 1) := by decide +kernel
theorem dX12_flood_15 : decode cX12_flood 15 = .ok (.iload_n 2, 1) := by decide +kernel
theorem dX12_flood_16 : decode cX12_flood 16 = .ok (.iastore, 1) := by decide +kernel
theorem dX12_flood_17 : decode cX12_flood 17 = .ok (.aload_n 0, 1) := by decide +kernel
theorem dX12_flood_18 : decode cX12_flood 18 = .ok (.getfield 76, 3) := by decide +kernel
theorem dX12_flood_21 : decode cX12_flood 21 = .ok (.iload 4, 2) := by decide +kernel
theorem dX12_flood_23 : decode cX12_flood 23 = .ok (.iload_n 2, 1) := by decide +kernel
theorem dX12_flood_24 : decode cX12_flood 24 = .ok (.iadd, 1) := by decide +kernel
theorem dX12_flood_25 : decode cX12_flood 25 = .ok (.iload_n 3, 1) := by decide +kernel
theorem dX12_flood_26 : decode cX12_flood 26 = .ok (.iastore, 1) := by decide +kernel
theorem dX12_flood_27 : decode cX12_flood 27 = .ok (.iconst 0, 1) := by decide +kernel
theorem dX12_flood_28 : decode cX12_flood 28 = .ok (.istore 6, 2) := by decide +kernel
theorem dX12_flood_30 : decode cX12_flood 30 = .ok (.iload 6, 2) := by decide +kernel
theorem dX12_flood_32 : decode cX12_flood 32 = .ok (.iload 5, 2) := by decide +kernel
theorem dX12_flood_34 : decode cX12_flood 34 = .ok (.if_icmp .ge 94, 3) := by decide +kernel
theorem dX12_flood_37 : decode cX12_flood 37 = .ok (.iconst 0, 1) := by decide +kernel
theorem dX12_flood_38 : decode cX12_flood 38 = .ok (.istore 7, 2) := by decide +kernel
theorem dX12_flood_40 : decode cX12_flood 40 = .ok (.iload 7, 2) := by decide +kernel
theorem dX12_flood_42 : decode cX12_flood 42 = .ok (.iconst 4, 1) := by decide +kernel
theorem dX12_flood_43 : decode cX12_flood 43 = .ok (.if_icmp .ge 79, 3) := by decide +kernel
theorem dX12_flood_46 : decode cX12_flood 46 = .ok (.aload_n 0, 1) := by decide +kernel
theorem dX12_flood_47 : decode cX12_flood 47 = .ok (.getfield 110, 3) := by decide +kernel
theorem dX12_flood_50 : decode cX12_flood 50 = .ok (.iload 6, 2) := by decide +kernel
theorem dX12_flood_52 : decode cX12_flood 52 = .ok (.iaload, 1) := by decide +kernel
theorem dX12_flood_53 : decode cX12_flood 53 = .ok (.iload 7, 2) := by decide +kernel
theorem dX12_flood_55 : decode cX12_flood 55 = .ok (.invokestatic 259, 3) := by decide +kernel
theorem dX12_flood_58 : decode cX12_flood 58 = .ok (.istore 8, 2) := by decide +kernel
theorem dX12_flood_60 : decode cX12_flood 60 = .ok (.iload 8, 2) := by decide +kernel
theorem dX12_flood_62 : decode cX12_flood 62 = .ok (.iconst (-1), 1) := by decide +kernel
theorem dX12_flood_63 : decode cX12_flood 63 = .ok (.if_icmp .eq 53, 3) := by decide +kernel
theorem dX12_flood_66 : decode cX12_flood 66 = .ok (.aload_n 0, 1) := by decide +kernel
theorem dX12_flood_67 : decode cX12_flood 67 = .ok (.getfield 72, 3) := by decide +kernel
theorem dX12_flood_70 : decode cX12_flood 70 = .ok (.iload 4, 2) := by decide +kernel
theorem dX12_flood_72 : decode cX12_flood 72 = .ok (.iload 8, 2) := by decide +kernel
theorem dX12_flood_74 : decode cX12_flood 74 = .ok (.iadd, 1) := by decide +kernel
theorem dX12_flood_75 : decode cX12_flood 75 = .ok (.baload, 1) := by decide +kernel
theorem dX12_flood_76 : decode cX12_flood 76 = .ok (.ifCond .eq 40, 3) := by decide +kernel
theorem dX12_flood_79 : decode cX12_flood 79 = .ok (.aload_n 0, 1) := by decide +kernel
theorem dX12_flood_80 : decode cX12_flood 80 = .ok (.getfield 76, 3) := by decide +kernel
theorem dX12_flood_83 : decode cX12_flood 83 = .ok (.iload 4, 2) := by decide +kernel
theorem dX12_flood_85 : decode cX12_flood 85 = .ok (.iload 8, 2) := by decide +kernel
theorem dX12_flood_87 : decode cX12_flood 87 = .ok (.iadd, 1) := by decide +kernel
theorem dX12_flood_88 : decode cX12_flood 88 = .ok (.iaload, 1) := by decide +kernel
theorem dX12_flood_89 : decode cX12_flood 89 = .ok (.iconst (-1), 1) := by decide +kernel
theorem dX12_flood_90 : decode cX12_flood 90 = .ok (.if_icmp .ne 26, 3) := by decide +kernel
theorem dX12_flood_93 : decode cX12_flood 93 = .ok (.aload_n 0, 1) := by decide +kernel
theorem dX12_flood_94 : decode cX12_flood 94 = .ok (.getfield 76, 3) := by decide +kernel
theorem dX12_flood_97 : decode cX12_flood 97 = .ok (.iload 4, 2) := by decide +kernel
theorem dX12_flood_99 : decode cX12_flood 99 = .ok (.iload 8, 2) := by decide +kernel
theorem dX12_flood_101 : decode cX12_flood 101 = .ok (.iadd, 1) := by decide +kernel
theorem dX12_flood_102 : decode cX12_flood 102 = .ok (.iload_n 3, 1) := by decide +kernel
theorem dX12_flood_103 : decode cX12_flood 103 = .ok (.iastore, 1) := by decide +kernel
theorem dX12_flood_104 : decode cX12_flood 104 = .ok (.aload_n 0, 1) := by decide +kernel
theorem dX12_flood_105 : decode cX12_flood 105 = .ok (.getfield 110, 3) := by decide +kernel
theorem dX12_flood_108 : decode cX12_flood 108 = .ok (.iload 5, 2) := by decide +kernel
theorem dX12_flood_110 : decode cX12_flood 110 = .ok (.iload 8, 2) := by decide +kernel
theorem dX12_flood_112 : decode cX12_flood 112 = .ok (.iastore, 1) := by decide +kernel
theorem dX12_flood_113 : decode cX12_flood 113 = .ok (.iinc 5 1, 3) := by decide +kernel
theorem dX12_flood_116 : decode cX12_flood 116 = .ok (.iinc 7 1, 3) := by decide +kernel
theorem dX12_flood_119 : decode cX12_flood 119 = .ok (.goto (-79), 3) := by decide +kernel
theorem dX12_flood_122 : decode cX12_flood 122 = .ok (.iinc 6 1, 3) := by decide +kernel
theorem dX12_flood_125 : decode cX12_flood 125 = .ok (.goto (-95), 3) := by decide +kernel
theorem dX12_flood_128 : decode cX12_flood 128 = .ok (.return_, 1) := by decide +kernel
theorem dX12_findShapes_0 : decode cX12_findShapes 0 = .ok (.aload_n 0, 1) := by decide +kernel
theorem dX12_findShapes_1 : decode cX12_findShapes 1 = .ok (.getfield 79, 3) := by decide +kernel
theorem dX12_findShapes_4 : decode cX12_findShapes 4 = .ok (.iload_n 1, 1) := by decide +kernel
theorem dX12_findShapes_5 : decode cX12_findShapes 5 = .ok (.iconst 0, 1) := by decide +kernel
theorem dX12_findShapes_6 : decode cX12_findShapes 6 = .ok (.iastore, 1) := by decide +kernel
theorem dX12_findShapes_7 : decode cX12_findShapes 7 = .ok (.iconst 0, 1) := by decide +kernel
theorem dX12_findShapes_8 : decode cX12_findShapes 8 = .ok (.istore_n 2, 1) := by decide +kernel
theorem dX12_findShapes_9 : decode cX12_findShapes 9 = .ok (.iload_n 2, 1) := by decide +kernel
theorem dX12_findShapes_10 : decode cX12_findShapes 10 = .ok (.sipush 4096, 3) := by decide +kernel
theorem dX12_findShapes_13 : decode cX12_findShapes 13 = .ok (.if_icmp .ge 62, 3) := by decide +kernel
theorem dX12_findShapes_16 : decode cX12_findShapes 16 = .ok (.aload_n 0, 1) := by decide +kernel
theorem dX12_findShapes_17 : decode cX12_findShapes 17 = .ok (.getfield 72, 3) := by decide +kernel
theorem dX12_findShapes_20 : decode cX12_findShapes 20 = .ok (.sipush 4096, 3) := by decide +kernel
theorem dX12_findShapes_23 : decode cX12_findShapes 23 = .ok (.iload_n 1, 1) := by decide +kernel
theorem dX12_findShapes_24 : decode cX12_findShapes 24 = .ok (.imul, 1) := by decide +kernel
theorem dX12_findShapes_25 : decode cX12_findShapes 25 = .ok (.iload_n 2, 1) := by decide +kernel
theorem dX12_findShapes_26 : decode cX12_findShapes 26 = .ok (.iadd, 1) := by decide +kernel
theorem dX12_findShapes_27 : decode cX12_findShapes 27 = .ok (.baload, 1) := by decide +kernel
theorem dX12_findShapes_28 : decode cX12_findShapes 28 = .ok (.ifCond .eq 41, 3) := by decide +kernel
theorem dX12_findShapes_31 : decode cX12_findShapes 31 = .ok (.aload_n 0, 1) := by decide +kernel
theorem dX12_findShapes_32 : decode cX12_findShapes 32 = .ok (.getfield 76, 3) := by decide +kernel
theorem dX12_findShapes_35 : decode cX12_findShapes 35 = .ok (.sipush 4096, 3) := by decide +kernel
theorem dX12_findShapes_38 : decode cX12_findShapes 38 = .ok (.iload_n 1, 1) := by decide +kernel
theorem dX12_findShapes_39 : decode cX12_findShapes 39 = .ok (.imul, 1) := by decide +kernel
theorem dX12_findShapes_40 : decode cX12_findShapes 40 = .ok (.iload_n 2, 1) := by decide +kernel
theorem dX12_findShapes_41 : decode cX12_findShapes 41 = .ok (.iadd, 1) := by decide +kernel
theorem dX12_findShapes_42 : decode cX12_findShapes 42 = .ok (.iaload, 1) := by decide +kernel
theorem dX12_findShapes_43 : decode cX12_findShapes 43 = .ok (.iconst (-1), 1) := by decide +kernel
theorem dX12_findShapes_44 : decode cX12_findShapes 44 = .ok (.if_icmp .ne 25, 3) := by decide +kernel
theorem dX12_findShapes_47 : decode cX12_findShapes 47 = .ok (.aload_n 0, 1) := by decide +kernel
theorem dX12_findShapes_48 : decode cX12_findShapes 48 = .ok (.iload_n 1, 1) := by decide +kernel
theorem dX12_findShapes_49 : decode cX12_findShapes 49 = .ok (.iload_n 2, 1) := by decide +kernel
theorem dX12_findShapes_50 : decode cX12_findShapes 50 = .ok (.aload_n 0, 1) := by decide +kernel
theorem dX12_findShapes_51 : decode cX12_findShapes 51 = .ok (.getfield 79, 3) := by decide +kernel
theorem dX12_findShapes_54 : decode cX12_findShapes 54 = .ok (.iload_n 1, 1) := by decide +kernel
theorem dX12_findShapes_55 : decode cX12_findShapes 55 = .ok (.iaload, 1) := by decide +kernel
theorem dX12_findShapes_56 : decode cX12_findShapes 56 = .ok (.invokevirtual 263, 3) := by decide +kernel
theorem dX12_findShapes_59 : decode cX12_findShapes 59 = .ok (.aload_n 0, 1) := by decide +kernel
theorem dX12_findShapes_60 : decode cX12_findShapes 60 = .ok (.getfield 79, 3) := by decide +kernel
theorem dX12_findShapes_63 : decode cX12_findShapes 63 = .ok (.iload_n 1, 1) := by decide +kernel
theorem dX12_findShapes_64 : decode cX12_findShapes 64 = .ok (.dup2, 1) := by decide +kernel
theorem dX12_findShapes_65 : decode cX12_findShapes 65 = .ok (.iaload, 1) := by decide +kernel
theorem dX12_findShapes_66 : decode cX12_findShapes 66 = .ok (.iconst 1, 1) := by decide +kernel
theorem dX12_findShapes_67 : decode cX12_findShapes 67 = .ok (.iadd, 1) := by decide +kernel
theorem dX12_findShapes_68 : decode cX12_findShapes 68 = .ok (.iastore, 1) := by decide +kernel
theorem dX12_findShapes_69 : decode cX12_findShapes 69 = .ok (.iinc 2 1, 3) := by decide +kernel
theorem dX12_findShapes_72 : decode cX12_findShapes 72 = .ok (.goto (-63), 3) := by decide +kernel
theorem dX12_findShapes_75 : decode cX12_findShapes 75 = .ok (.return_, 1) := by decide +kernel
theorem dX12_nodeAt_0 : decode cX12_nodeAt 0 = .ok (.aload_n 0, 1) := by decide +kernel
theorem dX12_nodeAt_1 : decode cX12_nodeAt 1 = .ok (.getfield 76, 3) := by decide +kernel
theorem dX12_nodeAt_4 : decode cX12_nodeAt 4 = .ok (.sipush 4096, 3) := by decide +kernel
theorem dX12_nodeAt_7 : decode cX12_nodeAt 7 = .ok (.aload_n 0, 1) := by decide +kernel
theorem dX12_nodeAt_8 : decode cX12_nodeAt 8 = .ok (.getfield 44, 3) := by decide +kernel
theorem dX12_nodeAt_11 : decode cX12_nodeAt 11 = .ok (.iload_n 1, 1) := by decide +kernel
theorem dX12_nodeAt_12 : decode cX12_nodeAt 12 = .ok (.iaload, 1) := by decide +kernel
theorem dX12_nodeAt_13 : decode cX12_nodeAt 13 = .ok (.imul, 1) := by decide +kernel
theorem dX12_nodeAt_14 : decode cX12_nodeAt 14 = .ok (.iload_n 2, 1) := by decide +kernel
theorem dX12_nodeAt_15 : decode cX12_nodeAt 15 = .ok (.iadd, 1) := by decide +kernel
theorem dX12_nodeAt_16 : decode cX12_nodeAt 16 = .ok (.iaload, 1) := by decide +kernel
theorem dX12_nodeAt_17 : decode cX12_nodeAt 17 = .ok (.istore_n 3, 1) := by decide +kernel
theorem dX12_nodeAt_18 : decode cX12_nodeAt 18 = .ok (.iload_n 3, 1) := by decide +kernel
theorem dX12_nodeAt_19 : decode cX12_nodeAt 19 = .ok (.iconst (-1), 1) := by decide +kernel
theorem dX12_nodeAt_20 : decode cX12_nodeAt 20 = .ok (.if_icmp .ne 7, 3) := by decide +kernel
theorem dX12_nodeAt_23 : decode cX12_nodeAt 23 = .ok (.iconst (-1), 1) := by decide +kernel
theorem dX12_nodeAt_24 : decode cX12_nodeAt 24 = .ok (.goto 11, 3) := by decide +kernel
theorem dX12_nodeAt_27 : decode cX12_nodeAt 27 = .ok (.aload_n 0, 1) := by decide +kernel
theorem dX12_nodeAt_28 : decode cX12_nodeAt 28 = .ok (.getfield 82, 3) := by decide +kernel
theorem dX12_nodeAt_31 : decode cX12_nodeAt 31 = .ok (.iload_n 1, 1) := by decide +kernel
theorem dX12_nodeAt_32 : decode cX12_nodeAt 32 = .ok (.iaload, 1) := by decide +kernel
theorem dX12_nodeAt_33 : decode cX12_nodeAt 33 = .ok (.iload_n 3, 1) := by decide +kernel
theorem dX12_nodeAt_34 : decode cX12_nodeAt 34 = .ok (.iadd, 1) := by decide +kernel
theorem dX12_nodeAt_35 : decode cX12_nodeAt 35 = .ok (.ireturn, 1) := by decide +kernel
theorem dX12_lower_0 : decode cX12_lower 0 = .ok (.sipush 4096, 3) := by decide +kernel
theorem dX12_lower_3 : decode cX12_lower 3 = .ok (.aload_n 0, 1) := by decide +kernel
theorem dX12_lower_4 : decode cX12_lower 4 = .ok (.getfield 53, 3) := by decide +kernel
theorem dX12_lower_7 : decode cX12_lower 7 = .ok (.iload_n 1, 1) := by decide +kernel
theorem dX12_lower_8 : decode cX12_lower 8 = .ok (.iaload, 1) := by decide +kernel
theorem dX12_lower_9 : decode cX12_lower 9 = .ok (.imul, 1) := by decide +kernel
theorem dX12_lower_10 : decode cX12_lower 10 = .ok (.istore_n 2, 1) := by decide +kernel
theorem dX12_lower_11 : decode cX12_lower 11 = .ok (.iconst 0, 1) := by decide +kernel
theorem dX12_lower_12 : decode cX12_lower 12 = .ok (.istore_n 3, 1) := by decide +kernel
theorem dX12_lower_13 : decode cX12_lower 13 = .ok (.iload_n 3, 1) := by decide +kernel
theorem dX12_lower_14 : decode cX12_lower 14 = .ok (.aload_n 0, 1) := by decide +kernel
theorem dX12_lower_15 : decode cX12_lower 15 = .ok (.getfield 79, 3) := by decide +kernel
theorem dX12_lower_18 : decode cX12_lower 18 = .ok (.aload_n 0, 1) := by decide +kernel
theorem dX12_lower_19 : decode cX12_lower 19 = .ok (.getfield 53, 3) := by decide +kernel
theorem dX12_lower_22 : decode cX12_lower 22 = .ok (.iload_n 1, 1) := by decide +kernel
theorem dX12_lower_23 : decode cX12_lower 23 = .ok (.iaload, 1) := by decide +kernel
theorem dX12_lower_24 : decode cX12_lower 24 = .ok (.iaload, 1) := by decide +kernel
theorem dX12_lower_25 : decode cX12_lower 25 = .ok (.if_icmp .ge 18, 3) := by decide +kernel
theorem dX12_lower_28 : decode cX12_lower 28 = .ok (.aload_n 0, 1) := by decide +kernel
theorem dX12_lower_29 : decode cX12_lower 29 = .ok (.getfield 113, 3) := by decide +kernel
theorem dX12_lower_32 : decode cX12_lower 32 = .ok (.iload_n 3, 1) := by decide +kernel
theorem dX12_lower_33 : decode cX12_lower 33 = .ok (.ldc_w 267, 3) := by decide +kernel
theorem dX12_lower_36 : decode cX12_lower 36 = .ok (.iastore, 1) := by decide +kernel
theorem dX12_lower_37 : decode cX12_lower 37 = .ok (.iinc 3 1, 3) := by decide +kernel
theorem dX12_lower_40 : decode cX12_lower 40 = .ok (.goto (-27), 3) := by decide +kernel
theorem dX12_lower_43 : decode cX12_lower 43 = .ok (.iconst 0, 1) := by decide +kernel
theorem dX12_lower_44 : decode cX12_lower 44 = .ok (.istore_n 3, 1) := by decide +kernel
theorem dX12_lower_45 : decode cX12_lower 45 = .ok (.iconst 0, 1) := by decide +kernel
theorem dX12_lower_46 : decode cX12_lower 46 = .ok (.istore 4, 2) := by decide +kernel
theorem dX12_lower_48 : decode cX12_lower 48 = .ok (.iload 4, 2) := by decide +kernel
theorem dX12_lower_50 : decode cX12_lower 50 = .ok (.iconst 2, 1) := by decide +kernel
theorem dX12_lower_51 : decode cX12_lower 51 = .ok (.if_icmp .ge 177, 3) := by decide +kernel
theorem dX12_lower_54 : decode cX12_lower 54 = .ok (.iconst 0, 1) := by decide +kernel
theorem dX12_lower_55 : decode cX12_lower 55 = .ok (.istore 5, 2) := by decide +kernel
theorem dX12_lower_57 : decode cX12_lower 57 = .ok (.iload 5, 2) := by decide +kernel
theorem dX12_lower_59 : decode cX12_lower 59 = .ok (.sipush 4096, 3) := by decide +kernel
theorem dX12_lower_62 : decode cX12_lower 62 = .ok (.if_icmp .ge 160, 3) := by decide +kernel
theorem dX12_lower_65 : decode cX12_lower 65 = .ok (.aload_n 0, 1) := by decide +kernel
theorem dX12_lower_66 : decode cX12_lower 66 = .ok (.getfield 76, 3) := by decide +kernel
theorem dX12_lower_69 : decode cX12_lower 69 = .ok (.iload_n 2, 1) := by decide +kernel
theorem dX12_lower_70 : decode cX12_lower 70 = .ok (.iload 5, 2) := by decide +kernel
theorem dX12_lower_72 : decode cX12_lower 72 = .ok (.iadd, 1) := by decide +kernel
theorem dX12_lower_73 : decode cX12_lower 73 = .ok (.iaload, 1) := by decide +kernel
theorem dX12_lower_74 : decode cX12_lower 74 = .ok (.istore 6, 2) := by decide +kernel
theorem dX12_lower_76 : decode cX12_lower 76 = .ok (.iconst 0, 1) := by decide +kernel
theorem dX12_lower_77 : decode cX12_lower 77 = .ok (.istore 7, 2) := by decide +kernel
theorem dX12_lower_79 : decode cX12_lower 79 = .ok (.iload 7, 2) := by decide +kernel
theorem dX12_lower_81 : decode cX12_lower 81 = .ok (.iconst 2, 1) := by decide +kernel
theorem dX12_lower_82 : decode cX12_lower 82 = .ok (.if_icmp .ge 134, 3) := by decide +kernel
theorem dX12_lower_85 : decode cX12_lower 85 = .ok (.iload 6, 2) := by decide +kernel
theorem dX12_lower_87 : decode cX12_lower 87 = .ok (.iconst (-1), 1) := by decide +kernel
theorem dX12_lower_88 : decode cX12_lower 88 = .ok (.if_icmp .eq 128, 3) := by decide +kernel
theorem dX12_lower_91 : decode cX12_lower 91 = .ok (.aload_n 0, 1) := by decide +kernel
theorem dX12_lower_92 : decode cX12_lower 92 = .ok (.iload 7, 2) := by decide +kernel
theorem dX12_lower_94 : decode cX12_lower 94 = .ok (.ifCond .ne 12, 3) := by decide +kernel
theorem dX12_lower_97 : decode cX12_lower 97 = .ok (.aload_n 0, 1) := by decide +kernel
theorem dX12_lower_98 : decode cX12_lower 98 = .ok (.getfield 47, 3) := by decide +kernel
theorem dX12_lower_101 : decode cX12_lower 101 = .ok (.iload_n 1, 1) := by decide +kernel
theorem dX12_lower_102 : decode cX12_lower 102 = .ok (.iaload, 1) := by decide +kernel
theorem dX12_lower_103 : decode cX12_lower 103 = .ok (.goto 9, 3) := by decide +kernel
theorem dX12_lower_106 : decode cX12_lower 106 = .ok (.aload_n 0, 1) := by decide +kernel
theorem dX12_lower_107 : decode cX12_lower 107 = .ok (.getfield 50, 3) := by decide +kernel
theorem dX12_lower_110 : decode cX12_lower 110 = .ok (.iload_n 1, 1) := by decide +kernel
theorem dX12_lower_111 : decode cX12_lower 111 = .ok (.iaload, 1) := by decide +kernel
theorem dX12_lower_112 : decode cX12_lower 112 = .ok (.iload 5, 2) := by decide +kernel
theorem dX12_lower_114 : decode cX12_lower 114 = .ok (.invokevirtual 268, 3) := by decide +kernel
theorem dX12_lower_117 : decode cX12_lower 117 = .ok (.istore 8, 2) := by decide +kernel
theorem dX12_lower_119 : decode cX12_lower 119 = .ok (.iload 8, 2) := by decide +kernel
theorem dX12_lower_121 : decode cX12_lower 121 = .ok (.iconst (-1), 1) := by decide +kernel
theorem dX12_lower_122 : decode cX12_lower 122 = .ok (.if_icmp .ne 6, 3) := by decide +kernel
theorem dX12_lower_125 : decode cX12_lower 125 = .ok (.goto 85, 3) := by decide +kernel
theorem dX12_lower_128 : decode cX12_lower 128 = .ok (.iload 4, 2) := by decide +kernel
theorem dX12_lower_130 : decode cX12_lower 130 = .ok (.ifCond .ne 47, 3) := by decide +kernel
theorem dX12_lower_133 : decode cX12_lower 133 = .ok (.aload_n 0, 1) := by decide +kernel
theorem dX12_lower_134 : decode cX12_lower 134 = .ok (.getfield 113, 3) := by decide +kernel
theorem dX12_lower_137 : decode cX12_lower 137 = .ok (.iload 6, 2) := by decide +kernel
theorem dX12_lower_139 : decode cX12_lower 139 = .ok (.aload_n 0, 1) := by decide +kernel
theorem dX12_lower_140 : decode cX12_lower 140 = .ok (.getfield 86, 3) := by decide +kernel
theorem dX12_lower_143 : decode cX12_lower 143 = .ok (.iload 8, 2) := by decide +kernel
theorem dX12_lower_145 : decode cX12_lower 145 = .ok (.iaload, 1) := by decide +kernel
theorem dX12_lower_146 : decode cX12_lower 146 = .ok (.aload_n 0, 1) := by decide +kernel
theorem dX12_lower_147 : decode cX12_lower 147 = .ok (.getfield 113, 3) := by decide +kernel
theorem dX12_lower_150 : decode cX12_lower 150 = .ok (.iload 6, 2) := by decide +kernel
theorem dX12_lower_152 : decode cX12_lower 152 = .ok (.iaload, 1) := by decide +kernel
theorem dX12_lower_153 : decode cX12_lower 153 = .ok (.if_icmp .ge 13, 3) := by decide +kernel
theorem dX12_lower_156 : decode cX12_lower 156 = .ok (.aload_n 0, 1) := by decide +kernel
theorem dX12_lower_157 : decode cX12_lower 157 = .ok (.getfield 86, 3) := by decide +kernel
theorem dX12_lower_160 : decode cX12_lower 160 = .ok (.iload 8, 2) := by decide +kernel
theorem dX12_lower_162 : decode cX12_lower 162 = .ok (.iaload, 1) := by decide +kernel
theorem dX12_lower_163 : decode cX12_lower 163 = .ok (.goto 10, 3) := by decide +kernel
theorem dX12_lower_166 : decode cX12_lower 166 = .ok (.aload_n 0, 1) := by decide +kernel
theorem dX12_lower_167 : decode cX12_lower 167 = .ok (.getfield 113, 3) := by decide +kernel
theorem dX12_lower_170 : decode cX12_lower 170 = .ok (.iload 6, 2) := by decide +kernel
theorem dX12_lower_172 : decode cX12_lower 172 = .ok (.iaload, 1) := by decide +kernel
theorem dX12_lower_173 : decode cX12_lower 173 = .ok (.iastore, 1) := by decide +kernel
theorem dX12_lower_174 : decode cX12_lower 174 = .ok (.goto 36, 3) := by decide +kernel
theorem dX12_lower_177 : decode cX12_lower 177 = .ok (.aload_n 0, 1) := by decide +kernel
theorem dX12_lower_178 : decode cX12_lower 178 = .ok (.getfield 86, 3) := by decide +kernel
theorem dX12_lower_181 : decode cX12_lower 181 = .ok (.iload 8, 2) := by decide +kernel
theorem dX12_lower_183 : decode cX12_lower 183 = .ok (.iaload, 1) := by decide +kernel
theorem dX12_lower_184 : decode cX12_lower 184 = .ok (.aload_n 0, 1) := by decide +kernel
theorem dX12_lower_185 : decode cX12_lower 185 = .ok (.getfield 113, 3) := by decide +kernel
theorem dX12_lower_188 : decode cX12_lower 188 = .ok (.iload 6, 2) := by decide +kernel
theorem dX12_lower_190 : decode cX12_lower 190 = .ok (.iaload, 1) := by decide +kernel
theorem dX12_lower_191 : decode cX12_lower 191 = .ok (.if_icmp .le 19, 3) := by decide +kernel
theorem dX12_lower_194 : decode cX12_lower 194 = .ok (.aload_n 0, 1) := by decide +kernel
theorem dX12_lower_195 : decode cX12_lower 195 = .ok (.getfield 86, 3) := by decide +kernel
theorem dX12_lower_198 : decode cX12_lower 198 = .ok (.iload 8, 2) := by decide +kernel
theorem dX12_lower_200 : decode cX12_lower 200 = .ok (.aload_n 0, 1) := by decide +kernel
theorem dX12_lower_201 : decode cX12_lower 201 = .ok (.getfield 113, 3) := by decide +kernel
theorem dX12_lower_204 : decode cX12_lower 204 = .ok (.iload 6, 2) := by decide +kernel
theorem dX12_lower_206 : decode cX12_lower 206 = .ok (.iaload, 1) := by decide +kernel
theorem dX12_lower_207 : decode cX12_lower 207 = .ok (.iastore, 1) := by decide +kernel
theorem dX12_lower_208 : decode cX12_lower 208 = .ok (.iconst 1, 1) := by decide +kernel
theorem dX12_lower_209 : decode cX12_lower 209 = .ok (.istore_n 3, 1) := by decide +kernel
theorem dX12_lower_210 : decode cX12_lower 210 = .ok (.iinc 7 1, 3) := by decide +kernel
theorem dX12_lower_213 : decode cX12_lower 213 = .ok (.goto (-134), 3) := by decide +kernel
theorem dX12_lower_216 : decode cX12_lower 216 = .ok (.iinc 5 1, 3) := by decide +kernel
theorem dX12_lower_219 : decode cX12_lower 219 = .ok (.goto (-162), 3) := by decide +kernel
theorem dX12_lower_222 : decode cX12_lower 222 = .ok (.iinc 4 1, 3) := by decide +kernel
theorem dX12_lower_225 : decode cX12_lower 225 = .ok (.goto (-177), 3) := by decide +kernel
theorem dX12_lower_228 : decode cX12_lower 228 = .ok (.iload_n 3, 1) := by decide +kernel
theorem dX12_lower_229 : decode cX12_lower 229 = .ok (.ireturn, 1) := by decide +kernel
theorem dX12_findNets_0 : decode cX12_findNets 0 = .ok (.aload_n 0, 1) := by decide +kernel
theorem dX12_findNets_1 : decode cX12_findNets 1 = .ok (.iconst 0, 1) := by decide +kernel
theorem dX12_findNets_2 : decode cX12_findNets 2 = .ok (.putfield 271, 3) := by decide +kernel
theorem dX12_findNets_5 : decode cX12_findNets 5 = .ok (.iconst 0, 1) := by decide +kernel
theorem dX12_findNets_6 : decode cX12_findNets 6 = .ok (.istore_n 1, 1) := by decide +kernel
theorem dX12_findNets_7 : decode cX12_findNets 7 = .ok (.iload_n 1, 1) := by decide +kernel
theorem dX12_findNets_8 : decode cX12_findNets 8 = .ok (.aload_n 0, 1) := by decide +kernel
theorem dX12_findNets_9 : decode cX12_findNets 9 = .ok (.getfield 246, 3) := by decide +kernel
theorem dX12_findNets_12 : decode cX12_findNets 12 = .ok (.if_icmp .ge 39, 3) := by decide +kernel
theorem dX12_findNets_15 : decode cX12_findNets 15 = .ok (.aload_n 0, 1) := by decide +kernel
theorem dX12_findNets_16 : decode cX12_findNets 16 = .ok (.getfield 82, 3) := by decide +kernel
theorem dX12_findNets_19 : decode cX12_findNets 19 = .ok (.iload_n 1, 1) := by decide +kernel
theorem dX12_findNets_20 : decode cX12_findNets 20 = .ok (.aload_n 0, 1) := by decide +kernel
theorem dX12_findNets_21 : decode cX12_findNets 21 = .ok (.getfield 271, 3) := by decide +kernel
theorem dX12_findNets_24 : decode cX12_findNets 24 = .ok (.iastore, 1) := by decide +kernel
theorem dX12_findNets_25 : decode cX12_findNets 25 = .ok (.aload_n 0, 1) := by decide +kernel
theorem dX12_findNets_26 : decode cX12_findNets 26 = .ok (.dup, 1) := by decide +kernel
theorem dX12_findNets_27 : decode cX12_findNets 27 = .ok (.getfield 271, 3) := by decide +kernel
theorem dX12_findNets_30 : decode cX12_findNets 30 = .ok (.aload_n 0, 1) := by decide +kernel
theorem dX12_findNets_31 : decode cX12_findNets 31 = .ok (.getfield 79, 3) := by decide +kernel
theorem dX12_findNets_34 : decode cX12_findNets 34 = .ok (.aload_n 0, 1) := by decide +kernel
theorem dX12_findNets_35 : decode cX12_findNets 35 = .ok (.getfield 44, 3) := by decide +kernel
theorem dX12_findNets_38 : decode cX12_findNets 38 = .ok (.iload_n 1, 1) := by decide +kernel
theorem dX12_findNets_39 : decode cX12_findNets 39 = .ok (.iaload, 1) := by decide +kernel
theorem dX12_findNets_40 : decode cX12_findNets 40 = .ok (.iaload, 1) := by decide +kernel
theorem dX12_findNets_41 : decode cX12_findNets 41 = .ok (.iadd, 1) := by decide +kernel
theorem dX12_findNets_42 : decode cX12_findNets 42 = .ok (.putfield 271, 3) := by decide +kernel
theorem dX12_findNets_45 : decode cX12_findNets 45 = .ok (.iinc 1 1, 3) := by decide +kernel
theorem dX12_findNets_48 : decode cX12_findNets 48 = .ok (.goto (-41), 3) := by decide +kernel
theorem dX12_findNets_51 : decode cX12_findNets 51 = .ok (.iconst 0, 1) := by decide +kernel
theorem dX12_findNets_52 : decode cX12_findNets 52 = .ok (.istore_n 1, 1) := by decide +kernel
theorem dX12_findNets_53 : decode cX12_findNets 53 = .ok (.iload_n 1, 1) := by decide +kernel
theorem dX12_findNets_54 : decode cX12_findNets 54 = .ok (.aload_n 0, 1) := by decide +kernel
theorem dX12_findNets_55 : decode cX12_findNets 55 = .ok (.getfield 271, 3) := by decide +kernel
theorem dX12_findNets_58 : decode cX12_findNets 58 = .ok (.if_icmp .ge 16, 3) := by decide +kernel
theorem dX12_findNets_61 : decode cX12_findNets 61 = .ok (.aload_n 0, 1) := by decide +kernel
theorem dX12_findNets_62 : decode cX12_findNets 62 = .ok (.getfield 86, 3) := by decide +kernel
theorem dX12_findNets_65 : decode cX12_findNets 65 = .ok (.iload_n 1, 1) := by decide +kernel
theorem dX12_findNets_66 : decode cX12_findNets 66 = .ok (.iload_n 1, 1) := by decide +kernel
theorem dX12_findNets_67 : decode cX12_findNets 67 = .ok (.iastore, 1) := by decide +kernel
theorem dX12_findNets_68 : decode cX12_findNets 68 = .ok (.iinc 1 1, 3) := by decide +kernel
theorem dX12_findNets_71 : decode cX12_findNets 71 = .ok (.goto (-18), 3) := by decide +kernel
theorem dX12_findNets_74 : decode cX12_findNets 74 = .ok (.iconst 1, 1) := by decide +kernel
theorem dX12_findNets_75 : decode cX12_findNets 75 = .ok (.istore_n 1, 1) := by decide +kernel
theorem dX12_findNets_76 : decode cX12_findNets 76 = .ok (.iload_n 1, 1) := by decide +kernel
theorem dX12_findNets_77 : decode cX12_findNets 77 = .ok (.ifCond .eq 44, 3) := by decide +kernel
theorem dX12_findNets_80 : decode cX12_findNets 80 = .ok (.iconst 0, 1) := by decide +kernel
theorem dX12_findNets_81 : decode cX12_findNets 81 = .ok (.istore_n 1, 1) := by decide +kernel
theorem dX12_findNets_82 : decode cX12_findNets 82 = .ok (.iconst 0, 1) := by decide +kernel
theorem dX12_findNets_83 : decode cX12_findNets 83 = .ok (.istore_n 2, 1) := by decide +kernel
theorem dX12_findNets_84 : decode cX12_findNets 84 = .ok (.iload_n 2, 1) := by decide +kernel
theorem dX12_findNets_85 : decode cX12_findNets 85 = .ok (.aload_n 0, 1) := by decide +kernel
theorem dX12_findNets_86 : decode cX12_findNets 86 = .ok (.getfield 249, 3) := by decide +kernel
theorem dX12_findNets_89 : decode cX12_findNets 89 = .ok (.if_icmp .ge 29, 3) := by decide +kernel
theorem dX12_findNets_92 : decode cX12_findNets 92 = .ok (.aload_n 0, 1) := by decide +kernel
theorem dX12_findNets_93 : decode cX12_findNets 93 = .ok (.iload_n 2, 1) := by decide +kernel
theorem dX12_findNets_94 : decode cX12_findNets 94 = .ok (.invokevirtual 274, 3) := by decide +kernel
theorem dX12_findNets_97 : decode cX12_findNets 97 = .ok (.istore_n 3, 1) := by decide +kernel
theorem dX12_findNets_98 : decode cX12_findNets 98 = .ok (.iload_n 1, 1) := by decide +kernel
theorem dX12_findNets_99 : decode cX12_findNets 99 = .ok (.ifCond .ne 7, 3) := by decide +kernel
theorem dX12_findNets_102 : decode cX12_findNets 102 = .ok (.iload_n 3, 1) := by decide +kernel
theorem dX12_findNets_103 : decode cX12_findNets 103 = .ok (.ifCond .eq 7, 3) := by decide +kernel
theorem dX12_findNets_106 : decode cX12_findNets 106 = .ok (.iconst 1, 1) := by decide +kernel
theorem dX12_findNets_107 : decode cX12_findNets 107 = .ok (.goto 4, 3) := by decide +kernel
theorem dX12_findNets_110 : decode cX12_findNets 110 = .ok (.iconst 0, 1) := by decide +kernel
theorem dX12_findNets_111 : decode cX12_findNets 111 = .ok (.istore_n 1, 1) := by decide +kernel
theorem dX12_findNets_112 : decode cX12_findNets 112 = .ok (.iinc 2 1, 3) := by decide +kernel
theorem dX12_findNets_115 : decode cX12_findNets 115 = .ok (.goto (-31), 3) := by decide +kernel
theorem dX12_findNets_118 : decode cX12_findNets 118 = .ok (.goto (-42), 3) := by decide +kernel
theorem dX12_findNets_121 : decode cX12_findNets 121 = .ok (.aload_n 0, 1) := by decide +kernel
theorem dX12_findNets_122 : decode cX12_findNets 122 = .ok (.iconst 0, 1) := by decide +kernel
theorem dX12_findNets_123 : decode cX12_findNets 123 = .ok (.putfield 277, 3) := by decide +kernel
theorem dX12_findNets_126 : decode cX12_findNets 126 = .ok (.iconst 0, 1) := by decide +kernel
theorem dX12_findNets_127 : decode cX12_findNets 127 = .ok (.istore_n 2, 1) := by decide +kernel
theorem dX12_findNets_128 : decode cX12_findNets 128 = .ok (.iload_n 2, 1) := by decide +kernel
theorem dX12_findNets_129 : decode cX12_findNets 129 = .ok (.aload_n 0, 1) := by decide +kernel
theorem dX12_findNets_130 : decode cX12_findNets 130 = .ok (.getfield 271, 3) := by decide +kernel
theorem dX12_findNets_133 : decode cX12_findNets 133 = .ok (.if_icmp .ge 59, 3) := by decide +kernel
theorem dX12_findNets_136 : decode cX12_findNets 136 = .ok (.aload_n 0, 1) := by decide +kernel
theorem dX12_findNets_137 : decode cX12_findNets 137 = .ok (.getfield 86, 3) := by decide +kernel
theorem dX12_findNets_140 : decode cX12_findNets 140 = .ok (.iload_n 2, 1) := by decide +kernel
theorem dX12_findNets_141 : decode cX12_findNets 141 = .ok (.iaload, 1) := by decide +kernel
theorem dX12_findNets_142 : decode cX12_findNets 142 = .ok (.iload_n 2, 1) := by decide +kernel
theorem dX12_findNets_143 : decode cX12_findNets 143 = .ok (.if_icmp .ne 26, 3) := by decide +kernel
theorem dX12_findNets_146 : decode cX12_findNets 146 = .ok (.aload_n 0, 1) := by decide +kernel
theorem dX12_findNets_147 : decode cX12_findNets 147 = .ok (.getfield 89, 3) := by decide +kernel
theorem dX12_findNets_150 : decode cX12_findNets 150 = .ok (.iload_n 2, 1) := by decide +kernel
theorem dX12_findNets_151 : decode cX12_findNets 151 = .ok (.aload_n 0, 1) := by decide +kernel
theorem dX12_findNets_152 : decode cX12_findNets 152 = .ok (.getfield 277, 3) := by decide +kernel
theorem dX12_findNets_155 : decode cX12_findNets 155 = .ok (.iastore, 1) := by decide +kernel
theorem dX12_findNets_156 : decode cX12_findNets 156 = .ok (.aload_n 0, 1) := by decide +kernel
theorem dX12_findNets_157 : decode cX12_findNets 157 = .ok (.dup, 1) := by decide +kernel
theorem dX12_findNets_158 : decode cX12_findNets 158 = .ok (.getfield 277, 3) := by decide +kernel
theorem dX12_findNets_161 : decode cX12_findNets 161 = .ok (.iconst 1, 1) := by decide +kernel
theorem dX12_findNets_162 : decode cX12_findNets 162 = .ok (.iadd, 1) := by decide +kernel
theorem dX12_findNets_163 : decode cX12_findNets 163 = .ok (.putfield 277, 3) := by decide +kernel
theorem dX12_findNets_166 : decode cX12_findNets 166 = .ok (.goto 20, 3) := by decide +kernel
theorem dX12_findNets_169 : decode cX12_findNets 169 = .ok (.aload_n 0, 1) := by decide +kernel
theorem dX12_findNets_170 : decode cX12_findNets 170 = .ok (.getfield 89, 3) := by decide +kernel
theorem dX12_findNets_173 : decode cX12_findNets 173 = .ok (.iload_n 2, 1) := by decide +kernel
theorem dX12_findNets_174 : decode cX12_findNets 174 = .ok (.aload_n 0, 1) := by decide +kernel
theorem dX12_findNets_175 : decode cX12_findNets 175 = .ok (.getfield 89, 3) := by decide +kernel
theorem dX12_findNets_178 : decode cX12_findNets 178 = .ok (.aload_n 0, 1) := by decide +kernel
theorem dX12_findNets_179 : decode cX12_findNets 179 = .ok (.getfield 86, 3) := by decide +kernel
theorem dX12_findNets_182 : decode cX12_findNets 182 = .ok (.iload_n 2, 1) := by decide +kernel
theorem dX12_findNets_183 : decode cX12_findNets 183 = .ok (.iaload, 1) := by decide +kernel
theorem dX12_findNets_184 : decode cX12_findNets 184 = .ok (.iaload, 1) := by decide +kernel
theorem dX12_findNets_185 : decode cX12_findNets 185 = .ok (.iastore, 1) := by decide +kernel
theorem dX12_findNets_186 : decode cX12_findNets 186 = .ok (.iinc 2 1, 3) := by decide +kernel
theorem dX12_findNets_189 : decode cX12_findNets 189 = .ok (.goto (-61), 3) := by decide +kernel
theorem dX12_findNets_192 : decode cX12_findNets 192 = .ok (.return_, 1) := by decide +kernel
theorem dX12_touch_0 : decode cX12_touch 0 = .ok (.sipush 4096, 3) := by decide +kernel
theorem dX12_touch_3 : decode cX12_touch 3 = .ok (.aload_n 0, 1) := by decide +kernel
theorem dX12_touch_4 : decode cX12_touch 4 = .ok (.getfield 44, 3) := by decide +kernel
theorem dX12_touch_7 : decode cX12_touch 7 = .ok (.iload_n 1, 1) := by decide +kernel
theorem dX12_touch_8 : decode cX12_touch 8 = .ok (.iaload, 1) := by decide +kernel
theorem dX12_touch_9 : decode cX12_touch 9 = .ok (.imul, 1) := by decide +kernel
theorem dX12_touch_10 : decode cX12_touch 10 = .ok (.istore 4, 2) := by decide +kernel
theorem dX12_touch_12 : decode cX12_touch 12 = .ok (.iconst 0, 1) := by decide +kernel
theorem dX12_touch_13 : decode cX12_touch 13 = .ok (.istore 5, 2) := by decide +kernel
theorem dX12_touch_15 : decode cX12_touch 15 = .ok (.iload 5, 2) := by decide +kernel
theorem dX12_touch_17 : decode cX12_touch 17 = .ok (.aload_n 0, 1) := by decide +kernel
theorem dX12_touch_18 : decode cX12_touch 18 = .ok (.getfield 79, 3) := by decide +kernel
theorem dX12_touch_21 : decode cX12_touch 21 = .ok (.aload_n 0, 1) := by decide +kernel
theorem dX12_touch_22 : decode cX12_touch 22 = .ok (.getfield 44, 3) := by decide +kernel
theorem dX12_touch_25 : decode cX12_touch 25 = .ok (.iload_n 1, 1) := by decide +kernel
theorem dX12_touch_26 : decode cX12_touch 26 = .ok (.iaload, 1) := by decide +kernel
theorem dX12_touch_27 : decode cX12_touch 27 = .ok (.iaload, 1) := by decide +kernel
theorem dX12_touch_28 : decode cX12_touch 28 = .ok (.if_icmp .ge 17, 3) := by decide +kernel
theorem dX12_touch_31 : decode cX12_touch 31 = .ok (.aload_n 0, 1) := by decide +kernel
theorem dX12_touch_32 : decode cX12_touch 32 = .ok (.getfield 116, 3) := by decide +kernel
theorem dX12_touch_35 : decode cX12_touch 35 = .ok (.iload 5, 2) := by decide +kernel
theorem dX12_touch_37 : decode cX12_touch 37 = .ok (.iconst 0, 1) := by decide +kernel
theorem dX12_touch_38 : decode cX12_touch 38 = .ok (.bastore, 1) := by decide +kernel
theorem dX12_touch_39 : decode cX12_touch 39 = .ok (.iinc 5 1, 3) := by decide +kernel
theorem dX12_touch_42 : decode cX12_touch 42 = .ok (.goto (-27), 3) := by decide +kernel
theorem dX12_touch_45 : decode cX12_touch 45 = .ok (.iconst 0, 1) := by decide +kernel
theorem dX12_touch_46 : decode cX12_touch 46 = .ok (.istore 5, 2) := by decide +kernel
theorem dX12_touch_48 : decode cX12_touch 48 = .ok (.iload 5, 2) := by decide +kernel
theorem dX12_touch_50 : decode cX12_touch 50 = .ok (.sipush 4096, 3) := by decide +kernel
theorem dX12_touch_53 : decode cX12_touch 53 = .ok (.if_icmp .ge 119, 3) := by decide +kernel
theorem dX12_touch_56 : decode cX12_touch 56 = .ok (.aload_n 0, 1) := by decide +kernel
theorem dX12_touch_57 : decode cX12_touch 57 = .ok (.getfield 76, 3) := by decide +kernel
theorem dX12_touch_60 : decode cX12_touch 60 = .ok (.sipush 4096, 3) := by decide +kernel
theorem dX12_touch_63 : decode cX12_touch 63 = .ok (.iload_n 2, 1) := by decide +kernel
theorem dX12_touch_64 : decode cX12_touch 64 = .ok (.imul, 1) := by decide +kernel
theorem dX12_touch_65 : decode cX12_touch 65 = .ok (.iload 5, 2) := by decide +kernel
theorem dX12_touch_67 : decode cX12_touch 67 = .ok (.iadd, 1) := by decide +kernel
theorem dX12_touch_68 : decode cX12_touch 68 = .ok (.iaload, 1) := by decide +kernel
theorem dX12_touch_69 : decode cX12_touch 69 = .ok (.iload_n 3, 1) := by decide +kernel
theorem dX12_touch_70 : decode cX12_touch 70 = .ok (.if_icmp .eq 6, 3) := by decide +kernel
theorem dX12_touch_73 : decode cX12_touch 73 = .ok (.goto 93, 3) := by decide +kernel
theorem dX12_touch_76 : decode cX12_touch 76 = .ok (.aload_n 0, 1) := by decide +kernel
theorem dX12_touch_77 : decode cX12_touch 77 = .ok (.getfield 76, 3) := by decide +kernel
theorem dX12_touch_80 : decode cX12_touch 80 = .ok (.iload 4, 2) := by decide +kernel
theorem dX12_touch_82 : decode cX12_touch 82 = .ok (.iload 5, 2) := by decide +kernel
theorem dX12_touch_84 : decode cX12_touch 84 = .ok (.iadd, 1) := by decide +kernel
theorem dX12_touch_85 : decode cX12_touch 85 = .ok (.iaload, 1) := by decide +kernel
theorem dX12_touch_86 : decode cX12_touch 86 = .ok (.iconst (-1), 1) := by decide +kernel
theorem dX12_touch_87 : decode cX12_touch 87 = .ok (.if_icmp .eq 19, 3) := by decide +kernel
theorem dX12_touch_90 : decode cX12_touch 90 = .ok (.aload_n 0, 1) := by decide +kernel
theorem dX12_touch_91 : decode cX12_touch 91 = .ok (.getfield 116, 3) := by decide +kernel
theorem dX12_touch_94 : decode cX12_touch 94 = .ok (.aload_n 0, 1) := by decide +kernel
theorem dX12_touch_95 : decode cX12_touch 95 = .ok (.getfield 76, 3) := by decide +kernel
theorem dX12_touch_98 : decode cX12_touch 98 = .ok (.iload 4, 2) := by decide +kernel
theorem dX12_touch_100 : decode cX12_touch 100 = .ok (.iload 5, 2) := by decide +kernel
theorem dX12_touch_102 : decode cX12_touch 102 = .ok (.iadd, 1) := by decide +kernel
theorem dX12_touch_103 : decode cX12_touch 103 = .ok (.iaload, 1) := by decide +kernel
theorem dX12_touch_104 : decode cX12_touch 104 = .ok (.iconst 1, 1) := by decide +kernel
theorem dX12_touch_105 : decode cX12_touch 105 = .ok (.bastore, 1) := by decide +kernel
theorem dX12_touch_106 : decode cX12_touch 106 = .ok (.iconst 0, 1) := by decide +kernel
theorem dX12_touch_107 : decode cX12_touch 107 = .ok (.istore 6, 2) := by decide +kernel
theorem dX12_touch_109 : decode cX12_touch 109 = .ok (.iload 6, 2) := by decide +kernel
theorem dX12_touch_111 : decode cX12_touch 111 = .ok (.iconst 4, 1) := by decide +kernel
theorem dX12_touch_112 : decode cX12_touch 112 = .ok (.if_icmp .ge 54, 3) := by decide +kernel
theorem dX12_touch_115 : decode cX12_touch 115 = .ok (.iload 5, 2) := by decide +kernel
theorem dX12_touch_117 : decode cX12_touch 117 = .ok (.iload 6, 2) := by decide +kernel
theorem dX12_touch_119 : decode cX12_touch 119 = .ok (.invokestatic 259, 3) := by decide +kernel
theorem dX12_touch_122 : decode cX12_touch 122 = .ok (.istore 7, 2) := by decide +kernel
theorem dX12_touch_124 : decode cX12_touch 124 = .ok (.iload 7, 2) := by decide +kernel
theorem dX12_touch_126 : decode cX12_touch 126 = .ok (.iconst (-1), 1) := by decide +kernel
theorem dX12_touch_127 : decode cX12_touch 127 = .ok (.if_icmp .eq 33, 3) := by decide +kernel
theorem dX12_touch_130 : decode cX12_touch 130 = .ok (.aload_n 0, 1) := by decide +kernel
theorem dX12_touch_131 : decode cX12_touch 131 = .ok (.getfield 76, 3) := by decide +kernel
theorem dX12_touch_134 : decode cX12_touch 134 = .ok (.iload 4, 2) := by decide +kernel
theorem dX12_touch_136 : decode cX12_touch 136 = .ok (.iload 7, 2) := by decide +kernel
theorem dX12_touch_138 : decode cX12_touch 138 = .ok (.iadd, 1) := by decide +kernel
theorem dX12_touch_139 : decode cX12_touch 139 = .ok (.iaload, 1) := by decide +kernel
theorem dX12_touch_140 : decode cX12_touch 140 = .ok (.iconst (-1), 1) := by decide +kernel
theorem dX12_touch_141 : decode cX12_touch 141 = .ok (.if_icmp .eq 19, 3) := by decide +kernel
theorem dX12_touch_144 : decode cX12_touch 144 = .ok (.aload_n 0, 1) := by decide +kernel
theorem dX12_touch_145 : decode cX12_touch 145 = .ok (.getfield 116, 3) := by decide +kernel
theorem dX12_touch_148 : decode cX12_touch 148 = .ok (.aload_n 0, 1) := by decide +kernel
theorem dX12_touch_149 : decode cX12_touch 149 = .ok (.getfield 76, 3) := by decide +kernel
theorem dX12_touch_152 : decode cX12_touch 152 = .ok (.iload 4, 2) := by decide +kernel
theorem dX12_touch_154 : decode cX12_touch 154 = .ok (.iload 7, 2) := by decide +kernel
theorem dX12_touch_156 : decode cX12_touch 156 = .ok (.iadd, 1) := by decide +kernel
theorem dX12_touch_157 : decode cX12_touch 157 = .ok (.iaload, 1) := by decide +kernel
theorem dX12_touch_158 : decode cX12_touch 158 = .ok (.iconst 1, 1) := by decide +kernel
theorem dX12_touch_159 : decode cX12_touch 159 = .ok (.bastore, 1) := by decide +kernel
theorem dX12_touch_160 : decode cX12_touch 160 = .ok (.iinc 6 1, 3) := by decide +kernel
theorem dX12_touch_163 : decode cX12_touch 163 = .ok (.goto (-54), 3) := by decide +kernel
theorem dX12_touch_166 : decode cX12_touch 166 = .ok (.iinc 5 1, 3) := by decide +kernel
theorem dX12_touch_169 : decode cX12_touch 169 = .ok (.goto (-121), 3) := by decide +kernel
theorem dX12_touch_172 : decode cX12_touch 172 = .ok (.return_, 1) := by decide +kernel
theorem dX12_isHad_0 : decode cX12_isHad 0 = .ok (.iconst 0, 1) := by decide +kernel
theorem dX12_isHad_1 : decode cX12_isHad 1 = .ok (.istore 4, 2) := by decide +kernel
theorem dX12_isHad_3 : decode cX12_isHad 3 = .ok (.iconst 0, 1) := by decide +kernel
theorem dX12_isHad_4 : decode cX12_isHad 4 = .ok (.istore 5, 2) := by decide +kernel
theorem dX12_isHad_6 : decode cX12_isHad 6 = .ok (.iload 5, 2) := by decide +kernel
theorem dX12_isHad_8 : decode cX12_isHad 8 = .ok (.iload_n 2, 1) := by decide +kernel
theorem dX12_isHad_9 : decode cX12_isHad 9 = .ok (.if_icmp .ge 36, 3) := by decide +kernel
theorem dX12_isHad_12 : decode cX12_isHad 12 = .ok (.iload 4, 2) := by decide +kernel
theorem dX12_isHad_14 : decode cX12_isHad 14 = .ok (.ifCond .ne 18, 3) := by decide +kernel
theorem dX12_isHad_17 : decode cX12_isHad 17 = .ok (.aload_n 0, 1) := by decide +kernel
theorem dX12_isHad_18 : decode cX12_isHad 18 = .ok (.getfield 104, 3) := by decide +kernel
theorem dX12_isHad_21 : decode cX12_isHad 21 = .ok (.iconst 4, 1) := by decide +kernel
theorem dX12_isHad_22 : decode cX12_isHad 22 = .ok (.iload_n 1, 1) := by decide +kernel
theorem dX12_isHad_23 : decode cX12_isHad 23 = .ok (.imul, 1) := by decide +kernel
theorem dX12_isHad_24 : decode cX12_isHad 24 = .ok (.iload 5, 2) := by decide +kernel
theorem dX12_isHad_26 : decode cX12_isHad 26 = .ok (.iadd, 1) := by decide +kernel
theorem dX12_isHad_27 : decode cX12_isHad 27 = .ok (.iaload, 1) := by decide +kernel
theorem dX12_isHad_28 : decode cX12_isHad 28 = .ok (.iload_n 3, 1) := by decide +kernel
theorem dX12_isHad_29 : decode cX12_isHad 29 = .ok (.if_icmp .ne 7, 3) := by decide +kernel
theorem dX12_isHad_32 : decode cX12_isHad 32 = .ok (.iconst 1, 1) := by decide +kernel
theorem dX12_isHad_33 : decode cX12_isHad 33 = .ok (.goto 4, 3) := by decide +kernel
theorem dX12_isHad_36 : decode cX12_isHad 36 = .ok (.iconst 0, 1) := by decide +kernel
theorem dX12_isHad_37 : decode cX12_isHad 37 = .ok (.istore 4, 2) := by decide +kernel
theorem dX12_isHad_39 : decode cX12_isHad 39 = .ok (.iinc 5 1, 3) := by decide +kernel
theorem dX12_isHad_42 : decode cX12_isHad 42 = .ok (.goto (-36), 3) := by decide +kernel
theorem dX12_isHad_45 : decode cX12_isHad 45 = .ok (.iload 4, 2) := by decide +kernel
theorem dX12_isHad_47 : decode cX12_isHad 47 = .ok (.ireturn, 1) := by decide +kernel
theorem dX12_findPins_0 : decode cX12_findPins 0 = .ok (.aload_n 0, 1) := by decide +kernel
theorem dX12_findPins_1 : decode cX12_findPins 1 = .ok (.getfield 59, 3) := by decide +kernel
theorem dX12_findPins_4 : decode cX12_findPins 4 = .ok (.iload_n 2, 1) := by decide +kernel
theorem dX12_findPins_5 : decode cX12_findPins 5 = .ok (.iaload, 1) := by decide +kernel
theorem dX12_findPins_6 : decode cX12_findPins 6 = .ok (.istore 4, 2) := by decide +kernel
theorem dX12_findPins_8 : decode cX12_findPins 8 = .ok (.iconst 0, 1) := by decide +kernel
theorem dX12_findPins_9 : decode cX12_findPins 9 = .ok (.istore 5, 2) := by decide +kernel
theorem dX12_findPins_11 : decode cX12_findPins 11 = .ok (.iload 5, 2) := by decide +kernel
theorem dX12_findPins_13 : decode cX12_findPins 13 = .ok (.aload_n 0, 1) := by decide +kernel
theorem dX12_findPins_14 : decode cX12_findPins 14 = .ok (.getfield 62, 3) := by decide +kernel
theorem dX12_findPins_17 : decode cX12_findPins 17 = .ok (.iload_n 2, 1) := by decide +kernel
theorem dX12_findPins_18 : decode cX12_findPins 18 = .ok (.iaload, 1) := by decide +kernel
theorem dX12_findPins_19 : decode cX12_findPins 19 = .ok (.if_icmp .ge 147, 3) := by decide +kernel
theorem dX12_findPins_22 : decode cX12_findPins 22 = .ok (.aload_n 0, 1) := by decide +kernel
theorem dX12_findPins_23 : decode cX12_findPins 23 = .ok (.getfield 65, 3) := by decide +kernel
theorem dX12_findPins_26 : decode cX12_findPins 26 = .ok (.iconst 4, 1) := by decide +kernel
theorem dX12_findPins_27 : decode cX12_findPins 27 = .ok (.iload_n 2, 1) := by decide +kernel
theorem dX12_findPins_28 : decode cX12_findPins 28 = .ok (.imul, 1) := by decide +kernel
theorem dX12_findPins_29 : decode cX12_findPins 29 = .ok (.iload 5, 2) := by decide +kernel
theorem dX12_findPins_31 : decode cX12_findPins 31 = .ok (.iadd, 1) := by decide +kernel
theorem dX12_findPins_32 : decode cX12_findPins 32 = .ok (.iaload, 1) := by decide +kernel
theorem dX12_findPins_33 : decode cX12_findPins 33 = .ok (.istore 6, 2) := by decide +kernel
theorem dX12_findPins_35 : decode cX12_findPins 35 = .ok (.aload_n 0, 1) := by decide +kernel
theorem dX12_findPins_36 : decode cX12_findPins 36 = .ok (.iload 6, 2) := by decide +kernel
theorem dX12_findPins_38 : decode cX12_findPins 38 = .ok (.iload 4, 2) := by decide +kernel
theorem dX12_findPins_40 : decode cX12_findPins 40 = .ok (.iload_n 3, 1) := by decide +kernel
theorem dX12_findPins_41 : decode cX12_findPins 41 = .ok (.invokevirtual 280, 3) := by decide +kernel
theorem dX12_findPins_44 : decode cX12_findPins 44 = .ok (.iconst (-1), 1) := by decide +kernel
theorem dX12_findPins_45 : decode cX12_findPins 45 = .ok (.istore 7, 2) := by decide +kernel
theorem dX12_findPins_47 : decode cX12_findPins 47 = .ok (.aload_n 0, 1) := by decide +kernel
theorem dX12_findPins_48 : decode cX12_findPins 48 = .ok (.getfield 79, 3) := by decide +kernel
theorem dX12_findPins_51 : decode cX12_findPins 51 = .ok (.aload_n 0, 1) := by decide +kernel
theorem dX12_findPins_52 : decode cX12_findPins 52 = .ok (.getfield 44, 3) := by decide +kernel
theorem dX12_findPins_55 : decode cX12_findPins 55 = .ok (.iload 6, 2) := by decide +kernel
theorem dX12_findPins_57 : decode cX12_findPins 57 = .ok (.iaload, 1) := by decide +kernel
theorem dX12_findPins_58 : decode cX12_findPins 58 = .ok (.iaload, 1) := by decide +kernel
theorem dX12_findPins_59 : decode cX12_findPins 59 = .ok (.iconst 1, 1) := by decide +kernel
theorem dX12_findPins_60 : decode cX12_findPins 60 = .ok (.isub, 1) := by decide +kernel
theorem dX12_findPins_61 : decode cX12_findPins 61 = .ok (.istore 8, 2) := by decide +kernel
theorem dX12_findPins_63 : decode cX12_findPins 63 = .ok (.iload 8, 2) := by decide +kernel
theorem dX12_findPins_65 : decode cX12_findPins 65 = .ok (.ifCond .lt 56, 3) := by decide +kernel
theorem dX12_findPins_68 : decode cX12_findPins 68 = .ok (.aload_n 0, 1) := by decide +kernel
theorem dX12_findPins_69 : decode cX12_findPins 69 = .ok (.getfield 116, 3) := by decide +kernel
theorem dX12_findPins_72 : decode cX12_findPins 72 = .ok (.iload 8, 2) := by decide +kernel
theorem dX12_findPins_74 : decode cX12_findPins 74 = .ok (.baload, 1) := by decide +kernel
theorem dX12_findPins_75 : decode cX12_findPins 75 = .ok (.ifCond .eq 36, 3) := by decide +kernel
theorem dX12_findPins_78 : decode cX12_findPins 78 = .ok (.aload_n 0, 1) := by decide +kernel
theorem dX12_findPins_79 : decode cX12_findPins 79 = .ok (.iload_n 1, 1) := by decide +kernel
theorem dX12_findPins_80 : decode cX12_findPins 80 = .ok (.iload 5, 2) := by decide +kernel
theorem dX12_findPins_82 : decode cX12_findPins 82 = .ok (.aload_n 0, 1) := by decide +kernel
theorem dX12_findPins_83 : decode cX12_findPins 83 = .ok (.getfield 82, 3) := by decide +kernel
theorem dX12_findPins_86 : decode cX12_findPins 86 = .ok (.iload 6, 2) := by decide +kernel
theorem dX12_findPins_88 : decode cX12_findPins 88 = .ok (.iaload, 1) := by decide +kernel
theorem dX12_findPins_89 : decode cX12_findPins 89 = .ok (.iload 8, 2) := by decide +kernel
theorem dX12_findPins_91 : decode cX12_findPins 91 = .ok (.iadd, 1) := by decide +kernel
theorem dX12_findPins_92 : decode cX12_findPins 92 = .ok (.invokevirtual 283, 3) := by decide +kernel
theorem dX12_findPins_95 : decode cX12_findPins 95 = .ok (.ifCond .ne 16, 3) := by decide +kernel
theorem dX12_findPins_98 : decode cX12_findPins 98 = .ok (.aload_n 0, 1) := by decide +kernel
theorem dX12_findPins_99 : decode cX12_findPins 99 = .ok (.getfield 82, 3) := by decide +kernel
theorem dX12_findPins_102 : decode cX12_findPins 102 = .ok (.iload 6, 2) := by decide +kernel
theorem dX12_findPins_104 : decode cX12_findPins 104 = .ok (.iaload, 1) := by decide +kernel
theorem dX12_findPins_105 : decode cX12_findPins 105 = .ok (.iload 8, 2) := by decide +kernel
theorem dX12_findPins_107 : decode cX12_findPins 107 = .ok (.iadd, 1) := by decide +kernel
theorem dX12_findPins_108 : decode cX12_findPins 108 = .ok (.goto 5, 3) := by decide +kernel
theorem dX12_findPins_111 : decode cX12_findPins 111 = .ok (.iload 7, 2) := by decide +kernel
theorem dX12_findPins_113 : decode cX12_findPins 113 = .ok (.istore 7, 2) := by decide +kernel
theorem dX12_findPins_115 : decode cX12_findPins 115 = .ok (.iinc 8 (-1), 3) := by decide +kernel
theorem dX12_findPins_118 : decode cX12_findPins 118 = .ok (.goto (-55), 3) := by decide +kernel
theorem dX12_findPins_121 : decode cX12_findPins 121 = .ok (.aload_n 0, 1) := by decide +kernel
theorem dX12_findPins_122 : decode cX12_findPins 122 = .ok (.getfield 104, 3) := by decide +kernel
theorem dX12_findPins_125 : decode cX12_findPins 125 = .ok (.iconst 4, 1) := by decide +kernel
theorem dX12_findPins_126 : decode cX12_findPins 126 = .ok (.iload_n 1, 1) := by decide +kernel
theorem dX12_findPins_127 : decode cX12_findPins 127 = .ok (.imul, 1) := by decide +kernel
theorem dX12_findPins_128 : decode cX12_findPins 128 = .ok (.iload 5, 2) := by decide +kernel
theorem dX12_findPins_130 : decode cX12_findPins 130 = .ok (.iadd, 1) := by decide +kernel
theorem dX12_findPins_131 : decode cX12_findPins 131 = .ok (.iload 7, 2) := by decide +kernel
theorem dX12_findPins_133 : decode cX12_findPins 133 = .ok (.iastore, 1) := by decide +kernel
theorem dX12_findPins_134 : decode cX12_findPins 134 = .ok (.aload_n 0, 1) := by decide +kernel
theorem dX12_findPins_135 : decode cX12_findPins 135 = .ok (.getfield 101, 3) := by decide +kernel
theorem dX12_findPins_138 : decode cX12_findPins 138 = .ok (.iload_n 1, 1) := by decide +kernel
theorem dX12_findPins_139 : decode cX12_findPins 139 = .ok (.aload_n 0, 1) := by decide +kernel
theorem dX12_findPins_140 : decode cX12_findPins 140 = .ok (.getfield 101, 3) := by decide +kernel
theorem dX12_findPins_143 : decode cX12_findPins 143 = .ok (.iload_n 1, 1) := by decide +kernel
theorem dX12_findPins_144 : decode cX12_findPins 144 = .ok (.baload, 1) := by decide +kernel
theorem dX12_findPins_145 : decode cX12_findPins 145 = .ok (.ifCond .ne 9, 3) := by decide +kernel
theorem dX12_findPins_148 : decode cX12_findPins 148 = .ok (.iload 7, 2) := by decide +kernel
theorem dX12_findPins_150 : decode cX12_findPins 150 = .ok (.iconst (-1), 1) := by decide +kernel
theorem dX12_findPins_151 : decode cX12_findPins 151 = .ok (.if_icmp .ne 7, 3) := by decide +kernel
theorem dX12_findPins_154 : decode cX12_findPins 154 = .ok (.iconst 1, 1) := by decide +kernel
theorem dX12_findPins_155 : decode cX12_findPins 155 = .ok (.goto 4, 3) := by decide +kernel
theorem dX12_findPins_158 : decode cX12_findPins 158 = .ok (.iconst 0, 1) := by decide +kernel
theorem dX12_findPins_159 : decode cX12_findPins 159 = .ok (.bastore, 1) := by decide +kernel
theorem dX12_findPins_160 : decode cX12_findPins 160 = .ok (.iinc 5 1, 3) := by decide +kernel
theorem dX12_findPins_163 : decode cX12_findPins 163 = .ok (.goto (-152), 3) := by decide +kernel
theorem dX12_findPins_166 : decode cX12_findPins 166 = .ok (.iconst 0, 1) := by decide +kernel
theorem dX12_findPins_167 : decode cX12_findPins 167 = .ok (.istore 5, 2) := by decide +kernel
theorem dX12_findPins_169 : decode cX12_findPins 169 = .ok (.iload 5, 2) := by decide +kernel
theorem dX12_findPins_171 : decode cX12_findPins 171 = .ok (.aload_n 0, 1) := by decide +kernel
theorem dX12_findPins_172 : decode cX12_findPins 172 = .ok (.getfield 62, 3) := by decide +kernel
theorem dX12_findPins_175 : decode cX12_findPins 175 = .ok (.iload_n 2, 1) := by decide +kernel
theorem dX12_findPins_176 : decode cX12_findPins 176 = .ok (.iaload, 1) := by decide +kernel
theorem dX12_findPins_177 : decode cX12_findPins 177 = .ok (.if_icmp .ge 111, 3) := by decide +kernel
theorem dX12_findPins_180 : decode cX12_findPins 180 = .ok (.aload_n 0, 1) := by decide +kernel
theorem dX12_findPins_181 : decode cX12_findPins 181 = .ok (.getfield 65, 3) := by decide +kernel
theorem dX12_findPins_184 : decode cX12_findPins 184 = .ok (.iconst 4, 1) := by decide +kernel
theorem dX12_findPins_185 : decode cX12_findPins 185 = .ok (.iload_n 2, 1) := by decide +kernel
theorem dX12_findPins_186 : decode cX12_findPins 186 = .ok (.imul, 1) := by decide +kernel
theorem dX12_findPins_187 : decode cX12_findPins 187 = .ok (.iload 5, 2) := by decide +kernel
theorem dX12_findPins_189 : decode cX12_findPins 189 = .ok (.iadd, 1) := by decide +kernel
theorem dX12_findPins_190 : decode cX12_findPins 190 = .ok (.iaload, 1) := by decide +kernel
theorem dX12_findPins_191 : decode cX12_findPins 191 = .ok (.istore 6, 2) := by decide +kernel
theorem dX12_findPins_193 : decode cX12_findPins 193 = .ok (.aload_n 0, 1) := by decide +kernel
theorem dX12_findPins_194 : decode cX12_findPins 194 = .ok (.iload 6, 2) := by decide +kernel
theorem dX12_findPins_196 : decode cX12_findPins 196 = .ok (.iload 4, 2) := by decide +kernel
theorem dX12_findPins_198 : decode cX12_findPins 198 = .ok (.iload_n 3, 1) := by decide +kernel
theorem dX12_findPins_199 : decode cX12_findPins 199 = .ok (.invokevirtual 280, 3) := by decide +kernel
theorem dX12_findPins_202 : decode cX12_findPins 202 = .ok (.iconst 0, 1) := by decide +kernel
theorem dX12_findPins_203 : decode cX12_findPins 203 = .ok (.istore 7, 2) := by decide +kernel
theorem dX12_findPins_205 : decode cX12_findPins 205 = .ok (.iload 7, 2) := by decide +kernel
theorem dX12_findPins_207 : decode cX12_findPins 207 = .ok (.aload_n 0, 1) := by decide +kernel
theorem dX12_findPins_208 : decode cX12_findPins 208 = .ok (.getfield 79, 3) := by decide +kernel
theorem dX12_findPins_211 : decode cX12_findPins 211 = .ok (.aload_n 0, 1) := by decide +kernel
theorem dX12_findPins_212 : decode cX12_findPins 212 = .ok (.getfield 44, 3) := by decide +kernel
theorem dX12_findPins_215 : decode cX12_findPins 215 = .ok (.iload 6, 2) := by decide +kernel
theorem dX12_findPins_217 : decode cX12_findPins 217 = .ok (.iaload, 1) := by decide +kernel
theorem dX12_findPins_218 : decode cX12_findPins 218 = .ok (.iaload, 1) := by decide +kernel
theorem dX12_findPins_219 : decode cX12_findPins 219 = .ok (.if_icmp .ge 63, 3) := by decide +kernel
theorem dX12_findPins_222 : decode cX12_findPins 222 = .ok (.aload_n 0, 1) := by decide +kernel
theorem dX12_findPins_223 : decode cX12_findPins 223 = .ok (.getfield 101, 3) := by decide +kernel
theorem dX12_findPins_226 : decode cX12_findPins 226 = .ok (.iload_n 1, 1) := by decide +kernel
theorem dX12_findPins_227 : decode cX12_findPins 227 = .ok (.aload_n 0, 1) := by decide +kernel
theorem dX12_findPins_228 : decode cX12_findPins 228 = .ok (.getfield 101, 3) := by decide +kernel
theorem dX12_findPins_231 : decode cX12_findPins 231 = .ok (.iload_n 1, 1) := by decide +kernel
theorem dX12_findPins_232 : decode cX12_findPins 232 = .ok (.baload, 1) := by decide +kernel
theorem dX12_findPins_233 : decode cX12_findPins 233 = .ok (.ifCond .ne 37, 3) := by decide +kernel
theorem dX12_findPins_236 : decode cX12_findPins 236 = .ok (.aload_n 0, 1) := by decide +kernel
theorem dX12_findPins_237 : decode cX12_findPins 237 = .ok (.getfield 116, 3) := by decide +kernel
theorem dX12_findPins_240 : decode cX12_findPins 240 = .ok (.iload 7, 2) := by decide +kernel
theorem dX12_findPins_242 : decode cX12_findPins 242 = .ok (.baload, 1) := by decide +kernel
theorem dX12_findPins_243 : decode cX12_findPins 243 = .ok (.ifCond .eq 31, 3) := by decide +kernel
theorem dX12_findPins_246 : decode cX12_findPins 246 = .ok (.aload_n 0, 1) := by decide +kernel
theorem dX12_findPins_247 : decode cX12_findPins 247 = .ok (.iload_n 1, 1) := by decide +kernel
theorem dX12_findPins_248 : decode cX12_findPins 248 = .ok (.aload_n 0, 1) := by decide +kernel
theorem dX12_findPins_249 : decode cX12_findPins 249 = .ok (.getfield 62, 3) := by decide +kernel
theorem dX12_findPins_252 : decode cX12_findPins 252 = .ok (.iload_n 2, 1) := by decide +kernel
theorem dX12_findPins_253 : decode cX12_findPins 253 = .ok (.iaload, 1) := by decide +kernel
theorem dX12_findPins_254 : decode cX12_findPins 254 = .ok (.aload_n 0, 1) := by decide +kernel
theorem dX12_findPins_255 : decode cX12_findPins 255 = .ok (.getfield 82, 3) := by decide +kernel
theorem dX12_findPins_258 : decode cX12_findPins 258 = .ok (.iload 6, 2) := by decide +kernel
theorem dX12_findPins_260 : decode cX12_findPins 260 = .ok (.iaload, 1) := by decide +kernel
theorem dX12_findPins_261 : decode cX12_findPins 261 = .ok (.iload 7, 2) := by decide +kernel
theorem dX12_findPins_263 : decode cX12_findPins 263 = .ok (.iadd, 1) := by decide +kernel
theorem dX12_findPins_264 : decode cX12_findPins 264 = .ok (.invokevirtual 283, 3) := by decide +kernel
theorem dX12_findPins_267 : decode cX12_findPins 267 = .ok (.ifCond .ne 7, 3) := by decide +kernel
theorem dX12_findPins_270 : decode cX12_findPins 270 = .ok (.iconst 1, 1) := by decide +kernel
theorem dX12_findPins_271 : decode cX12_findPins 271 = .ok (.goto 4, 3) := by decide +kernel
theorem dX12_findPins_274 : decode cX12_findPins 274 = .ok (.iconst 0, 1) := by decide +kernel
theorem dX12_findPins_275 : decode cX12_findPins 275 = .ok (.bastore, 1) := by decide +kernel
theorem dX12_findPins_276 : decode cX12_findPins 276 = .ok (.iinc 7 1, 3) := by decide +kernel
theorem dX12_findPins_279 : decode cX12_findPins 279 = .ok (.goto (-74), 3) := by decide +kernel
theorem dX12_findPins_282 : decode cX12_findPins 282 = .ok (.iinc 5 1, 3) := by decide +kernel
theorem dX12_findPins_285 : decode cX12_findPins 285 = .ok (.goto (-116), 3) := by decide +kernel
theorem dX12_findPins_288 : decode cX12_findPins 288 = .ok (.return_, 1) := by decide +kernel
theorem dX12_measure_0 : decode cX12_measure 0 = .ok (.sipush 4096, 3) := by decide +kernel
theorem dX12_measure_3 : decode cX12_measure 3 = .ok (.aload_n 0, 1) := by decide +kernel
theorem dX12_measure_4 : decode cX12_measure 4 = .ok (.getfield 59, 3) := by decide +kernel
theorem dX12_measure_7 : decode cX12_measure 7 = .ok (.iload_n 2, 1) := by decide +kernel
theorem dX12_measure_8 : decode cX12_measure 8 = .ok (.iaload, 1) := by decide +kernel
theorem dX12_measure_9 : decode cX12_measure 9 = .ok (.imul, 1) := by decide +kernel
theorem dX12_measure_10 : decode cX12_measure 10 = .ok (.istore 4, 2) := by decide +kernel
theorem dX12_measure_12 : decode cX12_measure 12 = .ok (.aload_n 0, 1) := by decide +kernel
theorem dX12_measure_13 : decode cX12_measure 13 = .ok (.getfield 65, 3) := by decide +kernel
theorem dX12_measure_16 : decode cX12_measure 16 = .ok (.iconst 4, 1) := by decide +kernel
theorem dX12_measure_17 : decode cX12_measure 17 = .ok (.iload_n 2, 1) := by decide +kernel
theorem dX12_measure_18 : decode cX12_measure 18 = .ok (.imul, 1) := by decide +kernel
theorem dX12_measure_19 : decode cX12_measure 19 = .ok (.iaload, 1) := by decide +kernel
theorem dX12_measure_20 : decode cX12_measure 20 = .ok (.istore 5, 2) := by decide +kernel
theorem dX12_measure_22 : decode cX12_measure 22 = .ok (.aload_n 0, 1) := by decide +kernel
theorem dX12_measure_23 : decode cX12_measure 23 = .ok (.getfield 104, 3) := by decide +kernel
theorem dX12_measure_26 : decode cX12_measure 26 = .ok (.iconst 4, 1) := by decide +kernel
theorem dX12_measure_27 : decode cX12_measure 27 = .ok (.iload_n 1, 1) := by decide +kernel
theorem dX12_measure_28 : decode cX12_measure 28 = .ok (.imul, 1) := by decide +kernel
theorem dX12_measure_29 : decode cX12_measure 29 = .ok (.iaload, 1) := by decide +kernel
theorem dX12_measure_30 : decode cX12_measure 30 = .ok (.istore 6, 2) := by decide +kernel
theorem dX12_measure_32 : decode cX12_measure 32 = .ok (.iconst 0, 1) := by decide +kernel
theorem dX12_measure_33 : decode cX12_measure 33 = .ok (.istore 7, 2) := by decide +kernel
theorem dX12_measure_35 : decode cX12_measure 35 = .ok (.iload 7, 2) := by decide +kernel
theorem dX12_measure_37 : decode cX12_measure 37 = .ok (.sipush 4096, 3) := by decide +kernel
theorem dX12_measure_40 : decode cX12_measure 40 = .ok (.if_icmp .ge 190, 3) := by decide +kernel
theorem dX12_measure_43 : decode cX12_measure 43 = .ok (.aload_n 0, 1) := by decide +kernel
theorem dX12_measure_44 : decode cX12_measure 44 = .ok (.getfield 76, 3) := by decide +kernel
theorem dX12_measure_47 : decode cX12_measure 47 = .ok (.iload 4, 2) := by decide +kernel
theorem dX12_measure_49 : decode cX12_measure 49 = .ok (.iload 7, 2) := by decide +kernel
theorem dX12_measure_51 : decode cX12_measure 51 = .ok (.iadd, 1) := by decide +kernel
theorem dX12_measure_52 : decode cX12_measure 52 = .ok (.iaload, 1) := by decide +kernel
theorem dX12_measure_53 : decode cX12_measure 53 = .ok (.iload_n 3, 1) := by decide +kernel
theorem dX12_measure_54 : decode cX12_measure 54 = .ok (.if_icmp .eq 6, 3) := by decide +kernel
theorem dX12_measure_57 : decode cX12_measure 57 = .ok (.goto 167, 3) := by decide +kernel
theorem dX12_measure_60 : decode cX12_measure 60 = .ok (.aload_n 0, 1) := by decide +kernel
theorem dX12_measure_61 : decode cX12_measure 61 = .ok (.getfield 98, 3) := by decide +kernel
theorem dX12_measure_64 : decode cX12_measure 64 = .ok (.iload_n 1, 1) := by decide +kernel
theorem dX12_measure_65 : decode cX12_measure 65 = .ok (.aload_n 0, 1) := by decide +kernel
theorem dX12_measure_66 : decode cX12_measure 66 = .ok (.getfield 107, 3) := by decide +kernel
theorem dX12_measure_69 : decode cX12_measure 69 = .ok (.iconst 3, 1) := by decide +kernel
theorem dX12_measure_70 : decode cX12_measure 70 = .ok (.iload_n 1, 1) := by decide +kernel
theorem dX12_measure_71 : decode cX12_measure 71 = .ok (.imul, 1) := by decide +kernel
theorem dX12_measure_72 : decode cX12_measure 72 = .ok (.laload, 1) := by decide +kernel
theorem dX12_measure_73 : decode cX12_measure 73 = .ok (.lconst 0, 1) := by decide +kernel
theorem dX12_measure_74 : decode cX12_measure 74 = .ok (.lcmp, 1) := by decide +kernel
theorem dX12_measure_75 : decode cX12_measure 75 = .ok (.ifCond .ne 8, 3) := by decide +kernel
theorem dX12_measure_78 : decode cX12_measure 78 = .ok (.iload 7, 2) := by decide +kernel
theorem dX12_measure_80 : decode cX12_measure 80 = .ok (.goto 9, 3) := by decide +kernel
theorem dX12_measure_83 : decode cX12_measure 83 = .ok (.aload_n 0, 1) := by decide +kernel
theorem dX12_measure_84 : decode cX12_measure 84 = .ok (.getfield 98, 3) := by decide +kernel
theorem dX12_measure_87 : decode cX12_measure 87 = .ok (.iload_n 1, 1) := by decide +kernel
theorem dX12_measure_88 : decode cX12_measure 88 = .ok (.iaload, 1) := by decide +kernel
theorem dX12_measure_89 : decode cX12_measure 89 = .ok (.iastore, 1) := by decide +kernel
theorem dX12_measure_90 : decode cX12_measure 90 = .ok (.aload_n 0, 1) := by decide +kernel
theorem dX12_measure_91 : decode cX12_measure 91 = .ok (.getfield 107, 3) := by decide +kernel
theorem dX12_measure_94 : decode cX12_measure 94 = .ok (.iconst 3, 1) := by decide +kernel
theorem dX12_measure_95 : decode cX12_measure 95 = .ok (.iload_n 1, 1) := by decide +kernel
theorem dX12_measure_96 : decode cX12_measure 96 = .ok (.imul, 1) := by decide +kernel
theorem dX12_measure_97 : decode cX12_measure 97 = .ok (.dup2, 1) := by decide +kernel
theorem dX12_measure_98 : decode cX12_measure 98 = .ok (.laload, 1) := by decide +kernel
theorem dX12_measure_99 : decode cX12_measure 99 = .ok (.lconst 1, 1) := by decide +kernel
theorem dX12_measure_100 : decode cX12_measure 100 = .ok (.ladd, 1) := by decide +kernel
theorem dX12_measure_101 : decode cX12_measure 101 = .ok (.lastore, 1) := by decide +kernel
theorem dX12_measure_102 : decode cX12_measure 102 = .ok (.iconst 0, 1) := by decide +kernel
theorem dX12_measure_103 : decode cX12_measure 103 = .ok (.istore 8, 2) := by decide +kernel
theorem dX12_measure_105 : decode cX12_measure 105 = .ok (.iload 8, 2) := by decide +kernel
theorem dX12_measure_107 : decode cX12_measure 107 = .ok (.iconst 4, 1) := by decide +kernel
theorem dX12_measure_108 : decode cX12_measure 108 = .ok (.if_icmp .ge 116, 3) := by decide +kernel
theorem dX12_measure_111 : decode cX12_measure 111 = .ok (.iload 7, 2) := by decide +kernel
theorem dX12_measure_113 : decode cX12_measure 113 = .ok (.iload 8, 2) := by decide +kernel
theorem dX12_measure_115 : decode cX12_measure 115 = .ok (.invokestatic 259, 3) := by decide +kernel
theorem dX12_measure_118 : decode cX12_measure 118 = .ok (.istore 9, 2) := by decide +kernel
theorem dX12_measure_120 : decode cX12_measure 120 = .ok (.iload 9, 2) := by decide +kernel
theorem dX12_measure_122 : decode cX12_measure 122 = .ok (.iconst (-1), 1) := by decide +kernel
theorem dX12_measure_123 : decode cX12_measure 123 = .ok (.if_icmp .eq 21, 3) := by decide +kernel
theorem dX12_measure_126 : decode cX12_measure 126 = .ok (.aload_n 0, 1) := by decide +kernel
theorem dX12_measure_127 : decode cX12_measure 127 = .ok (.getfield 76, 3) := by decide +kernel
theorem dX12_measure_130 : decode cX12_measure 130 = .ok (.iload 4, 2) := by decide +kernel
theorem dX12_measure_132 : decode cX12_measure 132 = .ok (.iload 9, 2) := by decide +kernel
theorem dX12_measure_134 : decode cX12_measure 134 = .ok (.iadd, 1) := by decide +kernel
theorem dX12_measure_135 : decode cX12_measure 135 = .ok (.iaload, 1) := by decide +kernel
theorem dX12_measure_136 : decode cX12_measure 136 = .ok (.iload_n 3, 1) := by decide +kernel
theorem dX12_measure_137 : decode cX12_measure 137 = .ok (.if_icmp .ne 7, 3) := by decide +kernel
theorem dX12_measure_140 : decode cX12_measure 140 = .ok (.iconst 1, 1) := by decide +kernel
theorem dX12_measure_141 : decode cX12_measure 141 = .ok (.goto 4, 3) := by decide +kernel
theorem dX12_measure_144 : decode cX12_measure 144 = .ok (.iconst 0, 1) := by decide +kernel
theorem dX12_measure_145 : decode cX12_measure 145 = .ok (.istore 10, 2) := by decide +kernel
theorem dX12_measure_147 : decode cX12_measure 147 = .ok (.aload_n 0, 1) := by decide +kernel
theorem dX12_measure_148 : decode cX12_measure 148 = .ok (.getfield 107, 3) := by decide +kernel
theorem dX12_measure_151 : decode cX12_measure 151 = .ok (.iconst 3, 1) := by decide +kernel
theorem dX12_measure_152 : decode cX12_measure 152 = .ok (.iload_n 1, 1) := by decide +kernel
theorem dX12_measure_153 : decode cX12_measure 153 = .ok (.imul, 1) := by decide +kernel
theorem dX12_measure_154 : decode cX12_measure 154 = .ok (.iconst 1, 1) := by decide +kernel
theorem dX12_measure_155 : decode cX12_measure 155 = .ok (.iadd, 1) := by decide +kernel
theorem dX12_measure_156 : decode cX12_measure 156 = .ok (.dup2, 1) := by decide +kernel
theorem dX12_measure_157 : decode cX12_measure 157 = .ok (.laload, 1) := by decide +kernel
theorem dX12_measure_158 : decode cX12_measure 158 = .ok (.iload 10, 2) := by decide +kernel
theorem dX12_measure_160 : decode cX12_measure 160 = .ok (.ifCond .eq 7, 3) := by decide +kernel
theorem dX12_measure_163 : decode cX12_measure 163 = .ok (.lconst 0, 1) := by decide +kernel
theorem dX12_measure_164 : decode cX12_measure 164 = .ok (.goto 4, 3) := by decide +kernel
theorem dX12_measure_167 : decode cX12_measure 167 = .ok (.lconst 1, 1) := by decide +kernel
theorem dX12_measure_168 : decode cX12_measure 168 = .ok (.ladd, 1) := by decide +kernel
theorem dX12_measure_169 : decode cX12_measure 169 = .ok (.lastore, 1) := by decide +kernel
theorem dX12_measure_170 : decode cX12_measure 170 = .ok (.aload_n 0, 1) := by decide +kernel
theorem dX12_measure_171 : decode cX12_measure 171 = .ok (.getfield 107, 3) := by decide +kernel
theorem dX12_measure_174 : decode cX12_measure 174 = .ok (.iconst 3, 1) := by decide +kernel
theorem dX12_measure_175 : decode cX12_measure 175 = .ok (.iload_n 1, 1) := by decide +kernel
theorem dX12_measure_176 : decode cX12_measure 176 = .ok (.imul, 1) := by decide +kernel
theorem dX12_measure_177 : decode cX12_measure 177 = .ok (.iconst 2, 1) := by decide +kernel
theorem dX12_measure_178 : decode cX12_measure 178 = .ok (.iadd, 1) := by decide +kernel
theorem dX12_measure_179 : decode cX12_measure 179 = .ok (.dup2, 1) := by decide +kernel
theorem dX12_measure_180 : decode cX12_measure 180 = .ok (.laload, 1) := by decide +kernel
theorem dX12_measure_181 : decode cX12_measure 181 = .ok (.iload 10, 2) := by decide +kernel
theorem dX12_measure_183 : decode cX12_measure 183 = .ok (.ifCond .ne 32, 3) := by decide +kernel
theorem dX12_measure_186 : decode cX12_measure 186 = .ok (.iload 9, 2) := by decide +kernel
theorem dX12_measure_188 : decode cX12_measure 188 = .ok (.iconst (-1), 1) := by decide +kernel
theorem dX12_measure_189 : decode cX12_measure 189 = .ok (.if_icmp .eq 26, 3) := by decide +kernel
theorem dX12_measure_192 : decode cX12_measure 192 = .ok (.iload 6, 2) := by decide +kernel
theorem dX12_measure_194 : decode cX12_measure 194 = .ok (.iconst (-1), 1) := by decide +kernel
theorem dX12_measure_195 : decode cX12_measure 195 = .ok (.if_icmp .eq 20, 3) := by decide +kernel
theorem dX12_measure_198 : decode cX12_measure 198 = .ok (.aload_n 0, 1) := by decide +kernel
theorem dX12_measure_199 : decode cX12_measure 199 = .ok (.iload 5, 2) := by decide +kernel
theorem dX12_measure_201 : decode cX12_measure 201 = .ok (.iload 9, 2) := by decide +kernel
theorem dX12_measure_203 : decode cX12_measure 203 = .ok (.invokevirtual 268, 3) := by decide +kernel
theorem dX12_measure_206 : decode cX12_measure 206 = .ok (.iload 6, 2) := by decide +kernel
theorem dX12_measure_208 : decode cX12_measure 208 = .ok (.if_icmp .ne 7, 3) := by decide +kernel
theorem dX12_measure_211 : decode cX12_measure 211 = .ok (.lconst 1, 1) := by decide +kernel
theorem dX12_measure_212 : decode cX12_measure 212 = .ok (.goto 4, 3) := by decide +kernel
theorem dX12_measure_215 : decode cX12_measure 215 = .ok (.lconst 0, 1) := by decide +kernel
theorem dX12_measure_216 : decode cX12_measure 216 = .ok (.ladd, 1) := by decide +kernel
theorem dX12_measure_217 : decode cX12_measure 217 = .ok (.lastore, 1) := by decide +kernel
theorem dX12_measure_218 : decode cX12_measure 218 = .ok (.iinc 8 1, 3) := by decide +kernel
theorem dX12_measure_221 : decode cX12_measure 221 = .ok (.goto (-116), 3) := by decide +kernel
theorem dX12_measure_224 : decode cX12_measure 224 = .ok (.iinc 7 1, 3) := by decide +kernel
theorem dX12_measure_227 : decode cX12_measure 227 = .ok (.goto (-192), 3) := by decide +kernel
theorem dX12_measure_230 : decode cX12_measure 230 = .ok (.return_, 1) := by decide +kernel
theorem dX12_run_0 : decode cX12_run 0 = .ok (.aload_n 0, 1) := by decide +kernel
theorem dX12_run_1 : decode cX12_run 1 = .ok (.aload_n 0, 1) := by decide +kernel
theorem dX12_run_2 : decode cX12_run 2 = .ok (.getfield 240, 3) := by decide +kernel
theorem dX12_run_5 : decode cX12_run 5 = .ok (.ifCond .eq 7, 3) := by decide +kernel
theorem dX12_run_8 : decode cX12_run 8 = .ok (.iconst 0, 1) := by decide +kernel
theorem dX12_run_9 : decode cX12_run 9 = .ok (.goto 4, 3) := by decide +kernel
theorem dX12_run_12 : decode cX12_run 12 = .ok (.iconst 1, 1) := by decide +kernel
theorem dX12_run_13 : decode cX12_run 13 = .ok (.putfield 124, 3) := by decide +kernel
theorem dX12_run_16 : decode cX12_run 16 = .ok (.aload_n 0, 1) := by decide +kernel
theorem dX12_run_17 : decode cX12_run 17 = .ok (.getfield 124, 3) := by decide +kernel
theorem dX12_run_20 : decode cX12_run 20 = .ok (.ifCond .le 5, 3) := by decide +kernel
theorem dX12_run_23 : decode cX12_run 23 = .ok (.iconst 0, 1) := by decide +kernel
theorem dX12_run_24 : decode cX12_run 24 = .ok (.ireturn, 1) := by decide +kernel
theorem dX12_run_25 : decode cX12_run 25 = .ok (.iconst 0, 1) := by decide +kernel
theorem dX12_run_26 : decode cX12_run 26 = .ok (.istore_n 1, 1) := by decide +kernel
theorem dX12_run_27 : decode cX12_run 27 = .ok (.iload_n 1, 1) := by decide +kernel
theorem dX12_run_28 : decode cX12_run 28 = .ok (.aload_n 0, 1) := by decide +kernel
theorem dX12_run_29 : decode cX12_run 29 = .ok (.getfield 243, 3) := by decide +kernel
theorem dX12_run_32 : decode cX12_run 32 = .ok (.if_icmp .ge 19, 3) := by decide +kernel
theorem dX12_run_35 : decode cX12_run 35 = .ok (.aload_n 0, 1) := by decide +kernel
theorem dX12_run_36 : decode cX12_run 36 = .ok (.iload_n 1, 1) := by decide +kernel
theorem dX12_run_37 : decode cX12_run 37 = .ok (.invokevirtual 286, 3) := by decide +kernel
theorem dX12_run_40 : decode cX12_run 40 = .ok (.aload_n 0, 1) := by decide +kernel
theorem dX12_run_41 : decode cX12_run 41 = .ok (.iload_n 1, 1) := by decide +kernel
theorem dX12_run_42 : decode cX12_run 42 = .ok (.invokevirtual 290, 3) := by decide +kernel
theorem dX12_run_45 : decode cX12_run 45 = .ok (.iinc 1 1, 3) := by decide +kernel
theorem dX12_run_48 : decode cX12_run 48 = .ok (.goto (-21), 3) := by decide +kernel
theorem dX12_run_51 : decode cX12_run 51 = .ok (.iconst 0, 1) := by decide +kernel
theorem dX12_run_52 : decode cX12_run 52 = .ok (.istore_n 1, 1) := by decide +kernel
theorem dX12_run_53 : decode cX12_run 53 = .ok (.iconst 0, 1) := by decide +kernel
theorem dX12_run_54 : decode cX12_run 54 = .ok (.istore_n 2, 1) := by decide +kernel
theorem dX12_run_55 : decode cX12_run 55 = .ok (.iload_n 2, 1) := by decide +kernel
theorem dX12_run_56 : decode cX12_run 56 = .ok (.aload_n 0, 1) := by decide +kernel
theorem dX12_run_57 : decode cX12_run 57 = .ok (.getfield 237, 3) := by decide +kernel
theorem dX12_run_60 : decode cX12_run 60 = .ok (.if_icmp .ge 23, 3) := by decide +kernel
theorem dX12_run_63 : decode cX12_run 63 = .ok (.iload_n 1, 1) := by decide +kernel
theorem dX12_run_64 : decode cX12_run 64 = .ok (.aload_n 0, 1) := by decide +kernel
theorem dX12_run_65 : decode cX12_run 65 = .ok (.getfield 79, 3) := by decide +kernel
theorem dX12_run_68 : decode cX12_run 68 = .ok (.aload_n 0, 1) := by decide +kernel
theorem dX12_run_69 : decode cX12_run 69 = .ok (.getfield 59, 3) := by decide +kernel
theorem dX12_run_72 : decode cX12_run 72 = .ok (.iload_n 2, 1) := by decide +kernel
theorem dX12_run_73 : decode cX12_run 73 = .ok (.iaload, 1) := by decide +kernel
theorem dX12_run_74 : decode cX12_run 74 = .ok (.iaload, 1) := by decide +kernel
theorem dX12_run_75 : decode cX12_run 75 = .ok (.iadd, 1) := by decide +kernel
theorem dX12_run_76 : decode cX12_run 76 = .ok (.istore_n 1, 1) := by decide +kernel
theorem dX12_run_77 : decode cX12_run 77 = .ok (.iinc 2 1, 3) := by decide +kernel
theorem dX12_run_80 : decode cX12_run 80 = .ok (.goto (-25), 3) := by decide +kernel
theorem dX12_run_83 : decode cX12_run 83 = .ok (.aload_n 0, 1) := by decide +kernel
theorem dX12_run_84 : decode cX12_run 84 = .ok (.iconst 0, 1) := by decide +kernel
theorem dX12_run_85 : decode cX12_run 85 = .ok (.putfield 130, 3) := by decide +kernel
theorem dX12_run_88 : decode cX12_run 88 = .ok (.aload_n 0, 1) := by decide +kernel
theorem dX12_run_89 : decode cX12_run 89 = .ok (.iload_n 1, 1) := by decide +kernel
theorem dX12_run_90 : decode cX12_run 90 = .ok (.sipush 300, 3) := by decide +kernel
theorem dX12_run_93 : decode cX12_run 93 = .ok (.if_icmp .le 7, 3) := by decide +kernel
theorem dX12_run_96 : decode cX12_run 96 = .ok (.iconst 2, 1) := by decide +kernel
theorem dX12_run_97 : decode cX12_run 97 = .ok (.goto 4, 3) := by decide +kernel
theorem dX12_run_100 : decode cX12_run 100 = .ok (.iconst 0, 1) := by decide +kernel
theorem dX12_run_101 : decode cX12_run 101 = .ok (.putfield 124, 3) := by decide +kernel
theorem dX12_run_104 : decode cX12_run 104 = .ok (.aload_n 0, 1) := by decide +kernel
theorem dX12_run_105 : decode cX12_run 105 = .ok (.getfield 124, 3) := by decide +kernel
theorem dX12_run_108 : decode cX12_run 108 = .ok (.ifCond .le 5, 3) := by decide +kernel
theorem dX12_run_111 : decode cX12_run 111 = .ok (.iconst 0, 1) := by decide +kernel
theorem dX12_run_112 : decode cX12_run 112 = .ok (.ireturn, 1) := by decide +kernel
theorem dX12_run_113 : decode cX12_run 113 = .ok (.aload_n 0, 1) := by decide +kernel
theorem dX12_run_114 : decode cX12_run 114 = .ok (.invokevirtual 293, 3) := by decide +kernel
theorem dX12_run_117 : decode cX12_run 117 = .ok (.aload_n 0, 1) := by decide +kernel
theorem dX12_run_118 : decode cX12_run 118 = .ok (.iconst 0, 1) := by decide +kernel
theorem dX12_run_119 : decode cX12_run 119 = .ok (.putfield 296, 3) := by decide +kernel
theorem dX12_run_122 : decode cX12_run 122 = .ok (.iconst 0, 1) := by decide +kernel
theorem dX12_run_123 : decode cX12_run 123 = .ok (.istore_n 2, 1) := by decide +kernel
theorem dX12_run_124 : decode cX12_run 124 = .ok (.iload_n 2, 1) := by decide +kernel
theorem dX12_run_125 : decode cX12_run 125 = .ok (.aload_n 0, 1) := by decide +kernel
theorem dX12_run_126 : decode cX12_run 126 = .ok (.getfield 237, 3) := by decide +kernel
theorem dX12_run_129 : decode cX12_run 129 = .ok (.if_icmp .ge 132, 3) := by decide +kernel
theorem dX12_run_132 : decode cX12_run 132 = .ok (.iconst 0, 1) := by decide +kernel
theorem dX12_run_133 : decode cX12_run 133 = .ok (.istore_n 3, 1) := by decide +kernel
theorem dX12_run_134 : decode cX12_run 134 = .ok (.iload_n 3, 1) := by decide +kernel
theorem dX12_run_135 : decode cX12_run 135 = .ok (.aload_n 0, 1) := by decide +kernel
theorem dX12_run_136 : decode cX12_run 136 = .ok (.getfield 79, 3) := by decide +kernel
theorem dX12_run_139 : decode cX12_run 139 = .ok (.aload_n 0, 1) := by decide +kernel
theorem dX12_run_140 : decode cX12_run 140 = .ok (.getfield 59, 3) := by decide +kernel
theorem dX12_run_143 : decode cX12_run 143 = .ok (.iload_n 2, 1) := by decide +kernel
theorem dX12_run_144 : decode cX12_run 144 = .ok (.iaload, 1) := by decide +kernel
theorem dX12_run_145 : decode cX12_run 145 = .ok (.iaload, 1) := by decide +kernel
theorem dX12_run_146 : decode cX12_run 146 = .ok (.if_icmp .ge 109, 3) := by decide +kernel
theorem dX12_run_149 : decode cX12_run 149 = .ok (.aload_n 0, 1) := by decide +kernel
theorem dX12_run_150 : decode cX12_run 150 = .ok (.getfield 92, 3) := by decide +kernel
theorem dX12_run_153 : decode cX12_run 153 = .ok (.aload_n 0, 1) := by decide +kernel
theorem dX12_run_154 : decode cX12_run 154 = .ok (.getfield 296, 3) := by decide +kernel
theorem dX12_run_157 : decode cX12_run 157 = .ok (.iload_n 2, 1) := by decide +kernel
theorem dX12_run_158 : decode cX12_run 158 = .ok (.iastore, 1) := by decide +kernel
theorem dX12_run_159 : decode cX12_run 159 = .ok (.aload_n 0, 1) := by decide +kernel
theorem dX12_run_160 : decode cX12_run 160 = .ok (.getfield 95, 3) := by decide +kernel
theorem dX12_run_163 : decode cX12_run 163 = .ok (.aload_n 0, 1) := by decide +kernel
theorem dX12_run_164 : decode cX12_run 164 = .ok (.getfield 296, 3) := by decide +kernel
theorem dX12_run_167 : decode cX12_run 167 = .ok (.iload_n 3, 1) := by decide +kernel
theorem dX12_run_168 : decode cX12_run 168 = .ok (.iastore, 1) := by decide +kernel
theorem dX12_run_169 : decode cX12_run 169 = .ok (.aload_n 0, 1) := by decide +kernel
theorem dX12_run_170 : decode cX12_run 170 = .ok (.getfield 101, 3) := by decide +kernel
theorem dX12_run_173 : decode cX12_run 173 = .ok (.aload_n 0, 1) := by decide +kernel
theorem dX12_run_174 : decode cX12_run 174 = .ok (.getfield 296, 3) := by decide +kernel
theorem dX12_run_177 : decode cX12_run 177 = .ok (.iconst 0, 1) := by decide +kernel
theorem dX12_run_178 : decode cX12_run 178 = .ok (.bastore, 1) := by decide +kernel
theorem dX12_run_179 : decode cX12_run 179 = .ok (.aload_n 0, 1) := by decide +kernel
theorem dX12_run_180 : decode cX12_run 180 = .ok (.getfield 107, 3) := by decide +kernel
theorem dX12_run_183 : decode cX12_run 183 = .ok (.iconst 3, 1) := by decide +kernel
theorem dX12_run_184 : decode cX12_run 184 = .ok (.aload_n 0, 1) := by decide +kernel
theorem dX12_run_185 : decode cX12_run 185 = .ok (.getfield 296, 3) := by decide +kernel
theorem dX12_run_188 : decode cX12_run 188 = .ok (.imul, 1) := by decide +kernel
theorem dX12_run_189 : decode cX12_run 189 = .ok (.lconst 0, 1) := by decide +kernel
theorem dX12_run_190 : decode cX12_run 190 = .ok (.lastore, 1) := by decide +kernel
theorem dX12_run_191 : decode cX12_run 191 = .ok (.aload_n 0, 1) := by decide +kernel
theorem dX12_run_192 : decode cX12_run 192 = .ok (.getfield 107, 3) := by decide +kernel
theorem dX12_run_195 : decode cX12_run 195 = .ok (.iconst 3, 1) := by decide +kernel
theorem dX12_run_196 : decode cX12_run 196 = .ok (.aload_n 0, 1) := by decide +kernel
theorem dX12_run_197 : decode cX12_run 197 = .ok (.getfield 296, 3) := by decide +kernel
theorem dX12_run_200 : decode cX12_run 200 = .ok (.imul, 1) := by decide +kernel
theorem dX12_run_201 : decode cX12_run 201 = .ok (.iconst 1, 1) := by decide +kernel
theorem dX12_run_202 : decode cX12_run 202 = .ok (.iadd, 1) := by decide +kernel
theorem dX12_run_203 : decode cX12_run 203 = .ok (.lconst 0, 1) := by decide +kernel
theorem dX12_run_204 : decode cX12_run 204 = .ok (.lastore, 1) := by decide +kernel
theorem dX12_run_205 : decode cX12_run 205 = .ok (.aload_n 0, 1) := by decide +kernel
theorem dX12_run_206 : decode cX12_run 206 = .ok (.getfield 107, 3) := by decide +kernel
theorem dX12_run_209 : decode cX12_run 209 = .ok (.iconst 3, 1) := by decide +kernel
theorem dX12_run_210 : decode cX12_run 210 = .ok (.aload_n 0, 1) := by decide +kernel
theorem dX12_run_211 : decode cX12_run 211 = .ok (.getfield 296, 3) := by decide +kernel
theorem dX12_run_214 : decode cX12_run 214 = .ok (.imul, 1) := by decide +kernel
theorem dX12_run_215 : decode cX12_run 215 = .ok (.iconst 2, 1) := by decide +kernel
theorem dX12_run_216 : decode cX12_run 216 = .ok (.iadd, 1) := by decide +kernel
theorem dX12_run_217 : decode cX12_run 217 = .ok (.lconst 0, 1) := by decide +kernel
theorem dX12_run_218 : decode cX12_run 218 = .ok (.lastore, 1) := by decide +kernel
theorem dX12_run_219 : decode cX12_run 219 = .ok (.aload_n 0, 1) := by decide +kernel
theorem dX12_run_220 : decode cX12_run 220 = .ok (.aload_n 0, 1) := by decide +kernel
theorem dX12_run_221 : decode cX12_run 221 = .ok (.getfield 296, 3) := by decide +kernel
theorem dX12_run_224 : decode cX12_run 224 = .ok (.iload_n 2, 1) := by decide +kernel
theorem dX12_run_225 : decode cX12_run 225 = .ok (.iload_n 3, 1) := by decide +kernel
theorem dX12_run_226 : decode cX12_run 226 = .ok (.invokevirtual 299, 3) := by decide +kernel
theorem dX12_run_229 : decode cX12_run 229 = .ok (.aload_n 0, 1) := by decide +kernel
theorem dX12_run_230 : decode cX12_run 230 = .ok (.aload_n 0, 1) := by decide +kernel
theorem dX12_run_231 : decode cX12_run 231 = .ok (.getfield 296, 3) := by decide +kernel
theorem dX12_run_234 : decode cX12_run 234 = .ok (.iload_n 2, 1) := by decide +kernel
theorem dX12_run_235 : decode cX12_run 235 = .ok (.iload_n 3, 1) := by decide +kernel
theorem dX12_run_236 : decode cX12_run 236 = .ok (.invokevirtual 302, 3) := by decide +kernel
theorem dX12_run_239 : decode cX12_run 239 = .ok (.aload_n 0, 1) := by decide +kernel
theorem dX12_run_240 : decode cX12_run 240 = .ok (.dup, 1) := by decide +kernel
theorem dX12_run_241 : decode cX12_run 241 = .ok (.getfield 296, 3) := by decide +kernel
theorem dX12_run_244 : decode cX12_run 244 = .ok (.iconst 1, 1) := by decide +kernel
theorem dX12_run_245 : decode cX12_run 245 = .ok (.iadd, 1) := by decide +kernel
theorem dX12_run_246 : decode cX12_run 246 = .ok (.putfield 296, 3) := by decide +kernel
theorem dX12_run_249 : decode cX12_run 249 = .ok (.iinc 3 1, 3) := by decide +kernel
theorem dX12_run_252 : decode cX12_run 252 = .ok (.goto (-118), 3) := by decide +kernel
theorem dX12_run_255 : decode cX12_run 255 = .ok (.iinc 2 1, 3) := by decide +kernel
theorem dX12_run_258 : decode cX12_run 258 = .ok (.goto (-134), 3) := by decide +kernel
theorem dX12_run_261 : decode cX12_run 261 = .ok (.aload_n 0, 1) := by decide +kernel
theorem dX12_run_262 : decode cX12_run 262 = .ok (.iconst 1, 1) := by decide +kernel
theorem dX12_run_263 : decode cX12_run 263 = .ok (.putfield 130, 3) := by decide +kernel
theorem dX12_run_266 : decode cX12_run 266 = .ok (.aload_n 0, 1) := by decide +kernel
theorem dX12_run_267 : decode cX12_run 267 = .ok (.getfield 296, 3) := by decide +kernel
theorem dX12_run_270 : decode cX12_run 270 = .ok (.ireturn, 1) := by decide +kernel
theorem dX12_isDevice_0 : decode cX12_isDevice 0 = .ok (.iload_n 1, 1) := by decide +kernel
theorem dX12_isDevice_1 : decode cX12_isDevice 1 = .ok (.ifCond .lt 15, 3) := by decide +kernel
theorem dX12_isDevice_4 : decode cX12_isDevice 4 = .ok (.iload_n 1, 1) := by decide +kernel
theorem dX12_isDevice_5 : decode cX12_isDevice 5 = .ok (.aload_n 0, 1) := by decide +kernel
theorem dX12_isDevice_6 : decode cX12_isDevice 6 = .ok (.getfield 296, 3) := by decide +kernel
theorem dX12_isDevice_9 : decode cX12_isDevice 9 = .ok (.if_icmp .ge 7, 3) := by decide +kernel
theorem dX12_isDevice_12 : decode cX12_isDevice 12 = .ok (.iconst 1, 1) := by decide +kernel
theorem dX12_isDevice_13 : decode cX12_isDevice 13 = .ok (.goto 4, 3) := by decide +kernel
theorem dX12_isDevice_16 : decode cX12_isDevice 16 = .ok (.iconst 0, 1) := by decide +kernel
theorem dX12_isDevice_17 : decode cX12_isDevice 17 = .ok (.ireturn, 1) := by decide +kernel
theorem dX12_device_0 : decode cX12_device 0 = .ok (.aload_n 0, 1) := by decide +kernel
theorem dX12_device_1 : decode cX12_device 1 = .ok (.iload_n 2, 1) := by decide +kernel
theorem dX12_device_2 : decode cX12_device 2 = .ok (.ifCond .lt 8, 3) := by decide +kernel
theorem dX12_device_5 : decode cX12_device 5 = .ok (.iload_n 2, 1) := by decide +kernel
theorem dX12_device_6 : decode cX12_device 6 = .ok (.iconst 4, 1) := by decide +kernel
theorem dX12_device_7 : decode cX12_device 7 = .ok (.if_icmp .le 7, 3) := by decide +kernel
theorem dX12_device_10 : decode cX12_device 10 = .ok (.iconst 1, 1) := by decide +kernel
theorem dX12_device_11 : decode cX12_device 11 = .ok (.goto 27, 3) := by decide +kernel
theorem dX12_device_14 : decode cX12_device 14 = .ok (.aload_n 0, 1) := by decide +kernel
theorem dX12_device_15 : decode cX12_device 15 = .ok (.getfield 130, 3) := by decide +kernel
theorem dX12_device_18 : decode cX12_device 18 = .ok (.ifCond .ne 7, 3) := by decide +kernel
theorem dX12_device_21 : decode cX12_device 21 = .ok (.iconst 2, 1) := by decide +kernel
theorem dX12_device_22 : decode cX12_device 22 = .ok (.goto 16, 3) := by decide +kernel
theorem dX12_device_25 : decode cX12_device 25 = .ok (.aload_n 0, 1) := by decide +kernel
theorem dX12_device_26 : decode cX12_device 26 = .ok (.iload_n 1, 1) := by decide +kernel
theorem dX12_device_27 : decode cX12_device 27 = .ok (.invokevirtual 305, 3) := by decide +kernel
theorem dX12_device_30 : decode cX12_device 30 = .ok (.ifCond .ne 7, 3) := by decide +kernel
theorem dX12_device_33 : decode cX12_device 33 = .ok (.iconst 1, 1) := by decide +kernel
theorem dX12_device_34 : decode cX12_device 34 = .ok (.goto 4, 3) := by decide +kernel
theorem dX12_device_37 : decode cX12_device 37 = .ok (.iconst 0, 1) := by decide +kernel
theorem dX12_device_38 : decode cX12_device 38 = .ok (.putfield 124, 3) := by decide +kernel
theorem dX12_device_41 : decode cX12_device 41 = .ok (.aload_n 0, 1) := by decide +kernel
theorem dX12_device_42 : decode cX12_device 42 = .ok (.getfield 124, 3) := by decide +kernel
theorem dX12_device_45 : decode cX12_device 45 = .ok (.ifCond .le 5, 3) := by decide +kernel
theorem dX12_device_48 : decode cX12_device 48 = .ok (.iconst 0, 1) := by decide +kernel
theorem dX12_device_49 : decode cX12_device 49 = .ok (.ireturn, 1) := by decide +kernel
theorem dX12_device_50 : decode cX12_device 50 = .ok (.iload_n 2, 1) := by decide +kernel
theorem dX12_device_51 : decode cX12_device 51 = .ok (.ifCond .ne 12, 3) := by decide +kernel
theorem dX12_device_54 : decode cX12_device 54 = .ok (.aload_n 0, 1) := by decide +kernel
theorem dX12_device_55 : decode cX12_device 55 = .ok (.getfield 92, 3) := by decide +kernel
theorem dX12_device_58 : decode cX12_device 58 = .ok (.iload_n 1, 1) := by decide +kernel
theorem dX12_device_59 : decode cX12_device 59 = .ok (.iaload, 1) := by decide +kernel
theorem dX12_device_60 : decode cX12_device 60 = .ok (.goto 65, 3) := by decide +kernel
theorem dX12_device_63 : decode cX12_device 63 = .ok (.iload_n 2, 1) := by decide +kernel
theorem dX12_device_64 : decode cX12_device 64 = .ok (.iconst 1, 1) := by decide +kernel
theorem dX12_device_65 : decode cX12_device 65 = .ok (.if_icmp .ne 12, 3) := by decide +kernel
theorem dX12_device_68 : decode cX12_device 68 = .ok (.aload_n 0, 1) := by decide +kernel
theorem dX12_device_69 : decode cX12_device 69 = .ok (.getfield 95, 3) := by decide +kernel
theorem dX12_device_72 : decode cX12_device 72 = .ok (.iload_n 1, 1) := by decide +kernel
theorem dX12_device_73 : decode cX12_device 73 = .ok (.iaload, 1) := by decide +kernel
theorem dX12_device_74 : decode cX12_device 74 = .ok (.goto 51, 3) := by decide +kernel
theorem dX12_device_77 : decode cX12_device 77 = .ok (.iload_n 2, 1) := by decide +kernel
theorem dX12_device_78 : decode cX12_device 78 = .ok (.iconst 2, 1) := by decide +kernel
theorem dX12_device_79 : decode cX12_device 79 = .ok (.if_icmp .ne 20, 3) := by decide +kernel
theorem dX12_device_82 : decode cX12_device 82 = .ok (.aload_n 0, 1) := by decide +kernel
theorem dX12_device_83 : decode cX12_device 83 = .ok (.getfield 101, 3) := by decide +kernel
theorem dX12_device_86 : decode cX12_device 86 = .ok (.iload_n 1, 1) := by decide +kernel
theorem dX12_device_87 : decode cX12_device 87 = .ok (.baload, 1) := by decide +kernel
theorem dX12_device_88 : decode cX12_device 88 = .ok (.ifCond .eq 7, 3) := by decide +kernel
theorem dX12_device_91 : decode cX12_device 91 = .ok (.iconst 1, 1) := by decide +kernel
theorem dX12_device_92 : decode cX12_device 92 = .ok (.goto 33, 3) := by decide +kernel
theorem dX12_device_95 : decode cX12_device 95 = .ok (.iconst 0, 1) := by decide +kernel
theorem dX12_device_96 : decode cX12_device 96 = .ok (.goto 29, 3) := by decide +kernel
theorem dX12_device_99 : decode cX12_device 99 = .ok (.iload_n 2, 1) := by decide +kernel
theorem dX12_device_100 : decode cX12_device 100 = .ok (.iconst 3, 1) := by decide +kernel
theorem dX12_device_101 : decode cX12_device 101 = .ok (.if_icmp .ne 15, 3) := by decide +kernel
theorem dX12_device_104 : decode cX12_device 104 = .ok (.aload_n 0, 1) := by decide +kernel
theorem dX12_device_105 : decode cX12_device 105 = .ok (.getfield 98, 3) := by decide +kernel
theorem dX12_device_108 : decode cX12_device 108 = .ok (.iload_n 1, 1) := by decide +kernel
theorem dX12_device_109 : decode cX12_device 109 = .ok (.iaload, 1) := by decide +kernel
theorem dX12_device_110 : decode cX12_device 110 = .ok (.bipush 64, 2) := by decide +kernel
theorem dX12_device_112 : decode cX12_device 112 = .ok (.irem, 1) := by decide +kernel
theorem dX12_device_113 : decode cX12_device 113 = .ok (.goto 12, 3) := by decide +kernel
theorem dX12_device_116 : decode cX12_device 116 = .ok (.aload_n 0, 1) := by decide +kernel
theorem dX12_device_117 : decode cX12_device 117 = .ok (.getfield 98, 3) := by decide +kernel
theorem dX12_device_120 : decode cX12_device 120 = .ok (.iload_n 1, 1) := by decide +kernel
theorem dX12_device_121 : decode cX12_device 121 = .ok (.iaload, 1) := by decide +kernel
theorem dX12_device_122 : decode cX12_device 122 = .ok (.bipush 64, 2) := by decide +kernel
theorem dX12_device_124 : decode cX12_device 124 = .ok (.idiv, 1) := by decide +kernel
theorem dX12_device_125 : decode cX12_device 125 = .ok (.ireturn, 1) := by decide +kernel
theorem dX12_size_0 : decode cX12_size 0 = .ok (.aload_n 0, 1) := by decide +kernel
theorem dX12_size_1 : decode cX12_size 1 = .ok (.iload_n 2, 1) := by decide +kernel
theorem dX12_size_2 : decode cX12_size 2 = .ok (.ifCond .lt 8, 3) := by decide +kernel
theorem dX12_size_5 : decode cX12_size 5 = .ok (.iload_n 2, 1) := by decide +kernel
theorem dX12_size_6 : decode cX12_size 6 = .ok (.iconst 2, 1) := by decide +kernel
theorem dX12_size_7 : decode cX12_size 7 = .ok (.if_icmp .le 7, 3) := by decide +kernel
theorem dX12_size_10 : decode cX12_size 10 = .ok (.iconst 1, 1) := by decide +kernel
theorem dX12_size_11 : decode cX12_size 11 = .ok (.goto 27, 3) := by decide +kernel
theorem dX12_size_14 : decode cX12_size 14 = .ok (.aload_n 0, 1) := by decide +kernel
theorem dX12_size_15 : decode cX12_size 15 = .ok (.getfield 130, 3) := by decide +kernel
theorem dX12_size_18 : decode cX12_size 18 = .ok (.ifCond .ne 7, 3) := by decide +kernel
theorem dX12_size_21 : decode cX12_size 21 = .ok (.iconst 2, 1) := by decide +kernel
theorem dX12_size_22 : decode cX12_size 22 = .ok (.goto 16, 3) := by decide +kernel
theorem dX12_size_25 : decode cX12_size 25 = .ok (.aload_n 0, 1) := by decide +kernel
theorem dX12_size_26 : decode cX12_size 26 = .ok (.iload_n 1, 1) := by decide +kernel
theorem dX12_size_27 : decode cX12_size 27 = .ok (.invokevirtual 305, 3) := by decide +kernel
theorem dX12_size_30 : decode cX12_size 30 = .ok (.ifCond .ne 7, 3) := by decide +kernel
theorem dX12_size_33 : decode cX12_size 33 = .ok (.iconst 1, 1) := by decide +kernel
theorem dX12_size_34 : decode cX12_size 34 = .ok (.goto 4, 3) := by decide +kernel
theorem dX12_size_37 : decode cX12_size 37 = .ok (.iconst 0, 1) := by decide +kernel
theorem dX12_size_38 : decode cX12_size 38 = .ok (.putfield 124, 3) := by decide +kernel
theorem dX12_size_41 : decode cX12_size 41 = .ok (.aload_n 0, 1) := by decide +kernel
theorem dX12_size_42 : decode cX12_size 42 = .ok (.getfield 124, 3) := by decide +kernel
theorem dX12_size_45 : decode cX12_size 45 = .ok (.ifCond .le 7, 3) := by decide +kernel
theorem dX12_size_48 : decode cX12_size 48 = .ok (.lconst 0, 1) := by decide +kernel
theorem dX12_size_49 : decode cX12_size 49 = .ok (.goto 13, 3) := by decide +kernel
theorem dX12_size_52 : decode cX12_size 52 = .ok (.aload_n 0, 1) := by decide +kernel
theorem dX12_size_53 : decode cX12_size 53 = .ok (.getfield 107, 3) := by decide +kernel
theorem dX12_size_56 : decode cX12_size 56 = .ok (.iconst 3, 1) := by decide +kernel
theorem dX12_size_57 : decode cX12_size 57 = .ok (.iload_n 1, 1) := by decide +kernel
theorem dX12_size_58 : decode cX12_size 58 = .ok (.imul, 1) := by decide +kernel
theorem dX12_size_59 : decode cX12_size 59 = .ok (.iload_n 2, 1) := by decide +kernel
theorem dX12_size_60 : decode cX12_size 60 = .ok (.iadd, 1) := by decide +kernel
theorem dX12_size_61 : decode cX12_size 61 = .ok (.laload, 1) := by decide +kernel
theorem dX12_size_62 : decode cX12_size 62 = .ok (.lreturn, 1) := by decide +kernel
theorem dX12_netOf_0 : decode cX12_netOf 0 = .ok (.iload_n 1, 1) := by decide +kernel
theorem dX12_netOf_1 : decode cX12_netOf 1 = .ok (.iconst (-1), 1) := by decide +kernel
theorem dX12_netOf_2 : decode cX12_netOf 2 = .ok (.if_icmp .ne 7, 3) := by decide +kernel
theorem dX12_netOf_5 : decode cX12_netOf 5 = .ok (.iconst (-1), 1) := by decide +kernel
theorem dX12_netOf_6 : decode cX12_netOf 6 = .ok (.goto 9, 3) := by decide +kernel
theorem dX12_netOf_9 : decode cX12_netOf 9 = .ok (.aload_n 0, 1) := by decide +kernel
theorem dX12_netOf_10 : decode cX12_netOf 10 = .ok (.getfield 89, 3) := by decide +kernel
theorem dX12_netOf_13 : decode cX12_netOf 13 = .ok (.iload_n 1, 1) := by decide +kernel
theorem dX12_netOf_14 : decode cX12_netOf 14 = .ok (.iaload, 1) := by decide +kernel
theorem dX12_netOf_15 : decode cX12_netOf 15 = .ok (.ireturn, 1) := by decide +kernel
theorem dX12_pin_0 : decode cX12_pin 0 = .ok (.aload_n 0, 1) := by decide +kernel
theorem dX12_pin_1 : decode cX12_pin 1 = .ok (.aload_n 0, 1) := by decide +kernel
theorem dX12_pin_2 : decode cX12_pin 2 = .ok (.getfield 130, 3) := by decide +kernel
theorem dX12_pin_5 : decode cX12_pin 5 = .ok (.ifCond .ne 7, 3) := by decide +kernel
theorem dX12_pin_8 : decode cX12_pin 8 = .ok (.iconst 1, 1) := by decide +kernel
theorem dX12_pin_9 : decode cX12_pin 9 = .ok (.goto 35, 3) := by decide +kernel
theorem dX12_pin_12 : decode cX12_pin 12 = .ok (.aload_n 0, 1) := by decide +kernel
theorem dX12_pin_13 : decode cX12_pin 13 = .ok (.iload_n 1, 1) := by decide +kernel
theorem dX12_pin_14 : decode cX12_pin 14 = .ok (.invokevirtual 305, 3) := by decide +kernel
theorem dX12_pin_17 : decode cX12_pin 17 = .ok (.ifCond .eq 22, 3) := by decide +kernel
theorem dX12_pin_20 : decode cX12_pin 20 = .ok (.iload_n 2, 1) := by decide +kernel
theorem dX12_pin_21 : decode cX12_pin 21 = .ok (.ifCond .lt 18, 3) := by decide +kernel
theorem dX12_pin_24 : decode cX12_pin 24 = .ok (.iload_n 2, 1) := by decide +kernel
theorem dX12_pin_25 : decode cX12_pin 25 = .ok (.aload_n 0, 1) := by decide +kernel
theorem dX12_pin_26 : decode cX12_pin 26 = .ok (.getfield 62, 3) := by decide +kernel
theorem dX12_pin_29 : decode cX12_pin 29 = .ok (.aload_n 0, 1) := by decide +kernel
theorem dX12_pin_30 : decode cX12_pin 30 = .ok (.getfield 92, 3) := by decide +kernel
theorem dX12_pin_33 : decode cX12_pin 33 = .ok (.iload_n 1, 1) := by decide +kernel
theorem dX12_pin_34 : decode cX12_pin 34 = .ok (.iaload, 1) := by decide +kernel
theorem dX12_pin_35 : decode cX12_pin 35 = .ok (.iaload, 1) := by decide +kernel
theorem dX12_pin_36 : decode cX12_pin 36 = .ok (.if_icmp .lt 7, 3) := by decide +kernel
theorem dX12_pin_39 : decode cX12_pin 39 = .ok (.iconst 2, 1) := by decide +kernel
theorem dX12_pin_40 : decode cX12_pin 40 = .ok (.goto 4, 3) := by decide +kernel
theorem dX12_pin_43 : decode cX12_pin 43 = .ok (.iconst 0, 1) := by decide +kernel
theorem dX12_pin_44 : decode cX12_pin 44 = .ok (.putfield 124, 3) := by decide +kernel
theorem dX12_pin_47 : decode cX12_pin 47 = .ok (.aload_n 0, 1) := by decide +kernel
theorem dX12_pin_48 : decode cX12_pin 48 = .ok (.getfield 124, 3) := by decide +kernel
theorem dX12_pin_51 : decode cX12_pin 51 = .ok (.ifCond .le 7, 3) := by decide +kernel
theorem dX12_pin_54 : decode cX12_pin 54 = .ok (.iconst 0, 1) := by decide +kernel
theorem dX12_pin_55 : decode cX12_pin 55 = .ok (.goto 17, 3) := by decide +kernel
theorem dX12_pin_58 : decode cX12_pin 58 = .ok (.aload_n 0, 1) := by decide +kernel
theorem dX12_pin_59 : decode cX12_pin 59 = .ok (.aload_n 0, 1) := by decide +kernel
theorem dX12_pin_60 : decode cX12_pin 60 = .ok (.getfield 104, 3) := by decide +kernel
theorem dX12_pin_63 : decode cX12_pin 63 = .ok (.iconst 4, 1) := by decide +kernel
theorem dX12_pin_64 : decode cX12_pin 64 = .ok (.iload_n 1, 1) := by decide +kernel
theorem dX12_pin_65 : decode cX12_pin 65 = .ok (.imul, 1) := by decide +kernel
theorem dX12_pin_66 : decode cX12_pin 66 = .ok (.iload_n 2, 1) := by decide +kernel
theorem dX12_pin_67 : decode cX12_pin 67 = .ok (.iadd, 1) := by decide +kernel
theorem dX12_pin_68 : decode cX12_pin 68 = .ok (.iaload, 1) := by decide +kernel
theorem dX12_pin_69 : decode cX12_pin 69 = .ok (.invokevirtual 308, 3) := by decide +kernel
theorem dX12_pin_72 : decode cX12_pin 72 = .ok (.ireturn, 1) := by decide +kernel
theorem dX12_net_0 : decode cX12_net 0 = .ok (.aload_n 0, 1) := by decide +kernel
theorem dX12_net_1 : decode cX12_net 1 = .ok (.lload_n 2, 1) := by decide +kernel
theorem dX12_net_2 : decode cX12_net 2 = .ok (.lload 4, 2) := by decide +kernel
theorem dX12_net_4 : decode cX12_net 4 = .ok (.invokestatic 136, 3) := by decide +kernel
theorem dX12_net_7 : decode cX12_net 7 = .ok (.ifCond .ne 7, 3) := by decide +kernel
theorem dX12_net_10 : decode cX12_net 10 = .ok (.iconst 1, 1) := by decide +kernel
theorem dX12_net_11 : decode cX12_net 11 = .ok (.goto 31, 3) := by decide +kernel
theorem dX12_net_14 : decode cX12_net 14 = .ok (.aload_n 0, 1) := by decide +kernel
theorem dX12_net_15 : decode cX12_net 15 = .ok (.getfield 130, 3) := by decide +kernel
theorem dX12_net_18 : decode cX12_net 18 = .ok (.ifCond .ne 7, 3) := by decide +kernel
theorem dX12_net_21 : decode cX12_net 21 = .ok (.iconst 2, 1) := by decide +kernel
theorem dX12_net_22 : decode cX12_net 22 = .ok (.goto 20, 3) := by decide +kernel
theorem dX12_net_25 : decode cX12_net 25 = .ok (.iload_n 1, 1) := by decide +kernel
theorem dX12_net_26 : decode cX12_net 26 = .ok (.ifCond .lt 11, 3) := by decide +kernel
theorem dX12_net_29 : decode cX12_net 29 = .ok (.iload_n 1, 1) := by decide +kernel
theorem dX12_net_30 : decode cX12_net 30 = .ok (.aload_n 0, 1) := by decide +kernel
theorem dX12_net_31 : decode cX12_net 31 = .ok (.getfield 246, 3) := by decide +kernel
theorem dX12_net_34 : decode cX12_net 34 = .ok (.if_icmp .lt 7, 3) := by decide +kernel
theorem dX12_net_37 : decode cX12_net 37 = .ok (.iconst 1, 1) := by decide +kernel
theorem dX12_net_38 : decode cX12_net 38 = .ok (.goto 4, 3) := by decide +kernel
theorem dX12_net_41 : decode cX12_net 41 = .ok (.iconst 0, 1) := by decide +kernel
theorem dX12_net_42 : decode cX12_net 42 = .ok (.putfield 124, 3) := by decide +kernel
theorem dX12_net_45 : decode cX12_net 45 = .ok (.aload_n 0, 1) := by decide +kernel
theorem dX12_net_46 : decode cX12_net 46 = .ok (.getfield 124, 3) := by decide +kernel
theorem dX12_net_49 : decode cX12_net 49 = .ok (.ifCond .le 7, 3) := by decide +kernel
theorem dX12_net_52 : decode cX12_net 52 = .ok (.iconst 0, 1) := by decide +kernel
theorem dX12_net_53 : decode cX12_net 53 = .ok (.goto 21, 3) := by decide +kernel
theorem dX12_net_56 : decode cX12_net 56 = .ok (.aload_n 0, 1) := by decide +kernel
theorem dX12_net_57 : decode cX12_net 57 = .ok (.aload_n 0, 1) := by decide +kernel
theorem dX12_net_58 : decode cX12_net 58 = .ok (.iload_n 1, 1) := by decide +kernel
theorem dX12_net_59 : decode cX12_net 59 = .ok (.bipush 64, 2) := by decide +kernel
theorem dX12_net_61 : decode cX12_net 61 = .ok (.lload 4, 2) := by decide +kernel
theorem dX12_net_63 : decode cX12_net 63 = .ok (.l2i, 1) := by decide +kernel
theorem dX12_net_64 : decode cX12_net 64 = .ok (.imul, 1) := by decide +kernel
theorem dX12_net_65 : decode cX12_net 65 = .ok (.lload_n 2, 1) := by decide +kernel
theorem dX12_net_66 : decode cX12_net 66 = .ok (.l2i, 1) := by decide +kernel
theorem dX12_net_67 : decode cX12_net 67 = .ok (.iadd, 1) := by decide +kernel
theorem dX12_net_68 : decode cX12_net 68 = .ok (.invokevirtual 268, 3) := by decide +kernel
theorem dX12_net_71 : decode cX12_net 71 = .ok (.invokevirtual 308, 3) := by decide +kernel
theorem dX12_net_74 : decode cX12_net 74 = .ok (.ireturn, 1) := by decide +kernel
theorem dX12_nameOf_0 : decode cX12_nameOf 0 = .ok (.iconst (-1), 1) := by decide +kernel
theorem dX12_nameOf_1 : decode cX12_nameOf 1 = .ok (.istore_n 3, 1) := by decide +kernel
theorem dX12_nameOf_2 : decode cX12_nameOf 2 = .ok (.iconst 0, 1) := by decide +kernel
theorem dX12_nameOf_3 : decode cX12_nameOf 3 = .ok (.istore 4, 2) := by decide +kernel
theorem dX12_nameOf_5 : decode cX12_nameOf 5 = .ok (.iload 4, 2) := by decide +kernel
theorem dX12_nameOf_7 : decode cX12_nameOf 7 = .ok (.aload_n 0, 1) := by decide +kernel
theorem dX12_nameOf_8 : decode cX12_nameOf 8 = .ok (.getfield 140, 3) := by decide +kernel
theorem dX12_nameOf_11 : decode cX12_nameOf 11 = .ok (.if_icmp .ge 137, 3) := by decide +kernel
theorem dX12_nameOf_14 : decode cX12_nameOf 14 = .ok (.aload_n 0, 1) := by decide +kernel
theorem dX12_nameOf_15 : decode cX12_nameOf 15 = .ok (.getfield 22, 3) := by decide +kernel
theorem dX12_nameOf_18 : decode cX12_nameOf 18 = .ok (.iload 4, 2) := by decide +kernel
theorem dX12_nameOf_20 : decode cX12_nameOf 20 = .ok (.iaload, 1) := by decide +kernel
theorem dX12_nameOf_21 : decode cX12_nameOf 21 = .ok (.aload_n 0, 1) := by decide +kernel
theorem dX12_nameOf_22 : decode cX12_nameOf 22 = .ok (.getfield 246, 3) := by decide +kernel
theorem dX12_nameOf_25 : decode cX12_nameOf 25 = .ok (.if_icmp .ge 51, 3) := by decide +kernel
theorem dX12_nameOf_28 : decode cX12_nameOf 28 = .ok (.aload_n 0, 1) := by decide +kernel
theorem dX12_nameOf_29 : decode cX12_nameOf 29 = .ok (.aload_n 0, 1) := by decide +kernel
theorem dX12_nameOf_30 : decode cX12_nameOf 30 = .ok (.aload_n 0, 1) := by decide +kernel
theorem dX12_nameOf_31 : decode cX12_nameOf 31 = .ok (.getfield 22, 3) := by decide +kernel
theorem dX12_nameOf_34 : decode cX12_nameOf 34 = .ok (.iload 4, 2) := by decide +kernel
theorem dX12_nameOf_36 : decode cX12_nameOf 36 = .ok (.iaload, 1) := by decide +kernel
theorem dX12_nameOf_37 : decode cX12_nameOf 37 = .ok (.aload_n 0, 1) := by decide +kernel
theorem dX12_nameOf_38 : decode cX12_nameOf 38 = .ok (.getfield 246, 3) := by decide +kernel
theorem dX12_nameOf_41 : decode cX12_nameOf 41 = .ok (.if_icmp .ge 13, 3) := by decide +kernel
theorem dX12_nameOf_44 : decode cX12_nameOf 44 = .ok (.aload_n 0, 1) := by decide +kernel
theorem dX12_nameOf_45 : decode cX12_nameOf 45 = .ok (.getfield 22, 3) := by decide +kernel
theorem dX12_nameOf_48 : decode cX12_nameOf 48 = .ok (.iload 4, 2) := by decide +kernel
theorem dX12_nameOf_50 : decode cX12_nameOf 50 = .ok (.iaload, 1) := by decide +kernel
theorem dX12_nameOf_51 : decode cX12_nameOf 51 = .ok (.goto 4, 3) := by decide +kernel
theorem dX12_nameOf_54 : decode cX12_nameOf 54 = .ok (.iconst 0, 1) := by decide +kernel
theorem dX12_nameOf_55 : decode cX12_nameOf 55 = .ok (.aload_n 0, 1) := by decide +kernel
theorem dX12_nameOf_56 : decode cX12_nameOf 56 = .ok (.getfield 25, 3) := by decide +kernel
theorem dX12_nameOf_59 : decode cX12_nameOf 59 = .ok (.iload 4, 2) := by decide +kernel
theorem dX12_nameOf_61 : decode cX12_nameOf 61 = .ok (.iaload, 1) := by decide +kernel
theorem dX12_nameOf_62 : decode cX12_nameOf 62 = .ok (.invokevirtual 268, 3) := by decide +kernel
theorem dX12_nameOf_65 : decode cX12_nameOf 65 = .ok (.invokevirtual 308, 3) := by decide +kernel
theorem dX12_nameOf_68 : decode cX12_nameOf 68 = .ok (.iload_n 1, 1) := by decide +kernel
theorem dX12_nameOf_69 : decode cX12_nameOf 69 = .ok (.if_icmp .ne 7, 3) := by decide +kernel
theorem dX12_nameOf_72 : decode cX12_nameOf 72 = .ok (.iconst 1, 1) := by decide +kernel
theorem dX12_nameOf_73 : decode cX12_nameOf 73 = .ok (.goto 4, 3) := by decide +kernel
theorem dX12_nameOf_76 : decode cX12_nameOf 76 = .ok (.iconst 0, 1) := by decide +kernel
theorem dX12_nameOf_77 : decode cX12_nameOf 77 = .ok (.istore 5, 2) := by decide +kernel
theorem dX12_nameOf_79 : decode cX12_nameOf 79 = .ok (.iload_n 3, 1) := by decide +kernel
theorem dX12_nameOf_80 : decode cX12_nameOf 80 = .ok (.iconst (-1), 1) := by decide +kernel
theorem dX12_nameOf_81 : decode cX12_nameOf 81 = .ok (.if_icmp .eq 32, 3) := by decide +kernel
theorem dX12_nameOf_84 : decode cX12_nameOf 84 = .ok (.iload_n 2, 1) := by decide +kernel
theorem dX12_nameOf_85 : decode cX12_nameOf 85 = .ok (.ifCond .eq 17, 3) := by decide +kernel
theorem dX12_nameOf_88 : decode cX12_nameOf 88 = .ok (.aload_n 0, 1) := by decide +kernel
theorem dX12_nameOf_89 : decode cX12_nameOf 89 = .ok (.getfield 28, 3) := by decide +kernel
theorem dX12_nameOf_92 : decode cX12_nameOf 92 = .ok (.iload 4, 2) := by decide +kernel
theorem dX12_nameOf_94 : decode cX12_nameOf 94 = .ok (.iaload, 1) := by decide +kernel
theorem dX12_nameOf_95 : decode cX12_nameOf 95 = .ok (.iload_n 3, 1) := by decide +kernel
theorem dX12_nameOf_96 : decode cX12_nameOf 96 = .ok (.if_icmp .le 21, 3) := by decide +kernel
theorem dX12_nameOf_99 : decode cX12_nameOf 99 = .ok (.goto 14, 3) := by decide +kernel
theorem dX12_nameOf_102 : decode cX12_nameOf 102 = .ok (.aload_n 0, 1) := by decide +kernel
theorem dX12_nameOf_103 : decode cX12_nameOf 103 = .ok (.getfield 28, 3) := by decide +kernel
theorem dX12_nameOf_106 : decode cX12_nameOf 106 = .ok (.iload 4, 2) := by decide +kernel
theorem dX12_nameOf_108 : decode cX12_nameOf 108 = .ok (.iaload, 1) := by decide +kernel
theorem dX12_nameOf_109 : decode cX12_nameOf 109 = .ok (.iload_n 3, 1) := by decide +kernel
theorem dX12_nameOf_110 : decode cX12_nameOf 110 = .ok (.if_icmp .ge 7, 3) := by decide +kernel
theorem dX12_nameOf_113 : decode cX12_nameOf 113 = .ok (.iconst 1, 1) := by decide +kernel
theorem dX12_nameOf_114 : decode cX12_nameOf 114 = .ok (.goto 4, 3) := by decide +kernel
theorem dX12_nameOf_117 : decode cX12_nameOf 117 = .ok (.iconst 0, 1) := by decide +kernel
theorem dX12_nameOf_118 : decode cX12_nameOf 118 = .ok (.istore 6, 2) := by decide +kernel
theorem dX12_nameOf_120 : decode cX12_nameOf 120 = .ok (.iload 5, 2) := by decide +kernel
theorem dX12_nameOf_122 : decode cX12_nameOf 122 = .ok (.ifCond .eq 18, 3) := by decide +kernel
theorem dX12_nameOf_125 : decode cX12_nameOf 125 = .ok (.iload 6, 2) := by decide +kernel
theorem dX12_nameOf_127 : decode cX12_nameOf 127 = .ok (.ifCond .eq 13, 3) := by decide +kernel
theorem dX12_nameOf_130 : decode cX12_nameOf 130 = .ok (.aload_n 0, 1) := by decide +kernel
theorem dX12_nameOf_131 : decode cX12_nameOf 131 = .ok (.getfield 28, 3) := by decide +kernel
theorem dX12_nameOf_134 : decode cX12_nameOf 134 = .ok (.iload 4, 2) := by decide +kernel
theorem dX12_nameOf_136 : decode cX12_nameOf 136 = .ok (.iaload, 1) := by decide +kernel
theorem dX12_nameOf_137 : decode cX12_nameOf 137 = .ok (.goto 4, 3) := by decide +kernel
theorem dX12_nameOf_140 : decode cX12_nameOf 140 = .ok (.iload_n 3, 1) := by decide +kernel
theorem dX12_nameOf_141 : decode cX12_nameOf 141 = .ok (.istore_n 3, 1) := by decide +kernel
theorem dX12_nameOf_142 : decode cX12_nameOf 142 = .ok (.iinc 4 1, 3) := by decide +kernel
theorem dX12_nameOf_145 : decode cX12_nameOf 145 = .ok (.goto (-140), 3) := by decide +kernel
theorem dX12_nameOf_148 : decode cX12_nameOf 148 = .ok (.iload_n 3, 1) := by decide +kernel
theorem dX12_nameOf_149 : decode cX12_nameOf 149 = .ok (.ireturn, 1) := by decide +kernel
theorem dX12_named_0 : decode cX12_named 0 = .ok (.aload_n 0, 1) := by decide +kernel
theorem dX12_named_1 : decode cX12_named 1 = .ok (.aload_n 0, 1) := by decide +kernel
theorem dX12_named_2 : decode cX12_named 2 = .ok (.getfield 130, 3) := by decide +kernel
theorem dX12_named_5 : decode cX12_named 5 = .ok (.ifCond .ne 7, 3) := by decide +kernel
theorem dX12_named_8 : decode cX12_named 8 = .ok (.iconst 1, 1) := by decide +kernel
theorem dX12_named_9 : decode cX12_named 9 = .ok (.goto 20, 3) := by decide +kernel
theorem dX12_named_12 : decode cX12_named 12 = .ok (.iload_n 1, 1) := by decide +kernel
theorem dX12_named_13 : decode cX12_named 13 = .ok (.ifCond .lt 11, 3) := by decide +kernel
theorem dX12_named_16 : decode cX12_named 16 = .ok (.iload_n 1, 1) := by decide +kernel
theorem dX12_named_17 : decode cX12_named 17 = .ok (.aload_n 0, 1) := by decide +kernel
theorem dX12_named_18 : decode cX12_named 18 = .ok (.getfield 277, 3) := by decide +kernel
theorem dX12_named_21 : decode cX12_named 21 = .ok (.if_icmp .lt 7, 3) := by decide +kernel
theorem dX12_named_24 : decode cX12_named 24 = .ok (.iconst 2, 1) := by decide +kernel
theorem dX12_named_25 : decode cX12_named 25 = .ok (.goto 4, 3) := by decide +kernel
theorem dX12_named_28 : decode cX12_named 28 = .ok (.iconst 0, 1) := by decide +kernel
theorem dX12_named_29 : decode cX12_named 29 = .ok (.putfield 124, 3) := by decide +kernel
theorem dX12_named_32 : decode cX12_named 32 = .ok (.aload_n 0, 1) := by decide +kernel
theorem dX12_named_33 : decode cX12_named 33 = .ok (.getfield 124, 3) := by decide +kernel
theorem dX12_named_36 : decode cX12_named 36 = .ok (.ifCond .le 7, 3) := by decide +kernel
theorem dX12_named_39 : decode cX12_named 39 = .ok (.iconst 0, 1) := by decide +kernel
theorem dX12_named_40 : decode cX12_named 40 = .ok (.goto 9, 3) := by decide +kernel
theorem dX12_named_43 : decode cX12_named 43 = .ok (.aload_n 0, 1) := by decide +kernel
theorem dX12_named_44 : decode cX12_named 44 = .ok (.iload_n 1, 1) := by decide +kernel
theorem dX12_named_45 : decode cX12_named 45 = .ok (.iconst 0, 1) := by decide +kernel
theorem dX12_named_46 : decode cX12_named 46 = .ok (.invokevirtual 312, 3) := by decide +kernel
theorem dX12_named_49 : decode cX12_named 49 = .ok (.ireturn, 1) := by decide +kernel
theorem dX12_twice_0 : decode cX12_twice 0 = .ok (.aload_n 0, 1) := by decide +kernel
theorem dX12_twice_1 : decode cX12_twice 1 = .ok (.iload_n 1, 1) := by decide +kernel
theorem dX12_twice_2 : decode cX12_twice 2 = .ok (.ifCond .ge 7, 3) := by decide +kernel
theorem dX12_twice_5 : decode cX12_twice 5 = .ok (.iconst 1, 1) := by decide +kernel
theorem dX12_twice_6 : decode cX12_twice 6 = .ok (.goto 15, 3) := by decide +kernel
theorem dX12_twice_9 : decode cX12_twice 9 = .ok (.aload_n 0, 1) := by decide +kernel
theorem dX12_twice_10 : decode cX12_twice 10 = .ok (.getfield 130, 3) := by decide +kernel
theorem dX12_twice_13 : decode cX12_twice 13 = .ok (.ifCond .ne 7, 3) := by decide +kernel
theorem dX12_twice_16 : decode cX12_twice 16 = .ok (.iconst 2, 1) := by decide +kernel
theorem dX12_twice_17 : decode cX12_twice 17 = .ok (.goto 4, 3) := by decide +kernel
theorem dX12_twice_20 : decode cX12_twice 20 = .ok (.iconst 0, 1) := by decide +kernel
theorem dX12_twice_21 : decode cX12_twice 21 = .ok (.putfield 124, 3) := by decide +kernel
theorem dX12_twice_24 : decode cX12_twice 24 = .ok (.iload_n 1, 1) := by decide +kernel
theorem dX12_twice_25 : decode cX12_twice 25 = .ok (.istore_n 2, 1) := by decide +kernel
theorem dX12_twice_26 : decode cX12_twice 26 = .ok (.iconst 0, 1) := by decide +kernel
theorem dX12_twice_27 : decode cX12_twice 27 = .ok (.istore_n 3, 1) := by decide +kernel
theorem dX12_twice_28 : decode cX12_twice 28 = .ok (.iload_n 3, 1) := by decide +kernel
theorem dX12_twice_29 : decode cX12_twice 29 = .ok (.aload_n 0, 1) := by decide +kernel
theorem dX12_twice_30 : decode cX12_twice 30 = .ok (.getfield 277, 3) := by decide +kernel
theorem dX12_twice_33 : decode cX12_twice 33 = .ok (.if_icmp .ge 40, 3) := by decide +kernel
theorem dX12_twice_36 : decode cX12_twice 36 = .ok (.aload_n 0, 1) := by decide +kernel
theorem dX12_twice_37 : decode cX12_twice 37 = .ok (.getfield 124, 3) := by decide +kernel
theorem dX12_twice_40 : decode cX12_twice 40 = .ok (.ifCond .ne 33, 3) := by decide +kernel
theorem dX12_twice_43 : decode cX12_twice 43 = .ok (.aload_n 0, 1) := by decide +kernel
theorem dX12_twice_44 : decode cX12_twice 44 = .ok (.iload_n 3, 1) := by decide +kernel
theorem dX12_twice_45 : decode cX12_twice 45 = .ok (.iconst 0, 1) := by decide +kernel
theorem dX12_twice_46 : decode cX12_twice 46 = .ok (.invokevirtual 312, 3) := by decide +kernel
theorem dX12_twice_49 : decode cX12_twice 49 = .ok (.aload_n 0, 1) := by decide +kernel
theorem dX12_twice_50 : decode cX12_twice 50 = .ok (.iload_n 3, 1) := by decide +kernel
theorem dX12_twice_51 : decode cX12_twice 51 = .ok (.iconst 1, 1) := by decide +kernel
theorem dX12_twice_52 : decode cX12_twice 52 = .ok (.invokevirtual 312, 3) := by decide +kernel
theorem dX12_twice_55 : decode cX12_twice 55 = .ok (.if_icmp .eq 12, 3) := by decide +kernel
theorem dX12_twice_58 : decode cX12_twice 58 = .ok (.iload_n 2, 1) := by decide +kernel
theorem dX12_twice_59 : decode cX12_twice 59 = .ok (.ifCond .ne 5, 3) := by decide +kernel
theorem dX12_twice_62 : decode cX12_twice 62 = .ok (.iload_n 3, 1) := by decide +kernel
theorem dX12_twice_63 : decode cX12_twice 63 = .ok (.ireturn, 1) := by decide +kernel
theorem dX12_twice_64 : decode cX12_twice 64 = .ok (.iinc 2 (-1), 3) := by decide +kernel
theorem dX12_twice_67 : decode cX12_twice 67 = .ok (.iinc 3 1, 3) := by decide +kernel
theorem dX12_twice_70 : decode cX12_twice 70 = .ok (.goto (-42), 3) := by decide +kernel
theorem dX12_twice_73 : decode cX12_twice 73 = .ok (.aload_n 0, 1) := by decide +kernel
theorem dX12_twice_74 : decode cX12_twice 74 = .ok (.getfield 124, 3) := by decide +kernel
theorem dX12_twice_77 : decode cX12_twice 77 = .ok (.ifCond .le 7, 3) := by decide +kernel
theorem dX12_twice_80 : decode cX12_twice 80 = .ok (.iconst 0, 1) := by decide +kernel
theorem dX12_twice_81 : decode cX12_twice 81 = .ok (.goto 4, 3) := by decide +kernel
theorem dX12_twice_84 : decode cX12_twice 84 = .ok (.iconst (-1), 1) := by decide +kernel
theorem dX12_twice_85 : decode cX12_twice 85 = .ok (.ireturn, 1) := by decide +kernel
theorem dX12_bad_0 : decode cX12_bad 0 = .ok (.aload_n 0, 1) := by decide +kernel
theorem dX12_bad_1 : decode cX12_bad 1 = .ok (.iload_n 1, 1) := by decide +kernel
theorem dX12_bad_2 : decode cX12_bad 2 = .ok (.ifCond .ge 7, 3) := by decide +kernel
theorem dX12_bad_5 : decode cX12_bad 5 = .ok (.iconst 1, 1) := by decide +kernel
theorem dX12_bad_6 : decode cX12_bad 6 = .ok (.goto 15, 3) := by decide +kernel
theorem dX12_bad_9 : decode cX12_bad 9 = .ok (.aload_n 0, 1) := by decide +kernel
theorem dX12_bad_10 : decode cX12_bad 10 = .ok (.getfield 130, 3) := by decide +kernel
theorem dX12_bad_13 : decode cX12_bad 13 = .ok (.ifCond .ne 7, 3) := by decide +kernel
theorem dX12_bad_16 : decode cX12_bad 16 = .ok (.iconst 2, 1) := by decide +kernel
theorem dX12_bad_17 : decode cX12_bad 17 = .ok (.goto 4, 3) := by decide +kernel
theorem dX12_bad_20 : decode cX12_bad 20 = .ok (.iconst 0, 1) := by decide +kernel
theorem dX12_bad_21 : decode cX12_bad 21 = .ok (.putfield 124, 3) := by decide +kernel
theorem dX12_bad_24 : decode cX12_bad 24 = .ok (.iload_n 1, 1) := by decide +kernel
theorem dX12_bad_25 : decode cX12_bad 25 = .ok (.istore_n 2, 1) := by decide +kernel
theorem dX12_bad_26 : decode cX12_bad 26 = .ok (.iconst 0, 1) := by decide +kernel
theorem dX12_bad_27 : decode cX12_bad 27 = .ok (.istore_n 3, 1) := by decide +kernel
theorem dX12_bad_28 : decode cX12_bad 28 = .ok (.iload_n 3, 1) := by decide +kernel
theorem dX12_bad_29 : decode cX12_bad 29 = .ok (.aload_n 0, 1) := by decide +kernel
theorem dX12_bad_30 : decode cX12_bad 30 = .ok (.getfield 296, 3) := by decide +kernel
theorem dX12_bad_33 : decode cX12_bad 33 = .ok (.if_icmp .ge 34, 3) := by decide +kernel
theorem dX12_bad_36 : decode cX12_bad 36 = .ok (.aload_n 0, 1) := by decide +kernel
theorem dX12_bad_37 : decode cX12_bad 37 = .ok (.getfield 124, 3) := by decide +kernel
theorem dX12_bad_40 : decode cX12_bad 40 = .ok (.ifCond .ne 27, 3) := by decide +kernel
theorem dX12_bad_43 : decode cX12_bad 43 = .ok (.aload_n 0, 1) := by decide +kernel
theorem dX12_bad_44 : decode cX12_bad 44 = .ok (.getfield 101, 3) := by decide +kernel
theorem dX12_bad_47 : decode cX12_bad 47 = .ok (.iload_n 3, 1) := by decide +kernel
theorem dX12_bad_48 : decode cX12_bad 48 = .ok (.baload, 1) := by decide +kernel
theorem dX12_bad_49 : decode cX12_bad 49 = .ok (.ifCond .eq 12, 3) := by decide +kernel
theorem dX12_bad_52 : decode cX12_bad 52 = .ok (.iload_n 2, 1) := by decide +kernel
theorem dX12_bad_53 : decode cX12_bad 53 = .ok (.ifCond .ne 5, 3) := by decide +kernel
theorem dX12_bad_56 : decode cX12_bad 56 = .ok (.iload_n 3, 1) := by decide +kernel
theorem dX12_bad_57 : decode cX12_bad 57 = .ok (.ireturn, 1) := by decide +kernel
theorem dX12_bad_58 : decode cX12_bad 58 = .ok (.iinc 2 (-1), 3) := by decide +kernel
theorem dX12_bad_61 : decode cX12_bad 61 = .ok (.iinc 3 1, 3) := by decide +kernel
theorem dX12_bad_64 : decode cX12_bad 64 = .ok (.goto (-36), 3) := by decide +kernel
theorem dX12_bad_67 : decode cX12_bad 67 = .ok (.aload_n 0, 1) := by decide +kernel
theorem dX12_bad_68 : decode cX12_bad 68 = .ok (.getfield 124, 3) := by decide +kernel
theorem dX12_bad_71 : decode cX12_bad 71 = .ok (.ifCond .le 7, 3) := by decide +kernel
theorem dX12_bad_74 : decode cX12_bad 74 = .ok (.iconst 0, 1) := by decide +kernel
theorem dX12_bad_75 : decode cX12_bad 75 = .ok (.goto 4, 3) := by decide +kernel
theorem dX12_bad_78 : decode cX12_bad 78 = .ok (.iconst (-1), 1) := by decide +kernel
theorem dX12_bad_79 : decode cX12_bad 79 = .ok (.ireturn, 1) := by decide +kernel
theorem dX12_joined_0 : decode cX12_joined 0 = .ok (.aload_n 0, 1) := by decide +kernel
theorem dX12_joined_1 : decode cX12_joined 1 = .ok (.aload_n 0, 1) := by decide +kernel
theorem dX12_joined_2 : decode cX12_joined 2 = .ok (.getfield 130, 3) := by decide +kernel
theorem dX12_joined_5 : decode cX12_joined 5 = .ok (.ifCond .ne 7, 3) := by decide +kernel
theorem dX12_joined_8 : decode cX12_joined 8 = .ok (.iconst 1, 1) := by decide +kernel
theorem dX12_joined_9 : decode cX12_joined 9 = .ok (.goto 20, 3) := by decide +kernel
theorem dX12_joined_12 : decode cX12_joined 12 = .ok (.iload_n 1, 1) := by decide +kernel
theorem dX12_joined_13 : decode cX12_joined 13 = .ok (.ifCond .lt 11, 3) := by decide +kernel
theorem dX12_joined_16 : decode cX12_joined 16 = .ok (.iload_n 1, 1) := by decide +kernel
theorem dX12_joined_17 : decode cX12_joined 17 = .ok (.aload_n 0, 1) := by decide +kernel
theorem dX12_joined_18 : decode cX12_joined 18 = .ok (.getfield 237, 3) := by decide +kernel
theorem dX12_joined_21 : decode cX12_joined 21 = .ok (.if_icmp .lt 7, 3) := by decide +kernel
theorem dX12_joined_24 : decode cX12_joined 24 = .ok (.iconst 2, 1) := by decide +kernel
theorem dX12_joined_25 : decode cX12_joined 25 = .ok (.goto 4, 3) := by decide +kernel
theorem dX12_joined_28 : decode cX12_joined 28 = .ok (.iconst 0, 1) := by decide +kernel
theorem dX12_joined_29 : decode cX12_joined 29 = .ok (.putfield 124, 3) := by decide +kernel
theorem dX12_joined_32 : decode cX12_joined 32 = .ok (.iconst 0, 1) := by decide +kernel
theorem dX12_joined_33 : decode cX12_joined 33 = .ok (.istore_n 2, 1) := by decide +kernel
theorem dX12_joined_34 : decode cX12_joined 34 = .ok (.iconst 0, 1) := by decide +kernel
theorem dX12_joined_35 : decode cX12_joined 35 = .ok (.istore_n 3, 1) := by decide +kernel
theorem dX12_joined_36 : decode cX12_joined 36 = .ok (.iload_n 3, 1) := by decide +kernel
theorem dX12_joined_37 : decode cX12_joined 37 = .ok (.aload_n 0, 1) := by decide +kernel
theorem dX12_joined_38 : decode cX12_joined 38 = .ok (.getfield 296, 3) := by decide +kernel
theorem dX12_joined_41 : decode cX12_joined 41 = .ok (.if_icmp .ge 181, 3) := by decide +kernel
theorem dX12_joined_44 : decode cX12_joined 44 = .ok (.aload_n 0, 1) := by decide +kernel
theorem dX12_joined_45 : decode cX12_joined 45 = .ok (.getfield 124, 3) := by decide +kernel
theorem dX12_joined_48 : decode cX12_joined 48 = .ok (.ifCond .ne 174, 3) := by decide +kernel
theorem dX12_joined_51 : decode cX12_joined 51 = .ok (.aload_n 0, 1) := by decide +kernel
theorem dX12_joined_52 : decode cX12_joined 52 = .ok (.getfield 92, 3) := by decide +kernel
theorem dX12_joined_55 : decode cX12_joined 55 = .ok (.iload_n 3, 1) := by decide +kernel
theorem dX12_joined_56 : decode cX12_joined 56 = .ok (.iaload, 1) := by decide +kernel
theorem dX12_joined_57 : decode cX12_joined 57 = .ok (.iload_n 1, 1) := by decide +kernel
theorem dX12_joined_58 : decode cX12_joined 58 = .ok (.if_icmp .ne 16, 3) := by decide +kernel
theorem dX12_joined_61 : decode cX12_joined 61 = .ok (.aload_n 0, 1) := by decide +kernel
theorem dX12_joined_62 : decode cX12_joined 62 = .ok (.getfield 101, 3) := by decide +kernel
theorem dX12_joined_65 : decode cX12_joined 65 = .ok (.iload_n 3, 1) := by decide +kernel
theorem dX12_joined_66 : decode cX12_joined 66 = .ok (.baload, 1) := by decide +kernel
theorem dX12_joined_67 : decode cX12_joined 67 = .ok (.ifCond .ne 7, 3) := by decide +kernel
theorem dX12_joined_70 : decode cX12_joined 70 = .ok (.iconst 1, 1) := by decide +kernel
theorem dX12_joined_71 : decode cX12_joined 71 = .ok (.goto 4, 3) := by decide +kernel
theorem dX12_joined_74 : decode cX12_joined 74 = .ok (.iconst 0, 1) := by decide +kernel
theorem dX12_joined_75 : decode cX12_joined 75 = .ok (.istore 4, 2) := by decide +kernel
theorem dX12_joined_77 : decode cX12_joined 77 = .ok (.iconst 0, 1) := by decide +kernel
theorem dX12_joined_78 : decode cX12_joined 78 = .ok (.istore 5, 2) := by decide +kernel
theorem dX12_joined_80 : decode cX12_joined 80 = .ok (.iload 5, 2) := by decide +kernel
theorem dX12_joined_82 : decode cX12_joined 82 = .ok (.iload_n 3, 1) := by decide +kernel
theorem dX12_joined_83 : decode cX12_joined 83 = .ok (.if_icmp .ge 120, 3) := by decide +kernel
theorem dX12_joined_86 : decode cX12_joined 86 = .ok (.iload 4, 2) := by decide +kernel
theorem dX12_joined_88 : decode cX12_joined 88 = .ok (.ifCond .eq 115, 3) := by decide +kernel
theorem dX12_joined_91 : decode cX12_joined 91 = .ok (.aload_n 0, 1) := by decide +kernel
theorem dX12_joined_92 : decode cX12_joined 92 = .ok (.getfield 92, 3) := by decide +kernel
theorem dX12_joined_95 : decode cX12_joined 95 = .ok (.iload 5, 2) := by decide +kernel
theorem dX12_joined_97 : decode cX12_joined 97 = .ok (.iaload, 1) := by decide +kernel
theorem dX12_joined_98 : decode cX12_joined 98 = .ok (.iload_n 1, 1) := by decide +kernel
theorem dX12_joined_99 : decode cX12_joined 99 = .ok (.if_icmp .ne 17, 3) := by decide +kernel
theorem dX12_joined_102 : decode cX12_joined 102 = .ok (.aload_n 0, 1) := by decide +kernel
theorem dX12_joined_103 : decode cX12_joined 103 = .ok (.getfield 101, 3) := by decide +kernel
theorem dX12_joined_106 : decode cX12_joined 106 = .ok (.iload 5, 2) := by decide +kernel
theorem dX12_joined_108 : decode cX12_joined 108 = .ok (.baload, 1) := by decide +kernel
theorem dX12_joined_109 : decode cX12_joined 109 = .ok (.ifCond .ne 7, 3) := by decide +kernel
theorem dX12_joined_112 : decode cX12_joined 112 = .ok (.iconst 1, 1) := by decide +kernel
theorem dX12_joined_113 : decode cX12_joined 113 = .ok (.goto 4, 3) := by decide +kernel
theorem dX12_joined_116 : decode cX12_joined 116 = .ok (.iconst 0, 1) := by decide +kernel
theorem dX12_joined_117 : decode cX12_joined 117 = .ok (.istore 6, 2) := by decide +kernel
theorem dX12_joined_119 : decode cX12_joined 119 = .ok (.iconst 0, 1) := by decide +kernel
theorem dX12_joined_120 : decode cX12_joined 120 = .ok (.istore 7, 2) := by decide +kernel
theorem dX12_joined_122 : decode cX12_joined 122 = .ok (.iload 7, 2) := by decide +kernel
theorem dX12_joined_124 : decode cX12_joined 124 = .ok (.aload_n 0, 1) := by decide +kernel
theorem dX12_joined_125 : decode cX12_joined 125 = .ok (.getfield 62, 3) := by decide +kernel
theorem dX12_joined_128 : decode cX12_joined 128 = .ok (.iload_n 1, 1) := by decide +kernel
theorem dX12_joined_129 : decode cX12_joined 129 = .ok (.iaload, 1) := by decide +kernel
theorem dX12_joined_130 : decode cX12_joined 130 = .ok (.if_icmp .ge 55, 3) := by decide +kernel
theorem dX12_joined_133 : decode cX12_joined 133 = .ok (.iload 6, 2) := by decide +kernel
theorem dX12_joined_135 : decode cX12_joined 135 = .ok (.ifCond .eq 50, 3) := by decide +kernel
theorem dX12_joined_138 : decode cX12_joined 138 = .ok (.aload_n 0, 1) := by decide +kernel
theorem dX12_joined_139 : decode cX12_joined 139 = .ok (.aload_n 0, 1) := by decide +kernel
theorem dX12_joined_140 : decode cX12_joined 140 = .ok (.getfield 104, 3) := by decide +kernel
theorem dX12_joined_143 : decode cX12_joined 143 = .ok (.iconst 4, 1) := by decide +kernel
theorem dX12_joined_144 : decode cX12_joined 144 = .ok (.iload_n 3, 1) := by decide +kernel
theorem dX12_joined_145 : decode cX12_joined 145 = .ok (.imul, 1) := by decide +kernel
theorem dX12_joined_146 : decode cX12_joined 146 = .ok (.iload 7, 2) := by decide +kernel
theorem dX12_joined_148 : decode cX12_joined 148 = .ok (.iadd, 1) := by decide +kernel
theorem dX12_joined_149 : decode cX12_joined 149 = .ok (.iaload, 1) := by decide +kernel
theorem dX12_joined_150 : decode cX12_joined 150 = .ok (.invokevirtual 308, 3) := by decide +kernel
theorem dX12_joined_153 : decode cX12_joined 153 = .ok (.aload_n 0, 1) := by decide +kernel
theorem dX12_joined_154 : decode cX12_joined 154 = .ok (.aload_n 0, 1) := by decide +kernel
theorem dX12_joined_155 : decode cX12_joined 155 = .ok (.getfield 104, 3) := by decide +kernel
theorem dX12_joined_158 : decode cX12_joined 158 = .ok (.iconst 4, 1) := by decide +kernel
theorem dX12_joined_159 : decode cX12_joined 159 = .ok (.iload 5, 2) := by decide +kernel
theorem dX12_joined_161 : decode cX12_joined 161 = .ok (.imul, 1) := by decide +kernel
theorem dX12_joined_162 : decode cX12_joined 162 = .ok (.iload 7, 2) := by decide +kernel
theorem dX12_joined_164 : decode cX12_joined 164 = .ok (.iadd, 1) := by decide +kernel
theorem dX12_joined_165 : decode cX12_joined 165 = .ok (.iaload, 1) := by decide +kernel
theorem dX12_joined_166 : decode cX12_joined 166 = .ok (.invokevirtual 308, 3) := by decide +kernel
theorem dX12_joined_169 : decode cX12_joined 169 = .ok (.if_icmp .ne 7, 3) := by decide +kernel
theorem dX12_joined_172 : decode cX12_joined 172 = .ok (.iconst 1, 1) := by decide +kernel
theorem dX12_joined_173 : decode cX12_joined 173 = .ok (.goto 4, 3) := by decide +kernel
theorem dX12_joined_176 : decode cX12_joined 176 = .ok (.iconst 0, 1) := by decide +kernel
theorem dX12_joined_177 : decode cX12_joined 177 = .ok (.istore 6, 2) := by decide +kernel
theorem dX12_joined_179 : decode cX12_joined 179 = .ok (.iinc 7 1, 3) := by decide +kernel
theorem dX12_joined_182 : decode cX12_joined 182 = .ok (.goto (-60), 3) := by decide +kernel
theorem dX12_joined_185 : decode cX12_joined 185 = .ok (.iload 6, 2) := by decide +kernel
theorem dX12_joined_187 : decode cX12_joined 187 = .ok (.ifCond .ne 7, 3) := by decide +kernel
theorem dX12_joined_190 : decode cX12_joined 190 = .ok (.iconst 1, 1) := by decide +kernel
theorem dX12_joined_191 : decode cX12_joined 191 = .ok (.goto 4, 3) := by decide +kernel
theorem dX12_joined_194 : decode cX12_joined 194 = .ok (.iconst 0, 1) := by decide +kernel
theorem dX12_joined_195 : decode cX12_joined 195 = .ok (.istore 4, 2) := by decide +kernel
theorem dX12_joined_197 : decode cX12_joined 197 = .ok (.iinc 5 1, 3) := by decide +kernel
theorem dX12_joined_200 : decode cX12_joined 200 = .ok (.goto (-120), 3) := by decide +kernel
theorem dX12_joined_203 : decode cX12_joined 203 = .ok (.iload_n 2, 1) := by decide +kernel
theorem dX12_joined_204 : decode cX12_joined 204 = .ok (.iload 4, 2) := by decide +kernel
theorem dX12_joined_206 : decode cX12_joined 206 = .ok (.ifCond .eq 7, 3) := by decide +kernel
theorem dX12_joined_209 : decode cX12_joined 209 = .ok (.iconst 1, 1) := by decide +kernel
theorem dX12_joined_210 : decode cX12_joined 210 = .ok (.goto 4, 3) := by decide +kernel
theorem dX12_joined_213 : decode cX12_joined 213 = .ok (.iconst 0, 1) := by decide +kernel
theorem dX12_joined_214 : decode cX12_joined 214 = .ok (.iadd, 1) := by decide +kernel
theorem dX12_joined_215 : decode cX12_joined 215 = .ok (.istore_n 2, 1) := by decide +kernel
theorem dX12_joined_216 : decode cX12_joined 216 = .ok (.iinc 3 1, 3) := by decide +kernel
theorem dX12_joined_219 : decode cX12_joined 219 = .ok (.goto (-183), 3) := by decide +kernel
theorem dX12_joined_222 : decode cX12_joined 222 = .ok (.iload_n 2, 1) := by decide +kernel
theorem dX12_joined_223 : decode cX12_joined 223 = .ok (.ireturn, 1) := by decide +kernel
theorem dX12_count_0 : decode cX12_count 0 = .ok (.aload_n 0, 1) := by decide +kernel
theorem dX12_count_1 : decode cX12_count 1 = .ok (.iload_n 1, 1) := by decide +kernel
theorem dX12_count_2 : decode cX12_count 2 = .ok (.ifCond .lt 9, 3) := by decide +kernel
theorem dX12_count_5 : decode cX12_count 5 = .ok (.iload_n 1, 1) := by decide +kernel
theorem dX12_count_6 : decode cX12_count 6 = .ok (.bipush 8, 2) := by decide +kernel
theorem dX12_count_8 : decode cX12_count 8 = .ok (.if_icmp .le 7, 3) := by decide +kernel
theorem dX12_count_11 : decode cX12_count 11 = .ok (.iconst 1, 1) := by decide +kernel
theorem dX12_count_12 : decode cX12_count 12 = .ok (.goto 4, 3) := by decide +kernel
theorem dX12_count_15 : decode cX12_count 15 = .ok (.iconst 0, 1) := by decide +kernel
theorem dX12_count_16 : decode cX12_count 16 = .ok (.putfield 124, 3) := by decide +kernel
theorem dX12_count_19 : decode cX12_count 19 = .ok (.aload_n 0, 1) := by decide +kernel
theorem dX12_count_20 : decode cX12_count 20 = .ok (.getfield 124, 3) := by decide +kernel
theorem dX12_count_23 : decode cX12_count 23 = .ok (.ifCond .le 5, 3) := by decide +kernel
theorem dX12_count_26 : decode cX12_count 26 = .ok (.iconst 0, 1) := by decide +kernel
theorem dX12_count_27 : decode cX12_count 27 = .ok (.ireturn, 1) := by decide +kernel
theorem dX12_count_28 : decode cX12_count 28 = .ok (.iload_n 1, 1) := by decide +kernel
theorem dX12_count_29 : decode cX12_count 29 = .ok (.tableswitch 109 0 7 #[47, 52, 57, 62, 67, 83, 99, 104], 47) := by decide +kernel
theorem dX12_count_76 : decode cX12_count 76 = .ok (.aload_n 0, 1) := by decide +kernel
theorem dX12_count_77 : decode cX12_count 77 = .ok (.getfield 243, 3) := by decide +kernel
theorem dX12_count_80 : decode cX12_count 80 = .ok (.ireturn, 1) := by decide +kernel
theorem dX12_count_81 : decode cX12_count 81 = .ok (.aload_n 0, 1) := by decide +kernel
theorem dX12_count_82 : decode cX12_count 82 = .ok (.getfield 246, 3) := by decide +kernel
theorem dX12_count_85 : decode cX12_count 85 = .ok (.ireturn, 1) := by decide +kernel
theorem dX12_count_86 : decode cX12_count 86 = .ok (.aload_n 0, 1) := by decide +kernel
theorem dX12_count_87 : decode cX12_count 87 = .ok (.getfield 249, 3) := by decide +kernel
theorem dX12_count_90 : decode cX12_count 90 = .ok (.ireturn, 1) := by decide +kernel
theorem dX12_count_91 : decode cX12_count 91 = .ok (.aload_n 0, 1) := by decide +kernel
theorem dX12_count_92 : decode cX12_count 92 = .ok (.getfield 237, 3) := by decide +kernel
theorem dX12_count_95 : decode cX12_count 95 = .ok (.ireturn, 1) := by decide +kernel
theorem dX12_count_96 : decode cX12_count 96 = .ok (.aload_n 0, 1) := by decide +kernel
theorem dX12_count_97 : decode cX12_count 97 = .ok (.getfield 130, 3) := by decide +kernel
theorem dX12_count_100 : decode cX12_count 100 = .ok (.ifCond .eq 10, 3) := by decide +kernel
theorem dX12_count_103 : decode cX12_count 103 = .ok (.aload_n 0, 1) := by decide +kernel
theorem dX12_count_104 : decode cX12_count 104 = .ok (.getfield 296, 3) := by decide +kernel
theorem dX12_count_107 : decode cX12_count 107 = .ok (.goto 4, 3) := by decide +kernel
theorem dX12_count_110 : decode cX12_count 110 = .ok (.iconst 0, 1) := by decide +kernel
theorem dX12_count_111 : decode cX12_count 111 = .ok (.ireturn, 1) := by decide +kernel
theorem dX12_count_112 : decode cX12_count 112 = .ok (.aload_n 0, 1) := by decide +kernel
theorem dX12_count_113 : decode cX12_count 113 = .ok (.getfield 130, 3) := by decide +kernel
theorem dX12_count_116 : decode cX12_count 116 = .ok (.ifCond .eq 10, 3) := by decide +kernel
theorem dX12_count_119 : decode cX12_count 119 = .ok (.aload_n 0, 1) := by decide +kernel
theorem dX12_count_120 : decode cX12_count 120 = .ok (.getfield 277, 3) := by decide +kernel
theorem dX12_count_123 : decode cX12_count 123 = .ok (.goto 4, 3) := by decide +kernel
theorem dX12_count_126 : decode cX12_count 126 = .ok (.iconst 0, 1) := by decide +kernel
theorem dX12_count_127 : decode cX12_count 127 = .ok (.ireturn, 1) := by decide +kernel
theorem dX12_count_128 : decode cX12_count 128 = .ok (.aload_n 0, 1) := by decide +kernel
theorem dX12_count_129 : decode cX12_count 129 = .ok (.getfield 127, 3) := by decide +kernel
theorem dX12_count_132 : decode cX12_count 132 = .ok (.ireturn, 1) := by decide +kernel
theorem dX12_count_133 : decode cX12_count 133 = .ok (.aload_n 0, 1) := by decide +kernel
theorem dX12_count_134 : decode cX12_count 134 = .ok (.getfield 140, 3) := by decide +kernel
theorem dX12_count_137 : decode cX12_count 137 = .ok (.ireturn, 1) := by decide +kernel
theorem dX12_count_138 : decode cX12_count 138 = .ok (.aload_n 0, 1) := by decide +kernel
theorem dX12_count_139 : decode cX12_count 139 = .ok (.getfield 147, 3) := by decide +kernel
theorem dX12_count_142 : decode cX12_count 142 = .ok (.ireturn, 1) := by decide +kernel
