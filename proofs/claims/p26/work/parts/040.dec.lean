theorem dL_below_0 : decode cL_below 0 = .ok (.iload_n 0, 1) := by decide +kernel
theorem dL_below_1 : decode cL_below 1 = .ok (.ldc 7, 2) := by decide +kernel
theorem dL_below_3 : decode cL_below 3 = .ok (.iand, 1) := by decide +kernel
theorem dL_below_4 : decode cL_below 4 = .ok (.iload_n 1, 1) := by decide +kernel
theorem dL_below_5 : decode cL_below 5 = .ok (.irem, 1) := by decide +kernel
theorem dL_below_6 : decode cL_below 6 = .ok (.ireturn, 1) := by decide +kernel
theorem dL_cell_0 : decode cL_cell 0 = .ok (.iload_n 1, 1) := by decide +kernel
theorem dL_cell_1 : decode cL_cell 1 = .ok (.aload_n 0, 1) := by decide +kernel
theorem dL_cell_2 : decode cL_cell 2 = .ok (.arraylength, 1) := by decide +kernel
theorem dL_cell_3 : decode cL_cell 3 = .ok (.if_icmp .ge 9, 3) := by decide +kernel
theorem dL_cell_6 : decode cL_cell 6 = .ok (.aload_n 0, 1) := by decide +kernel
theorem dL_cell_7 : decode cL_cell 7 = .ok (.iload_n 1, 1) := by decide +kernel
theorem dL_cell_8 : decode cL_cell 8 = .ok (.iaload, 1) := by decide +kernel
theorem dL_cell_9 : decode cL_cell 9 = .ok (.goto 9, 3) := by decide +kernel
theorem dL_cell_12 : decode cL_cell 12 = .ok (.ldc 8, 2) := by decide +kernel
theorem dL_cell_14 : decode cL_cell 14 = .ok (.iload_n 1, 1) := by decide +kernel
theorem dL_cell_15 : decode cL_cell 15 = .ok (.iconst 3, 1) := by decide +kernel
theorem dL_cell_16 : decode cL_cell 16 = .ok (.iadd, 1) := by decide +kernel
theorem dL_cell_17 : decode cL_cell 17 = .ok (.imul, 1) := by decide +kernel
theorem dL_cell_18 : decode cL_cell 18 = .ok (.ireturn, 1) := by decide +kernel
theorem dL_taught_0 : decode cL_taught 0 = .ok (.aload_n 0, 1) := by decide +kernel
theorem dL_taught_1 : decode cL_taught 1 = .ok (.iconst 0, 1) := by decide +kernel
theorem dL_taught_2 : decode cL_taught 2 = .ok (.invokevirtual 9, 3) := by decide +kernel
theorem dL_taught_5 : decode cL_taught 5 = .ok (.pop, 1) := by decide +kernel
theorem dL_taught_6 : decode cL_taught 6 = .ok (.iconst 0, 1) := by decide +kernel
theorem dL_taught_7 : decode cL_taught 7 = .ok (.istore_n 2, 1) := by decide +kernel
theorem dL_taught_8 : decode cL_taught 8 = .ok (.iload_n 2, 1) := by decide +kernel
theorem dL_taught_9 : decode cL_taught 9 = .ok (.aload_n 1, 1) := by decide +kernel
theorem dL_taught_10 : decode cL_taught 10 = .ok (.invokevirtual 15, 3) := by decide +kernel
theorem dL_taught_13 : decode cL_taught 13 = .ok (.if_icmp .ge 89, 3) := by decide +kernel
theorem dL_taught_16 : decode cL_taught 16 = .ok (.iconst 5, 1) := by decide +kernel
theorem dL_taught_17 : decode cL_taught 17 = .ok (.newarray .int, 2) := by decide +kernel
theorem dL_taught_19 : decode cL_taught 19 = .ok (.astore_n 3, 1) := by decide +kernel
theorem dL_taught_20 : decode cL_taught 20 = .ok (.iconst 0, 1) := by decide +kernel
theorem dL_taught_21 : decode cL_taught 21 = .ok (.istore 4, 2) := by decide +kernel
theorem dL_taught_23 : decode cL_taught 23 = .ok (.iload 4, 2) := by decide +kernel
theorem dL_taught_25 : decode cL_taught 25 = .ok (.bipush 20, 2) := by decide +kernel
theorem dL_taught_27 : decode cL_taught 27 = .ok (.if_icmp .ge 49, 3) := by decide +kernel
theorem dL_taught_30 : decode cL_taught 30 = .ok (.aload_n 3, 1) := by decide +kernel
theorem dL_taught_31 : decode cL_taught 31 = .ok (.iload 4, 2) := by decide +kernel
theorem dL_taught_33 : decode cL_taught 33 = .ok (.iconst 4, 1) := by decide +kernel
theorem dL_taught_34 : decode cL_taught 34 = .ok (.idiv, 1) := by decide +kernel
theorem dL_taught_35 : decode cL_taught 35 = .ok (.aload_n 3, 1) := by decide +kernel
theorem dL_taught_36 : decode cL_taught 36 = .ok (.iload 4, 2) := by decide +kernel
theorem dL_taught_38 : decode cL_taught 38 = .ok (.iconst 4, 1) := by decide +kernel
theorem dL_taught_39 : decode cL_taught 39 = .ok (.idiv, 1) := by decide +kernel
theorem dL_taught_40 : decode cL_taught 40 = .ok (.iaload, 1) := by decide +kernel
theorem dL_taught_41 : decode cL_taught 41 = .ok (.bipush 8, 2) := by decide +kernel
theorem dL_taught_43 : decode cL_taught 43 = .ok (.ishl, 1) := by decide +kernel
theorem dL_taught_44 : decode cL_taught 44 = .ok (.iload_n 2, 1) := by decide +kernel
theorem dL_taught_45 : decode cL_taught 45 = .ok (.iload 4, 2) := by decide +kernel
theorem dL_taught_47 : decode cL_taught 47 = .ok (.iadd, 1) := by decide +kernel
theorem dL_taught_48 : decode cL_taught 48 = .ok (.aload_n 1, 1) := by decide +kernel
theorem dL_taught_49 : decode cL_taught 49 = .ok (.invokevirtual 15, 3) := by decide +kernel
theorem dL_taught_52 : decode cL_taught 52 = .ok (.if_icmp .ge 14, 3) := by decide +kernel
theorem dL_taught_55 : decode cL_taught 55 = .ok (.aload_n 1, 1) := by decide +kernel
theorem dL_taught_56 : decode cL_taught 56 = .ok (.iload_n 2, 1) := by decide +kernel
theorem dL_taught_57 : decode cL_taught 57 = .ok (.iload 4, 2) := by decide +kernel
theorem dL_taught_59 : decode cL_taught 59 = .ok (.iadd, 1) := by decide +kernel
theorem dL_taught_60 : decode cL_taught 60 = .ok (.invokevirtual 21, 3) := by decide +kernel
theorem dL_taught_63 : decode cL_taught 63 = .ok (.goto 5, 3) := by decide +kernel
theorem dL_taught_66 : decode cL_taught 66 = .ok (.bipush 32, 2) := by decide +kernel
theorem dL_taught_68 : decode cL_taught 68 = .ok (.ior, 1) := by decide +kernel
theorem dL_taught_69 : decode cL_taught 69 = .ok (.iastore, 1) := by decide +kernel
theorem dL_taught_70 : decode cL_taught 70 = .ok (.iinc 4 1, 3) := by decide +kernel
theorem dL_taught_73 : decode cL_taught 73 = .ok (.goto (-50), 3) := by decide +kernel
theorem dL_taught_76 : decode cL_taught 76 = .ok (.aload_n 0, 1) := by decide +kernel
theorem dL_taught_77 : decode cL_taught 77 = .ok (.aload_n 3, 1) := by decide +kernel
theorem dL_taught_78 : decode cL_taught 78 = .ok (.iconst 0, 1) := by decide +kernel
theorem dL_taught_79 : decode cL_taught 79 = .ok (.iaload, 1) := by decide +kernel
theorem dL_taught_80 : decode cL_taught 80 = .ok (.aload_n 3, 1) := by decide +kernel
theorem dL_taught_81 : decode cL_taught 81 = .ok (.iconst 1, 1) := by decide +kernel
theorem dL_taught_82 : decode cL_taught 82 = .ok (.iaload, 1) := by decide +kernel
theorem dL_taught_83 : decode cL_taught 83 = .ok (.aload_n 3, 1) := by decide +kernel
theorem dL_taught_84 : decode cL_taught 84 = .ok (.iconst 2, 1) := by decide +kernel
theorem dL_taught_85 : decode cL_taught 85 = .ok (.iaload, 1) := by decide +kernel
theorem dL_taught_86 : decode cL_taught 86 = .ok (.aload_n 3, 1) := by decide +kernel
theorem dL_taught_87 : decode cL_taught 87 = .ok (.iconst 3, 1) := by decide +kernel
theorem dL_taught_88 : decode cL_taught 88 = .ok (.iaload, 1) := by decide +kernel
theorem dL_taught_89 : decode cL_taught 89 = .ok (.aload_n 3, 1) := by decide +kernel
theorem dL_taught_90 : decode cL_taught 90 = .ok (.iconst 4, 1) := by decide +kernel
theorem dL_taught_91 : decode cL_taught 91 = .ok (.iaload, 1) := by decide +kernel
theorem dL_taught_92 : decode cL_taught 92 = .ok (.invokevirtual 25, 3) := by decide +kernel
theorem dL_taught_95 : decode cL_taught 95 = .ok (.pop, 1) := by decide +kernel
theorem dL_taught_96 : decode cL_taught 96 = .ok (.iinc 2 20, 3) := by decide +kernel
theorem dL_taught_99 : decode cL_taught 99 = .ok (.goto (-91), 3) := by decide +kernel
theorem dL_taught_102 : decode cL_taught 102 = .ok (.aload_n 0, 1) := by decide +kernel
theorem dL_taught_103 : decode cL_taught 103 = .ok (.aload_n 1, 1) := by decide +kernel
theorem dL_taught_104 : decode cL_taught 104 = .ok (.invokevirtual 15, 3) := by decide +kernel
theorem dL_taught_107 : decode cL_taught 107 = .ok (.invokevirtual 9, 3) := by decide +kernel
theorem dL_taught_110 : decode cL_taught 110 = .ok (.pop, 1) := by decide +kernel
theorem dL_taught_111 : decode cL_taught 111 = .ok (.aload_n 0, 1) := by decide +kernel
theorem dL_taught_112 : decode cL_taught 112 = .ok (.invokevirtual 29, 3) := by decide +kernel
theorem dL_taught_115 : decode cL_taught 115 = .ok (.ireturn, 1) := by decide +kernel
theorem dL_sum_0 : decode cL_sum 0 = .ok (.aload_n 0, 1) := by decide +kernel
theorem dL_sum_1 : decode cL_sum 1 = .ok (.iconst 4, 1) := by decide +kernel
theorem dL_sum_2 : decode cL_sum 2 = .ok (.iaload, 1) := by decide +kernel
theorem dL_sum_3 : decode cL_sum 3 = .ok (.istore_n 1, 1) := by decide +kernel
theorem dL_sum_4 : decode cL_sum 4 = .ok (.new 32, 3) := by decide +kernel
theorem dL_sum_7 : decode cL_sum 7 = .ok (.dup, 1) := by decide +kernel
theorem dL_sum_8 : decode cL_sum 8 = .ok (.invokespecial 34, 3) := by decide +kernel
theorem dL_sum_11 : decode cL_sum 11 = .ok (.ldc 35, 2) := by decide +kernel
theorem dL_sum_13 : decode cL_sum 13 = .ok (.invokevirtual 37, 3) := by decide +kernel
theorem dL_sum_16 : decode cL_sum 16 = .ok (.aload_n 0, 1) := by decide +kernel
theorem dL_sum_17 : decode cL_sum 17 = .ok (.bipush 7, 2) := by decide +kernel
theorem dL_sum_19 : decode cL_sum 19 = .ok (.iaload, 1) := by decide +kernel
theorem dL_sum_20 : decode cL_sum 20 = .ok (.invokevirtual 41, 3) := by decide +kernel
theorem dL_sum_23 : decode cL_sum 23 = .ok (.invokevirtual 44, 3) := by decide +kernel
theorem dL_sum_26 : decode cL_sum 26 = .ok (.astore_n 2, 1) := by decide +kernel
theorem dL_sum_27 : decode cL_sum 27 = .ok (.new 32, 3) := by decide +kernel
theorem dL_sum_30 : decode cL_sum 30 = .ok (.dup, 1) := by decide +kernel
theorem dL_sum_31 : decode cL_sum 31 = .ok (.invokespecial 34, 3) := by decide +kernel
theorem dL_sum_34 : decode cL_sum 34 = .ok (.ldc 48, 2) := by decide +kernel
theorem dL_sum_36 : decode cL_sum 36 = .ok (.invokevirtual 37, 3) := by decide +kernel
theorem dL_sum_39 : decode cL_sum 39 = .ok (.aload_n 0, 1) := by decide +kernel
theorem dL_sum_40 : decode cL_sum 40 = .ok (.bipush 9, 2) := by decide +kernel
theorem dL_sum_42 : decode cL_sum 42 = .ok (.iaload, 1) := by decide +kernel
theorem dL_sum_43 : decode cL_sum 43 = .ok (.invokevirtual 41, 3) := by decide +kernel
theorem dL_sum_46 : decode cL_sum 46 = .ok (.invokevirtual 44, 3) := by decide +kernel
theorem dL_sum_49 : decode cL_sum 49 = .ok (.astore_n 3, 1) := by decide +kernel
theorem dL_sum_50 : decode cL_sum 50 = .ok (.aload_n 0, 1) := by decide +kernel
theorem dL_sum_51 : decode cL_sum 51 = .ok (.iconst 3, 1) := by decide +kernel
theorem dL_sum_52 : decode cL_sum 52 = .ok (.iaload, 1) := by decide +kernel
theorem dL_sum_53 : decode cL_sum 53 = .ok (.tableswitch 259 0 6 #[43, 63, 92, 121, 167, 201, 230], 43) := by decide +kernel
theorem dL_sum_96 : decode cL_sum 96 = .ok (.new 32, 3) := by decide +kernel
theorem dL_sum_99 : decode cL_sum 99 = .ok (.dup, 1) := by decide +kernel
theorem dL_sum_100 : decode cL_sum 100 = .ok (.invokespecial 34, 3) := by decide +kernel
theorem dL_sum_103 : decode cL_sum 103 = .ok (.ldc 50, 2) := by decide +kernel
theorem dL_sum_105 : decode cL_sum 105 = .ok (.invokevirtual 37, 3) := by decide +kernel
theorem dL_sum_108 : decode cL_sum 108 = .ok (.iload_n 1, 1) := by decide +kernel
theorem dL_sum_109 : decode cL_sum 109 = .ok (.invokevirtual 41, 3) := by decide +kernel
theorem dL_sum_112 : decode cL_sum 112 = .ok (.invokevirtual 44, 3) := by decide +kernel
theorem dL_sum_115 : decode cL_sum 115 = .ok (.areturn, 1) := by decide +kernel
theorem dL_sum_116 : decode cL_sum 116 = .ok (.new 32, 3) := by decide +kernel
theorem dL_sum_119 : decode cL_sum 119 = .ok (.dup, 1) := by decide +kernel
theorem dL_sum_120 : decode cL_sum 120 = .ok (.invokespecial 34, 3) := by decide +kernel
theorem dL_sum_123 : decode cL_sum 123 = .ok (.ldc 52, 2) := by decide +kernel
theorem dL_sum_125 : decode cL_sum 125 = .ok (.invokevirtual 37, 3) := by decide +kernel
theorem dL_sum_128 : decode cL_sum 128 = .ok (.aload_n 2, 1) := by decide +kernel
theorem dL_sum_129 : decode cL_sum 129 = .ok (.invokevirtual 37, 3) := by decide +kernel
theorem dL_sum_132 : decode cL_sum 132 = .ok (.ldc 54, 2) := by decide +kernel
theorem dL_sum_134 : decode cL_sum 134 = .ok (.invokevirtual 37, 3) := by decide +kernel
theorem dL_sum_137 : decode cL_sum 137 = .ok (.iload_n 1, 1) := by decide +kernel
theorem dL_sum_138 : decode cL_sum 138 = .ok (.invokevirtual 41, 3) := by decide +kernel
theorem dL_sum_141 : decode cL_sum 141 = .ok (.invokevirtual 44, 3) := by decide +kernel
theorem dL_sum_144 : decode cL_sum 144 = .ok (.areturn, 1) := by decide +kernel
theorem dL_sum_145 : decode cL_sum 145 = .ok (.new 32, 3) := by decide +kernel
theorem dL_sum_148 : decode cL_sum 148 = .ok (.dup, 1) := by decide +kernel
theorem dL_sum_149 : decode cL_sum 149 = .ok (.invokespecial 34, 3) := by decide +kernel
theorem dL_sum_152 : decode cL_sum 152 = .ok (.ldc 56, 2) := by decide +kernel
theorem dL_sum_154 : decode cL_sum 154 = .ok (.invokevirtual 37, 3) := by decide +kernel
theorem dL_sum_157 : decode cL_sum 157 = .ok (.aload_n 3, 1) := by decide +kernel
theorem dL_sum_158 : decode cL_sum 158 = .ok (.invokevirtual 37, 3) := by decide +kernel
theorem dL_sum_161 : decode cL_sum 161 = .ok (.ldc 58, 2) := by decide +kernel
theorem dL_sum_163 : decode cL_sum 163 = .ok (.invokevirtual 37, 3) := by decide +kernel
theorem dL_sum_166 : decode cL_sum 166 = .ok (.iload_n 1, 1) := by decide +kernel
theorem dL_sum_167 : decode cL_sum 167 = .ok (.invokevirtual 41, 3) := by decide +kernel
theorem dL_sum_170 : decode cL_sum 170 = .ok (.invokevirtual 44, 3) := by decide +kernel
theorem dL_sum_173 : decode cL_sum 173 = .ok (.areturn, 1) := by decide +kernel
theorem dL_sum_174 : decode cL_sum 174 = .ok (.new 32, 3) := by decide +kernel
theorem dL_sum_177 : decode cL_sum 177 = .ok (.dup, 1) := by decide +kernel
theorem dL_sum_178 : decode cL_sum 178 = .ok (.invokespecial 34, 3) := by decide +kernel
theorem dL_sum_181 : decode cL_sum 181 = .ok (.ldc 60, 2) := by decide +kernel
theorem dL_sum_183 : decode cL_sum 183 = .ok (.invokevirtual 37, 3) := by decide +kernel
theorem dL_sum_186 : decode cL_sum 186 = .ok (.aload_n 2, 1) := by decide +kernel
theorem dL_sum_187 : decode cL_sum 187 = .ok (.invokevirtual 37, 3) := by decide +kernel
theorem dL_sum_190 : decode cL_sum 190 = .ok (.ldc 35, 2) := by decide +kernel
theorem dL_sum_192 : decode cL_sum 192 = .ok (.invokevirtual 37, 3) := by decide +kernel
theorem dL_sum_195 : decode cL_sum 195 = .ok (.aload_n 0, 1) := by decide +kernel
theorem dL_sum_196 : decode cL_sum 196 = .ok (.bipush 8, 2) := by decide +kernel
theorem dL_sum_198 : decode cL_sum 198 = .ok (.iaload, 1) := by decide +kernel
theorem dL_sum_199 : decode cL_sum 199 = .ok (.invokevirtual 41, 3) := by decide +kernel
theorem dL_sum_202 : decode cL_sum 202 = .ok (.ldc 62, 2) := by decide +kernel
theorem dL_sum_204 : decode cL_sum 204 = .ok (.invokevirtual 37, 3) := by decide +kernel
theorem dL_sum_207 : decode cL_sum 207 = .ok (.iload_n 1, 1) := by decide +kernel
theorem dL_sum_208 : decode cL_sum 208 = .ok (.invokevirtual 41, 3) := by decide +kernel
theorem dL_sum_211 : decode cL_sum 211 = .ok (.ldc 64, 2) := by decide +kernel
theorem dL_sum_213 : decode cL_sum 213 = .ok (.invokevirtual 37, 3) := by decide +kernel
theorem dL_sum_216 : decode cL_sum 216 = .ok (.invokevirtual 44, 3) := by decide +kernel
theorem dL_sum_219 : decode cL_sum 219 = .ok (.areturn, 1) := by decide +kernel
theorem dL_sum_220 : decode cL_sum 220 = .ok (.new 32, 3) := by decide +kernel
theorem dL_sum_223 : decode cL_sum 223 = .ok (.dup, 1) := by decide +kernel
theorem dL_sum_224 : decode cL_sum 224 = .ok (.invokespecial 34, 3) := by decide +kernel
theorem dL_sum_227 : decode cL_sum 227 = .ok (.ldc 66, 2) := by decide +kernel
theorem dL_sum_229 : decode cL_sum 229 = .ok (.invokevirtual 37, 3) := by decide +kernel
theorem dL_sum_232 : decode cL_sum 232 = .ok (.aload_n 3, 1) := by decide +kernel
theorem dL_sum_233 : decode cL_sum 233 = .ok (.invokevirtual 37, 3) := by decide +kernel
theorem dL_sum_236 : decode cL_sum 236 = .ok (.ldc 62, 2) := by decide +kernel
theorem dL_sum_238 : decode cL_sum 238 = .ok (.invokevirtual 37, 3) := by decide +kernel
theorem dL_sum_241 : decode cL_sum 241 = .ok (.iload_n 1, 1) := by decide +kernel
theorem dL_sum_242 : decode cL_sum 242 = .ok (.invokevirtual 41, 3) := by decide +kernel
theorem dL_sum_245 : decode cL_sum 245 = .ok (.ldc 68, 2) := by decide +kernel
theorem dL_sum_247 : decode cL_sum 247 = .ok (.invokevirtual 37, 3) := by decide +kernel
theorem dL_sum_250 : decode cL_sum 250 = .ok (.invokevirtual 44, 3) := by decide +kernel
theorem dL_sum_253 : decode cL_sum 253 = .ok (.areturn, 1) := by decide +kernel
theorem dL_sum_254 : decode cL_sum 254 = .ok (.new 32, 3) := by decide +kernel
theorem dL_sum_257 : decode cL_sum 257 = .ok (.dup, 1) := by decide +kernel
theorem dL_sum_258 : decode cL_sum 258 = .ok (.invokespecial 34, 3) := by decide +kernel
theorem dL_sum_261 : decode cL_sum 261 = .ok (.ldc 70, 2) := by decide +kernel
theorem dL_sum_263 : decode cL_sum 263 = .ok (.invokevirtual 37, 3) := by decide +kernel
theorem dL_sum_266 : decode cL_sum 266 = .ok (.iload_n 1, 1) := by decide +kernel
theorem dL_sum_267 : decode cL_sum 267 = .ok (.invokevirtual 41, 3) := by decide +kernel
theorem dL_sum_270 : decode cL_sum 270 = .ok (.ldc 72, 2) := by decide +kernel
theorem dL_sum_272 : decode cL_sum 272 = .ok (.invokevirtual 37, 3) := by decide +kernel
theorem dL_sum_275 : decode cL_sum 275 = .ok (.aload_n 2, 1) := by decide +kernel
theorem dL_sum_276 : decode cL_sum 276 = .ok (.invokevirtual 37, 3) := by decide +kernel
theorem dL_sum_279 : decode cL_sum 279 = .ok (.invokevirtual 44, 3) := by decide +kernel
theorem dL_sum_282 : decode cL_sum 282 = .ok (.areturn, 1) := by decide +kernel
theorem dL_sum_283 : decode cL_sum 283 = .ok (.new 32, 3) := by decide +kernel
theorem dL_sum_286 : decode cL_sum 286 = .ok (.dup, 1) := by decide +kernel
theorem dL_sum_287 : decode cL_sum 287 = .ok (.invokespecial 34, 3) := by decide +kernel
theorem dL_sum_290 : decode cL_sum 290 = .ok (.ldc 74, 2) := by decide +kernel
theorem dL_sum_292 : decode cL_sum 292 = .ok (.invokevirtual 37, 3) := by decide +kernel
theorem dL_sum_295 : decode cL_sum 295 = .ok (.aload_n 3, 1) := by decide +kernel
theorem dL_sum_296 : decode cL_sum 296 = .ok (.invokevirtual 37, 3) := by decide +kernel
theorem dL_sum_299 : decode cL_sum 299 = .ok (.ldc 76, 2) := by decide +kernel
theorem dL_sum_301 : decode cL_sum 301 = .ok (.invokevirtual 37, 3) := by decide +kernel
theorem dL_sum_304 : decode cL_sum 304 = .ok (.iload_n 1, 1) := by decide +kernel
theorem dL_sum_305 : decode cL_sum 305 = .ok (.invokevirtual 41, 3) := by decide +kernel
theorem dL_sum_308 : decode cL_sum 308 = .ok (.invokevirtual 44, 3) := by decide +kernel
theorem dL_sum_311 : decode cL_sum 311 = .ok (.areturn, 1) := by decide +kernel
theorem dL_sum_312 : decode cL_sum 312 = .ok (.ldc 78, 2) := by decide +kernel
theorem dL_sum_314 : decode cL_sum 314 = .ok (.areturn, 1) := by decide +kernel
theorem dL_when_0 : decode cL_when 0 = .ok (.aload_n 0, 1) := by decide +kernel
theorem dL_when_1 : decode cL_when 1 = .ok (.bipush 6, 2) := by decide +kernel
theorem dL_when_3 : decode cL_when 3 = .ok (.iaload, 1) := by decide +kernel
theorem dL_when_4 : decode cL_when 4 = .ok (.istore_n 1, 1) := by decide +kernel
theorem dL_when_5 : decode cL_when 5 = .ok (.new 32, 3) := by decide +kernel
theorem dL_when_8 : decode cL_when 8 = .ok (.dup, 1) := by decide +kernel
theorem dL_when_9 : decode cL_when 9 = .ok (.invokespecial 34, 3) := by decide +kernel
theorem dL_when_12 : decode cL_when 12 = .ok (.ldc 35, 2) := by decide +kernel
theorem dL_when_14 : decode cL_when 14 = .ok (.invokevirtual 37, 3) := by decide +kernel
theorem dL_when_17 : decode cL_when 17 = .ok (.aload_n 0, 1) := by decide +kernel
theorem dL_when_18 : decode cL_when 18 = .ok (.bipush 7, 2) := by decide +kernel
theorem dL_when_20 : decode cL_when 20 = .ok (.iaload, 1) := by decide +kernel
theorem dL_when_21 : decode cL_when 21 = .ok (.invokevirtual 41, 3) := by decide +kernel
theorem dL_when_24 : decode cL_when 24 = .ok (.invokevirtual 44, 3) := by decide +kernel
theorem dL_when_27 : decode cL_when 27 = .ok (.astore_n 2, 1) := by decide +kernel
theorem dL_when_28 : decode cL_when 28 = .ok (.new 32, 3) := by decide +kernel
theorem dL_when_31 : decode cL_when 31 = .ok (.dup, 1) := by decide +kernel
theorem dL_when_32 : decode cL_when 32 = .ok (.invokespecial 34, 3) := by decide +kernel
theorem dL_when_35 : decode cL_when 35 = .ok (.ldc 48, 2) := by decide +kernel
theorem dL_when_37 : decode cL_when 37 = .ok (.invokevirtual 37, 3) := by decide +kernel
theorem dL_when_40 : decode cL_when 40 = .ok (.aload_n 0, 1) := by decide +kernel
theorem dL_when_41 : decode cL_when 41 = .ok (.bipush 9, 2) := by decide +kernel
theorem dL_when_43 : decode cL_when 43 = .ok (.iaload, 1) := by decide +kernel
theorem dL_when_44 : decode cL_when 44 = .ok (.invokevirtual 41, 3) := by decide +kernel
theorem dL_when_47 : decode cL_when 47 = .ok (.invokevirtual 44, 3) := by decide +kernel
theorem dL_when_50 : decode cL_when 50 = .ok (.astore_n 3, 1) := by decide +kernel
theorem dL_when_51 : decode cL_when 51 = .ok (.aload_n 0, 1) := by decide +kernel
theorem dL_when_52 : decode cL_when 52 = .ok (.iconst 5, 1) := by decide +kernel
theorem dL_when_53 : decode cL_when 53 = .ok (.iaload, 1) := by decide +kernel
theorem dL_when_54 : decode cL_when 54 = .ok (.tableswitch 235 (-1) 5 #[42, 45, 70, 94, 139, 203, 232], 42) := by decide +kernel
theorem dL_when_96 : decode cL_when 96 = .ok (.ldc 80, 2) := by decide +kernel
theorem dL_when_98 : decode cL_when 98 = .ok (.areturn, 1) := by decide +kernel
theorem dL_when_99 : decode cL_when 99 = .ok (.new 32, 3) := by decide +kernel
theorem dL_when_102 : decode cL_when 102 = .ok (.dup, 1) := by decide +kernel
theorem dL_when_103 : decode cL_when 103 = .ok (.invokespecial 34, 3) := by decide +kernel
theorem dL_when_106 : decode cL_when 106 = .ok (.ldc 82, 2) := by decide +kernel
theorem dL_when_108 : decode cL_when 108 = .ok (.invokevirtual 37, 3) := by decide +kernel
theorem dL_when_111 : decode cL_when 111 = .ok (.iload_n 1, 1) := by decide +kernel
theorem dL_when_112 : decode cL_when 112 = .ok (.invokevirtual 41, 3) := by decide +kernel
theorem dL_when_115 : decode cL_when 115 = .ok (.ldc 84, 2) := by decide +kernel
theorem dL_when_117 : decode cL_when 117 = .ok (.invokevirtual 37, 3) := by decide +kernel
theorem dL_when_120 : decode cL_when 120 = .ok (.invokevirtual 44, 3) := by decide +kernel
theorem dL_when_123 : decode cL_when 123 = .ok (.areturn, 1) := by decide +kernel
theorem dL_when_124 : decode cL_when 124 = .ok (.new 32, 3) := by decide +kernel
theorem dL_when_127 : decode cL_when 127 = .ok (.dup, 1) := by decide +kernel
theorem dL_when_128 : decode cL_when 128 = .ok (.invokespecial 34, 3) := by decide +kernel
theorem dL_when_131 : decode cL_when 131 = .ok (.ldc 86, 2) := by decide +kernel
theorem dL_when_133 : decode cL_when 133 = .ok (.invokevirtual 37, 3) := by decide +kernel
theorem dL_when_136 : decode cL_when 136 = .ok (.aload_n 2, 1) := by decide +kernel
theorem dL_when_137 : decode cL_when 137 = .ok (.invokevirtual 37, 3) := by decide +kernel
theorem dL_when_140 : decode cL_when 140 = .ok (.aload_n 3, 1) := by decide +kernel
theorem dL_when_141 : decode cL_when 141 = .ok (.invokevirtual 37, 3) := by decide +kernel
theorem dL_when_144 : decode cL_when 144 = .ok (.invokevirtual 44, 3) := by decide +kernel
theorem dL_when_147 : decode cL_when 147 = .ok (.areturn, 1) := by decide +kernel
theorem dL_when_148 : decode cL_when 148 = .ok (.new 32, 3) := by decide +kernel
theorem dL_when_151 : decode cL_when 151 = .ok (.dup, 1) := by decide +kernel
theorem dL_when_152 : decode cL_when 152 = .ok (.invokespecial 34, 3) := by decide +kernel
theorem dL_when_155 : decode cL_when 155 = .ok (.ldc 88, 2) := by decide +kernel
theorem dL_when_157 : decode cL_when 157 = .ok (.invokevirtual 37, 3) := by decide +kernel
theorem dL_when_160 : decode cL_when 160 = .ok (.aload_n 2, 1) := by decide +kernel
theorem dL_when_161 : decode cL_when 161 = .ok (.invokevirtual 37, 3) := by decide +kernel
theorem dL_when_164 : decode cL_when 164 = .ok (.aload_n 3, 1) := by decide +kernel
theorem dL_when_165 : decode cL_when 165 = .ok (.invokevirtual 37, 3) := by decide +kernel
theorem dL_when_168 : decode cL_when 168 = .ok (.ldc 90, 2) := by decide +kernel
theorem dL_when_170 : decode cL_when 170 = .ok (.invokevirtual 37, 3) := by decide +kernel
theorem dL_when_173 : decode cL_when 173 = .ok (.aload_n 0, 1) := by decide +kernel
theorem dL_when_174 : decode cL_when 174 = .ok (.bipush 8, 2) := by decide +kernel
theorem dL_when_176 : decode cL_when 176 = .ok (.iaload, 1) := by decide +kernel
theorem dL_when_177 : decode cL_when 177 = .ok (.invokevirtual 41, 3) := by decide +kernel
theorem dL_when_180 : decode cL_when 180 = .ok (.ldc 92, 2) := by decide +kernel
theorem dL_when_182 : decode cL_when 182 = .ok (.invokevirtual 37, 3) := by decide +kernel
theorem dL_when_185 : decode cL_when 185 = .ok (.iload_n 1, 1) := by decide +kernel
theorem dL_when_186 : decode cL_when 186 = .ok (.invokevirtual 41, 3) := by decide +kernel
theorem dL_when_189 : decode cL_when 189 = .ok (.invokevirtual 44, 3) := by decide +kernel
theorem dL_when_192 : decode cL_when 192 = .ok (.areturn, 1) := by decide +kernel
theorem dL_when_193 : decode cL_when 193 = .ok (.new 32, 3) := by decide +kernel
theorem dL_when_196 : decode cL_when 196 = .ok (.dup, 1) := by decide +kernel
theorem dL_when_197 : decode cL_when 197 = .ok (.invokespecial 34, 3) := by decide +kernel
theorem dL_when_200 : decode cL_when 200 = .ok (.ldc 94, 2) := by decide +kernel
theorem dL_when_202 : decode cL_when 202 = .ok (.invokevirtual 37, 3) := by decide +kernel
theorem dL_when_205 : decode cL_when 205 = .ok (.aload_n 3, 1) := by decide +kernel
theorem dL_when_206 : decode cL_when 206 = .ok (.invokevirtual 37, 3) := by decide +kernel
theorem dL_when_209 : decode cL_when 209 = .ok (.ldc 96, 2) := by decide +kernel
theorem dL_when_211 : decode cL_when 211 = .ok (.invokevirtual 37, 3) := by decide +kernel
theorem dL_when_214 : decode cL_when 214 = .ok (.iload_n 1, 1) := by decide +kernel
theorem dL_when_215 : decode cL_when 215 = .ok (.invokevirtual 41, 3) := by decide +kernel
theorem dL_when_218 : decode cL_when 218 = .ok (.ldc 98, 2) := by decide +kernel
theorem dL_when_220 : decode cL_when 220 = .ok (.invokevirtual 37, 3) := by decide +kernel
theorem dL_when_223 : decode cL_when 223 = .ok (.iload_n 1, 1) := by decide +kernel
theorem dL_when_224 : decode cL_when 224 = .ok (.invokevirtual 41, 3) := by decide +kernel
theorem dL_when_227 : decode cL_when 227 = .ok (.ldc 100, 2) := by decide +kernel
theorem dL_when_229 : decode cL_when 229 = .ok (.invokevirtual 37, 3) := by decide +kernel
theorem dL_when_232 : decode cL_when 232 = .ok (.aload_n 0, 1) := by decide +kernel
theorem dL_when_233 : decode cL_when 233 = .ok (.bipush 10, 2) := by decide +kernel
theorem dL_when_235 : decode cL_when 235 = .ok (.iaload, 1) := by decide +kernel
theorem dL_when_236 : decode cL_when 236 = .ok (.invokevirtual 41, 3) := by decide +kernel
theorem dL_when_239 : decode cL_when 239 = .ok (.ldc 102, 2) := by decide +kernel
theorem dL_when_241 : decode cL_when 241 = .ok (.invokevirtual 37, 3) := by decide +kernel
theorem dL_when_244 : decode cL_when 244 = .ok (.iload_n 1, 1) := by decide +kernel
theorem dL_when_245 : decode cL_when 245 = .ok (.invokevirtual 41, 3) := by decide +kernel
theorem dL_when_248 : decode cL_when 248 = .ok (.ldc 104, 2) := by decide +kernel
theorem dL_when_250 : decode cL_when 250 = .ok (.invokevirtual 37, 3) := by decide +kernel
theorem dL_when_253 : decode cL_when 253 = .ok (.invokevirtual 44, 3) := by decide +kernel
theorem dL_when_256 : decode cL_when 256 = .ok (.areturn, 1) := by decide +kernel
theorem dL_when_257 : decode cL_when 257 = .ok (.new 32, 3) := by decide +kernel
theorem dL_when_260 : decode cL_when 260 = .ok (.dup, 1) := by decide +kernel
theorem dL_when_261 : decode cL_when 261 = .ok (.invokespecial 34, 3) := by decide +kernel
theorem dL_when_264 : decode cL_when 264 = .ok (.ldc 106, 2) := by decide +kernel
theorem dL_when_266 : decode cL_when 266 = .ok (.invokevirtual 37, 3) := by decide +kernel
theorem dL_when_269 : decode cL_when 269 = .ok (.aload_n 2, 1) := by decide +kernel
theorem dL_when_270 : decode cL_when 270 = .ok (.invokevirtual 37, 3) := by decide +kernel
theorem dL_when_273 : decode cL_when 273 = .ok (.ldc 102, 2) := by decide +kernel
theorem dL_when_275 : decode cL_when 275 = .ok (.invokevirtual 37, 3) := by decide +kernel
theorem dL_when_278 : decode cL_when 278 = .ok (.iload_n 1, 1) := by decide +kernel
theorem dL_when_279 : decode cL_when 279 = .ok (.invokevirtual 41, 3) := by decide +kernel
theorem dL_when_282 : decode cL_when 282 = .ok (.invokevirtual 44, 3) := by decide +kernel
theorem dL_when_285 : decode cL_when 285 = .ok (.areturn, 1) := by decide +kernel
theorem dL_when_286 : decode cL_when 286 = .ok (.ldc 108, 2) := by decide +kernel
theorem dL_when_288 : decode cL_when 288 = .ok (.areturn, 1) := by decide +kernel
theorem dL_when_289 : decode cL_when 289 = .ok (.new 32, 3) := by decide +kernel
theorem dL_when_292 : decode cL_when 292 = .ok (.dup, 1) := by decide +kernel
theorem dL_when_293 : decode cL_when 293 = .ok (.invokespecial 34, 3) := by decide +kernel
theorem dL_when_296 : decode cL_when 296 = .ok (.ldc 110, 2) := by decide +kernel
theorem dL_when_298 : decode cL_when 298 = .ok (.invokevirtual 37, 3) := by decide +kernel
theorem dL_when_301 : decode cL_when 301 = .ok (.aload_n 3, 1) := by decide +kernel
theorem dL_when_302 : decode cL_when 302 = .ok (.invokevirtual 37, 3) := by decide +kernel
theorem dL_when_305 : decode cL_when 305 = .ok (.ldc 96, 2) := by decide +kernel
theorem dL_when_307 : decode cL_when 307 = .ok (.invokevirtual 37, 3) := by decide +kernel
theorem dL_when_310 : decode cL_when 310 = .ok (.iload_n 1, 1) := by decide +kernel
theorem dL_when_311 : decode cL_when 311 = .ok (.invokevirtual 41, 3) := by decide +kernel
theorem dL_when_314 : decode cL_when 314 = .ok (.ldc 112, 2) := by decide +kernel
theorem dL_when_316 : decode cL_when 316 = .ok (.invokevirtual 37, 3) := by decide +kernel
theorem dL_when_319 : decode cL_when 319 = .ok (.invokevirtual 44, 3) := by decide +kernel
theorem dL_when_322 : decode cL_when 322 = .ok (.areturn, 1) := by decide +kernel
theorem dL_list_0 : decode cL_list 0 = .ok (.new 114, 3) := by decide +kernel
theorem dL_list_3 : decode cL_list 3 = .ok (.dup, 1) := by decide +kernel
theorem dL_list_4 : decode cL_list 4 = .ok (.invokespecial 116, 3) := by decide +kernel
theorem dL_list_7 : decode cL_list 7 = .ok (.astore_n 2, 1) := by decide +kernel
theorem dL_list_8 : decode cL_list 8 = .ok (.aload_n 2, 1) := by decide +kernel
theorem dL_list_9 : decode cL_list 9 = .ok (.iconst 1, 1) := by decide +kernel
theorem dL_list_10 : decode cL_list 10 = .ok (.aload_n 0, 1) := by decide +kernel
theorem dL_list_11 : decode cL_list 11 = .ok (.iconst 0, 1) := by decide +kernel
theorem dL_list_12 : decode cL_list 12 = .ok (.invokestatic 117, 3) := by decide +kernel
theorem dL_list_15 : decode cL_list 15 = .ok (.iconst 3, 1) := by decide +kernel
theorem dL_list_16 : decode cL_list 16 = .ok (.invokestatic 123, 3) := by decide +kernel
theorem dL_list_19 : decode cL_list 19 = .ok (.iadd, 1) := by decide +kernel
theorem dL_list_20 : decode cL_list 20 = .ok (.newarray .int, 2) := by decide +kernel
theorem dL_list_22 : decode cL_list 22 = .ok (.putfield 127, 3) := by decide +kernel
theorem dL_list_25 : decode cL_list 25 = .ok (.iconst 0, 1) := by decide +kernel
theorem dL_list_26 : decode cL_list 26 = .ok (.istore_n 3, 1) := by decide +kernel
theorem dL_list_27 : decode cL_list 27 = .ok (.iload_n 3, 1) := by decide +kernel
theorem dL_list_28 : decode cL_list 28 = .ok (.aload_n 2, 1) := by decide +kernel
theorem dL_list_29 : decode cL_list 29 = .ok (.getfield 127, 3) := by decide +kernel
theorem dL_list_32 : decode cL_list 32 = .ok (.arraylength, 1) := by decide +kernel
theorem dL_list_33 : decode cL_list 33 = .ok (.if_icmp .ge 61, 3) := by decide +kernel
theorem dL_list_36 : decode cL_list 36 = .ok (.aload_n 2, 1) := by decide +kernel
theorem dL_list_37 : decode cL_list 37 = .ok (.getfield 127, 3) := by decide +kernel
theorem dL_list_40 : decode cL_list 40 = .ok (.iload_n 3, 1) := by decide +kernel
theorem dL_list_41 : decode cL_list 41 = .ok (.aload_n 0, 1) := by decide +kernel
theorem dL_list_42 : decode cL_list 42 = .ok (.iconst 0, 1) := by decide +kernel
theorem dL_list_43 : decode cL_list 43 = .ok (.invokestatic 117, 3) := by decide +kernel
theorem dL_list_46 : decode cL_list 46 = .ok (.iconst 3, 1) := by decide +kernel
theorem dL_list_47 : decode cL_list 47 = .ok (.iconst 4, 1) := by decide +kernel
theorem dL_list_48 : decode cL_list 48 = .ok (.iload_n 3, 1) := by decide +kernel
theorem dL_list_49 : decode cL_list 49 = .ok (.imul, 1) := by decide +kernel
theorem dL_list_50 : decode cL_list 50 = .ok (.iadd, 1) := by decide +kernel
theorem dL_list_51 : decode cL_list 51 = .ok (.ishr, 1) := by decide +kernel
theorem dL_list_52 : decode cL_list 52 = .ok (.bipush 10, 2) := by decide +kernel
theorem dL_list_54 : decode cL_list 54 = .ok (.invokestatic 123, 3) := by decide +kernel
theorem dL_list_57 : decode cL_list 57 = .ok (.iastore, 1) := by decide +kernel
theorem dL_list_58 : decode cL_list 58 = .ok (.aload_n 1, 1) := by decide +kernel
theorem dL_list_59 : decode cL_list 59 = .ok (.ldc 131, 2) := by decide +kernel
theorem dL_list_61 : decode cL_list 61 = .ok (.invokevirtual 37, 3) := by decide +kernel
theorem dL_list_64 : decode cL_list 64 = .ok (.iload_n 3, 1) := by decide +kernel
theorem dL_list_65 : decode cL_list 65 = .ok (.invokevirtual 41, 3) := by decide +kernel
theorem dL_list_68 : decode cL_list 68 = .ok (.ldc 133, 2) := by decide +kernel
theorem dL_list_70 : decode cL_list 70 = .ok (.invokevirtual 37, 3) := by decide +kernel
theorem dL_list_73 : decode cL_list 73 = .ok (.aload_n 2, 1) := by decide +kernel
theorem dL_list_74 : decode cL_list 74 = .ok (.getfield 127, 3) := by decide +kernel
theorem dL_list_77 : decode cL_list 77 = .ok (.iload_n 3, 1) := by decide +kernel
theorem dL_list_78 : decode cL_list 78 = .ok (.iaload, 1) := by decide +kernel
theorem dL_list_79 : decode cL_list 79 = .ok (.invokevirtual 41, 3) := by decide +kernel
theorem dL_list_82 : decode cL_list 82 = .ok (.ldc 135, 2) := by decide +kernel
theorem dL_list_84 : decode cL_list 84 = .ok (.invokevirtual 37, 3) := by decide +kernel
theorem dL_list_87 : decode cL_list 87 = .ok (.pop, 1) := by decide +kernel
theorem dL_list_88 : decode cL_list 88 = .ok (.iinc 3 1, 3) := by decide +kernel
theorem dL_list_91 : decode cL_list 91 = .ok (.goto (-64), 3) := by decide +kernel
theorem dL_list_94 : decode cL_list 94 = .ok (.aload_n 2, 1) := by decide +kernel
theorem dL_list_95 : decode cL_list 95 = .ok (.iconst 1, 1) := by decide +kernel
theorem dL_list_96 : decode cL_list 96 = .ok (.aload_n 0, 1) := by decide +kernel
theorem dL_list_97 : decode cL_list 97 = .ok (.iconst 1, 1) := by decide +kernel
theorem dL_list_98 : decode cL_list 98 = .ok (.invokestatic 117, 3) := by decide +kernel
theorem dL_list_101 : decode cL_list 101 = .ok (.iconst 3, 1) := by decide +kernel
theorem dL_list_102 : decode cL_list 102 = .ok (.invokestatic 123, 3) := by decide +kernel
theorem dL_list_105 : decode cL_list 105 = .ok (.iadd, 1) := by decide +kernel
theorem dL_list_106 : decode cL_list 106 = .ok (.anewarray 137, 3) := by decide +kernel
theorem dL_list_109 : decode cL_list 109 = .ok (.putfield 138, 3) := by decide +kernel
theorem dL_list_112 : decode cL_list 112 = .ok (.iconst 0, 1) := by decide +kernel
theorem dL_list_113 : decode cL_list 113 = .ok (.istore_n 3, 1) := by decide +kernel
theorem dL_list_114 : decode cL_list 114 = .ok (.iload_n 3, 1) := by decide +kernel
theorem dL_list_115 : decode cL_list 115 = .ok (.aload_n 2, 1) := by decide +kernel
theorem dL_list_116 : decode cL_list 116 = .ok (.getfield 138, 3) := by decide +kernel
theorem dL_list_119 : decode cL_list 119 = .ok (.arraylength, 1) := by decide +kernel
theorem dL_list_120 : decode cL_list 120 = .ok (.if_icmp .ge 122, 3) := by decide +kernel
theorem dL_list_123 : decode cL_list 123 = .ok (.aload_n 0, 1) := by decide +kernel
theorem dL_list_124 : decode cL_list 124 = .ok (.iconst 1, 1) := by decide +kernel
theorem dL_list_125 : decode cL_list 125 = .ok (.invokestatic 117, 3) := by decide +kernel
theorem dL_list_128 : decode cL_list 128 = .ok (.iconst 3, 1) := by decide +kernel
theorem dL_list_129 : decode cL_list 129 = .ok (.bipush 6, 2) := by decide +kernel
theorem dL_list_131 : decode cL_list 131 = .ok (.iload_n 3, 1) := by decide +kernel
theorem dL_list_132 : decode cL_list 132 = .ok (.imul, 1) := by decide +kernel
theorem dL_list_133 : decode cL_list 133 = .ok (.iadd, 1) := by decide +kernel
theorem dL_list_134 : decode cL_list 134 = .ok (.ishr, 1) := by decide +kernel
theorem dL_list_135 : decode cL_list 135 = .ok (.istore 4, 2) := by decide +kernel
theorem dL_list_137 : decode cL_list 137 = .ok (.aload_n 2, 1) := by decide +kernel
theorem dL_list_138 : decode cL_list 138 = .ok (.getfield 138, 3) := by decide +kernel
theorem dL_list_141 : decode cL_list 141 = .ok (.iload_n 3, 1) := by decide +kernel
theorem dL_list_142 : decode cL_list 142 = .ok (.iconst 3, 1) := by decide +kernel
theorem dL_list_143 : decode cL_list 143 = .ok (.newarray .int, 2) := by decide +kernel
theorem dL_list_145 : decode cL_list 145 = .ok (.dup, 1) := by decide +kernel
theorem dL_list_146 : decode cL_list 146 = .ok (.iconst 0, 1) := by decide +kernel
theorem dL_list_147 : decode cL_list 147 = .ok (.iload 4, 2) := by decide +kernel
theorem dL_list_149 : decode cL_list 149 = .ok (.iload 4, 2) := by decide +kernel
theorem dL_list_151 : decode cL_list 151 = .ok (.iconst 3, 1) := by decide +kernel
theorem dL_list_152 : decode cL_list 152 = .ok (.ishr, 1) := by decide +kernel
theorem dL_list_153 : decode cL_list 153 = .ok (.iconst 2, 1) := by decide +kernel
theorem dL_list_154 : decode cL_list 154 = .ok (.invokestatic 123, 3) := by decide +kernel
theorem dL_list_157 : decode cL_list 157 = .ok (.ifCond .ne 8, 3) := by decide +kernel
theorem dL_list_160 : decode cL_list 160 = .ok (.bipush 100, 2) := by decide +kernel
theorem dL_list_162 : decode cL_list 162 = .ok (.goto 5, 3) := by decide +kernel
theorem dL_list_165 : decode cL_list 165 = .ok (.bipush 12, 2) := by decide +kernel
theorem dL_list_167 : decode cL_list 167 = .ok (.invokestatic 123, 3) := by decide +kernel
theorem dL_list_170 : decode cL_list 170 = .ok (.iastore, 1) := by decide +kernel
theorem dL_list_171 : decode cL_list 171 = .ok (.dup, 1) := by decide +kernel
theorem dL_list_172 : decode cL_list 172 = .ok (.iconst 1, 1) := by decide +kernel
theorem dL_list_173 : decode cL_list 173 = .ok (.iload 4, 2) := by decide +kernel
theorem dL_list_175 : decode cL_list 175 = .ok (.iconst 2, 1) := by decide +kernel
theorem dL_list_176 : decode cL_list 176 = .ok (.ishr, 1) := by decide +kernel
theorem dL_list_177 : decode cL_list 177 = .ok (.bipush 21, 2) := by decide +kernel
theorem dL_list_179 : decode cL_list 179 = .ok (.invokestatic 123, 3) := by decide +kernel
theorem dL_list_182 : decode cL_list 182 = .ok (.iastore, 1) := by decide +kernel
theorem dL_list_183 : decode cL_list 183 = .ok (.dup, 1) := by decide +kernel
theorem dL_list_184 : decode cL_list 184 = .ok (.iconst 2, 1) := by decide +kernel
theorem dL_list_185 : decode cL_list 185 = .ok (.iconst 0, 1) := by decide +kernel
theorem dL_list_186 : decode cL_list 186 = .ok (.iastore, 1) := by decide +kernel
theorem dL_list_187 : decode cL_list 187 = .ok (.aastore, 1) := by decide +kernel
theorem dL_list_188 : decode cL_list 188 = .ok (.aload_n 1, 1) := by decide +kernel
theorem dL_list_189 : decode cL_list 189 = .ok (.ldc 142, 2) := by decide +kernel
theorem dL_list_191 : decode cL_list 191 = .ok (.invokevirtual 37, 3) := by decide +kernel
theorem dL_list_194 : decode cL_list 194 = .ok (.iload_n 3, 1) := by decide +kernel
theorem dL_list_195 : decode cL_list 195 = .ok (.invokevirtual 41, 3) := by decide +kernel
theorem dL_list_198 : decode cL_list 198 = .ok (.ldc 144, 2) := by decide +kernel
theorem dL_list_200 : decode cL_list 200 = .ok (.invokevirtual 37, 3) := by decide +kernel
theorem dL_list_203 : decode cL_list 203 = .ok (.aload_n 2, 1) := by decide +kernel
theorem dL_list_204 : decode cL_list 204 = .ok (.getfield 138, 3) := by decide +kernel
theorem dL_list_207 : decode cL_list 207 = .ok (.iload_n 3, 1) := by decide +kernel
theorem dL_list_208 : decode cL_list 208 = .ok (.aaload, 1) := by decide +kernel
theorem dL_list_209 : decode cL_list 209 = .ok (.iconst 0, 1) := by decide +kernel
theorem dL_list_210 : decode cL_list 210 = .ok (.iaload, 1) := by decide +kernel
theorem dL_list_211 : decode cL_list 211 = .ok (.invokevirtual 41, 3) := by decide +kernel
theorem dL_list_214 : decode cL_list 214 = .ok (.ldc 146, 2) := by decide +kernel
theorem dL_list_216 : decode cL_list 216 = .ok (.invokevirtual 37, 3) := by decide +kernel
theorem dL_list_219 : decode cL_list 219 = .ok (.aload_n 2, 1) := by decide +kernel
theorem dL_list_220 : decode cL_list 220 = .ok (.getfield 138, 3) := by decide +kernel
theorem dL_list_223 : decode cL_list 223 = .ok (.iload_n 3, 1) := by decide +kernel
theorem dL_list_224 : decode cL_list 224 = .ok (.aaload, 1) := by decide +kernel
theorem dL_list_225 : decode cL_list 225 = .ok (.iconst 1, 1) := by decide +kernel
theorem dL_list_226 : decode cL_list 226 = .ok (.iaload, 1) := by decide +kernel
theorem dL_list_227 : decode cL_list 227 = .ok (.invokevirtual 41, 3) := by decide +kernel
theorem dL_list_230 : decode cL_list 230 = .ok (.ldc 135, 2) := by decide +kernel
theorem dL_list_232 : decode cL_list 232 = .ok (.invokevirtual 37, 3) := by decide +kernel
theorem dL_list_235 : decode cL_list 235 = .ok (.pop, 1) := by decide +kernel
theorem dL_list_236 : decode cL_list 236 = .ok (.iinc 3 1, 3) := by decide +kernel
theorem dL_list_239 : decode cL_list 239 = .ok (.goto (-125), 3) := by decide +kernel
theorem dL_list_242 : decode cL_list 242 = .ok (.iconst 2, 1) := by decide +kernel
theorem dL_list_243 : decode cL_list 243 = .ok (.aload_n 0, 1) := by decide +kernel
theorem dL_list_244 : decode cL_list 244 = .ok (.iconst 2, 1) := by decide +kernel
theorem dL_list_245 : decode cL_list 245 = .ok (.invokestatic 117, 3) := by decide +kernel
theorem dL_list_248 : decode cL_list 248 = .ok (.iconst 4, 1) := by decide +kernel
theorem dL_list_249 : decode cL_list 249 = .ok (.invokestatic 123, 3) := by decide +kernel
theorem dL_list_252 : decode cL_list 252 = .ok (.iadd, 1) := by decide +kernel
theorem dL_list_253 : decode cL_list 253 = .ok (.istore_n 3, 1) := by decide +kernel
theorem dL_list_254 : decode cL_list 254 = .ok (.aload_n 2, 1) := by decide +kernel
theorem dL_list_255 : decode cL_list 255 = .ok (.iload_n 3, 1) := by decide +kernel
theorem dL_list_256 : decode cL_list 256 = .ok (.anewarray 137, 3) := by decide +kernel
theorem dL_list_259 : decode cL_list 259 = .ok (.putfield 148, 3) := by decide +kernel
theorem dL_list_262 : decode cL_list 262 = .ok (.aload_n 2, 1) := by decide +kernel
theorem dL_list_263 : decode cL_list 263 = .ok (.iload_n 3, 1) := by decide +kernel
theorem dL_list_264 : decode cL_list 264 = .ok (.iload_n 3, 1) := by decide +kernel
theorem dL_list_265 : decode cL_list 265 = .ok (.multianewarray 151 2, 4) := by decide +kernel
theorem dL_list_269 : decode cL_list 269 = .ok (.putfield 152, 3) := by decide +kernel
theorem dL_list_272 : decode cL_list 272 = .ok (.iconst 0, 1) := by decide +kernel
theorem dL_list_273 : decode cL_list 273 = .ok (.istore 4, 2) := by decide +kernel
theorem dL_list_275 : decode cL_list 275 = .ok (.iload 4, 2) := by decide +kernel
theorem dL_list_277 : decode cL_list 277 = .ok (.iload_n 3, 1) := by decide +kernel
theorem dL_list_278 : decode cL_list 278 = .ok (.if_icmp .ge 152, 3) := by decide +kernel
theorem dL_list_281 : decode cL_list 281 = .ok (.aload_n 0, 1) := by decide +kernel
theorem dL_list_282 : decode cL_list 282 = .ok (.iconst 3, 1) := by decide +kernel
theorem dL_list_283 : decode cL_list 283 = .ok (.invokestatic 117, 3) := by decide +kernel
theorem dL_list_286 : decode cL_list 286 = .ok (.iconst 4, 1) := by decide +kernel
theorem dL_list_287 : decode cL_list 287 = .ok (.iload 4, 2) := by decide +kernel
theorem dL_list_289 : decode cL_list 289 = .ok (.imul, 1) := by decide +kernel
theorem dL_list_290 : decode cL_list 290 = .ok (.ishr, 1) := by decide +kernel
theorem dL_list_291 : decode cL_list 291 = .ok (.istore 5, 2) := by decide +kernel
theorem dL_list_293 : decode cL_list 293 = .ok (.aload_n 2, 1) := by decide +kernel
theorem dL_list_294 : decode cL_list 294 = .ok (.getfield 148, 3) := by decide +kernel
theorem dL_list_297 : decode cL_list 297 = .ok (.iload 4, 2) := by decide +kernel
theorem dL_list_299 : decode cL_list 299 = .ok (.iconst 2, 1) := by decide +kernel
theorem dL_list_300 : decode cL_list 300 = .ok (.newarray .int, 2) := by decide +kernel
theorem dL_list_302 : decode cL_list 302 = .ok (.dup, 1) := by decide +kernel
theorem dL_list_303 : decode cL_list 303 = .ok (.iconst 0, 1) := by decide +kernel
theorem dL_list_304 : decode cL_list 304 = .ok (.iload 5, 2) := by decide +kernel
theorem dL_list_306 : decode cL_list 306 = .ok (.iload 5, 2) := by decide +kernel
theorem dL_list_308 : decode cL_list 308 = .ok (.iconst 4, 1) := by decide +kernel
theorem dL_list_309 : decode cL_list 309 = .ok (.ishr, 1) := by decide +kernel
theorem dL_list_310 : decode cL_list 310 = .ok (.iconst 2, 1) := by decide +kernel
theorem dL_list_311 : decode cL_list 311 = .ok (.invokestatic 123, 3) := by decide +kernel
theorem dL_list_314 : decode cL_list 314 = .ok (.ifCond .ne 9, 3) := by decide +kernel
theorem dL_list_317 : decode cL_list 317 = .ok (.sipush 10000, 3) := by decide +kernel
theorem dL_list_320 : decode cL_list 320 = .ok (.goto 6, 3) := by decide +kernel
theorem dL_list_323 : decode cL_list 323 = .ok (.sipush 900, 3) := by decide +kernel
theorem dL_list_326 : decode cL_list 326 = .ok (.invokestatic 123, 3) := by decide +kernel
theorem dL_list_329 : decode cL_list 329 = .ok (.iastore, 1) := by decide +kernel
theorem dL_list_330 : decode cL_list 330 = .ok (.dup, 1) := by decide +kernel
theorem dL_list_331 : decode cL_list 331 = .ok (.iconst 1, 1) := by decide +kernel
theorem dL_list_332 : decode cL_list 332 = .ok (.iload 5, 2) := by decide +kernel
theorem dL_list_334 : decode cL_list 334 = .ok (.iconst 2, 1) := by decide +kernel
theorem dL_list_335 : decode cL_list 335 = .ok (.ishr, 1) := by decide +kernel
theorem dL_list_336 : decode cL_list 336 = .ok (.iload 5, 2) := by decide +kernel
theorem dL_list_338 : decode cL_list 338 = .ok (.iconst 5, 1) := by decide +kernel
theorem dL_list_339 : decode cL_list 339 = .ok (.ishr, 1) := by decide +kernel
theorem dL_list_340 : decode cL_list 340 = .ok (.iconst 2, 1) := by decide +kernel
theorem dL_list_341 : decode cL_list 341 = .ok (.invokestatic 123, 3) := by decide +kernel
theorem dL_list_344 : decode cL_list 344 = .ok (.ifCond .ne 9, 3) := by decide +kernel
theorem dL_list_347 : decode cL_list 347 = .ok (.sipush 10000, 3) := by decide +kernel
theorem dL_list_350 : decode cL_list 350 = .ok (.goto 6, 3) := by decide +kernel
theorem dL_list_353 : decode cL_list 353 = .ok (.sipush 1500, 3) := by decide +kernel
theorem dL_list_356 : decode cL_list 356 = .ok (.invokestatic 123, 3) := by decide +kernel
theorem dL_list_359 : decode cL_list 359 = .ok (.iastore, 1) := by decide +kernel
theorem dL_list_360 : decode cL_list 360 = .ok (.aastore, 1) := by decide +kernel
theorem dL_list_361 : decode cL_list 361 = .ok (.aload_n 1, 1) := by decide +kernel
theorem dL_list_362 : decode cL_list 362 = .ok (.ldc 155, 2) := by decide +kernel
theorem dL_list_364 : decode cL_list 364 = .ok (.invokevirtual 37, 3) := by decide +kernel
theorem dL_list_367 : decode cL_list 367 = .ok (.iload 4, 2) := by decide +kernel
theorem dL_list_369 : decode cL_list 369 = .ok (.invokevirtual 41, 3) := by decide +kernel
theorem dL_list_372 : decode cL_list 372 = .ok (.ldc 157, 2) := by decide +kernel
theorem dL_list_374 : decode cL_list 374 = .ok (.invokevirtual 37, 3) := by decide +kernel
theorem dL_list_377 : decode cL_list 377 = .ok (.aload_n 2, 1) := by decide +kernel
theorem dL_list_378 : decode cL_list 378 = .ok (.getfield 148, 3) := by decide +kernel
theorem dL_list_381 : decode cL_list 381 = .ok (.iload 4, 2) := by decide +kernel
theorem dL_list_383 : decode cL_list 383 = .ok (.aaload, 1) := by decide +kernel
theorem dL_list_384 : decode cL_list 384 = .ok (.iconst 0, 1) := by decide +kernel
theorem dL_list_385 : decode cL_list 385 = .ok (.iaload, 1) := by decide +kernel
theorem dL_list_386 : decode cL_list 386 = .ok (.invokevirtual 41, 3) := by decide +kernel
theorem dL_list_389 : decode cL_list 389 = .ok (.ldc 159, 2) := by decide +kernel
theorem dL_list_391 : decode cL_list 391 = .ok (.invokevirtual 37, 3) := by decide +kernel
theorem dL_list_394 : decode cL_list 394 = .ok (.aload_n 2, 1) := by decide +kernel
theorem dL_list_395 : decode cL_list 395 = .ok (.getfield 148, 3) := by decide +kernel
theorem dL_list_398 : decode cL_list 398 = .ok (.iload 4, 2) := by decide +kernel
theorem dL_list_400 : decode cL_list 400 = .ok (.aaload, 1) := by decide +kernel
theorem dL_list_401 : decode cL_list 401 = .ok (.iconst 1, 1) := by decide +kernel
theorem dL_list_402 : decode cL_list 402 = .ok (.iaload, 1) := by decide +kernel
theorem dL_list_403 : decode cL_list 403 = .ok (.invokevirtual 41, 3) := by decide +kernel
theorem dL_list_406 : decode cL_list 406 = .ok (.iload 4, 2) := by decide +kernel
theorem dL_list_408 : decode cL_list 408 = .ok (.iconst 2, 1) := by decide +kernel
theorem dL_list_409 : decode cL_list 409 = .ok (.irem, 1) := by decide +kernel
theorem dL_list_410 : decode cL_list 410 = .ok (.ifCond .ne 8, 3) := by decide +kernel
theorem dL_list_413 : decode cL_list 413 = .ok (.ldc 135, 2) := by decide +kernel
theorem dL_list_415 : decode cL_list 415 = .ok (.goto 5, 3) := by decide +kernel
theorem dL_list_418 : decode cL_list 418 = .ok (.ldc 161, 2) := by decide +kernel
theorem dL_list_420 : decode cL_list 420 = .ok (.invokevirtual 37, 3) := by decide +kernel
theorem dL_list_423 : decode cL_list 423 = .ok (.pop, 1) := by decide +kernel
theorem dL_list_424 : decode cL_list 424 = .ok (.iinc 4 1, 3) := by decide +kernel
theorem dL_list_427 : decode cL_list 427 = .ok (.goto (-152), 3) := by decide +kernel
theorem dL_list_430 : decode cL_list 430 = .ok (.aload_n 2, 1) := by decide +kernel
theorem dL_list_431 : decode cL_list 431 = .ok (.iconst 1, 1) := by decide +kernel
theorem dL_list_432 : decode cL_list 432 = .ok (.aload_n 0, 1) := by decide +kernel
theorem dL_list_433 : decode cL_list 433 = .ok (.iconst 4, 1) := by decide +kernel
theorem dL_list_434 : decode cL_list 434 = .ok (.invokestatic 117, 3) := by decide +kernel
theorem dL_list_437 : decode cL_list 437 = .ok (.iconst 5, 1) := by decide +kernel
theorem dL_list_438 : decode cL_list 438 = .ok (.invokestatic 123, 3) := by decide +kernel
theorem dL_list_441 : decode cL_list 441 = .ok (.iadd, 1) := by decide +kernel
theorem dL_list_442 : decode cL_list 442 = .ok (.anewarray 137, 3) := by decide +kernel
theorem dL_list_445 : decode cL_list 445 = .ok (.putfield 163, 3) := by decide +kernel
theorem dL_list_448 : decode cL_list 448 = .ok (.iconst 0, 1) := by decide +kernel
theorem dL_list_449 : decode cL_list 449 = .ok (.istore 4, 2) := by decide +kernel
theorem dL_list_451 : decode cL_list 451 = .ok (.iload 4, 2) := by decide +kernel
theorem dL_list_453 : decode cL_list 453 = .ok (.aload_n 2, 1) := by decide +kernel
theorem dL_list_454 : decode cL_list 454 = .ok (.getfield 163, 3) := by decide +kernel
theorem dL_list_457 : decode cL_list 457 = .ok (.arraylength, 1) := by decide +kernel
theorem dL_list_458 : decode cL_list 458 = .ok (.if_icmp .ge 150, 3) := by decide +kernel
theorem dL_list_461 : decode cL_list 461 = .ok (.aload_n 0, 1) := by decide +kernel
theorem dL_list_462 : decode cL_list 462 = .ok (.iconst 5, 1) := by decide +kernel
theorem dL_list_463 : decode cL_list 463 = .ok (.invokestatic 117, 3) := by decide +kernel
theorem dL_list_466 : decode cL_list 466 = .ok (.iconst 4, 1) := by decide +kernel
theorem dL_list_467 : decode cL_list 467 = .ok (.iload 4, 2) := by decide +kernel
theorem dL_list_469 : decode cL_list 469 = .ok (.imul, 1) := by decide +kernel
theorem dL_list_470 : decode cL_list 470 = .ok (.ishr, 1) := by decide +kernel
theorem dL_list_471 : decode cL_list 471 = .ok (.istore 5, 2) := by decide +kernel
theorem dL_list_473 : decode cL_list 473 = .ok (.iconst 1, 1) := by decide +kernel
theorem dL_list_474 : decode cL_list 474 = .ok (.iload 5, 2) := by decide +kernel
theorem dL_list_476 : decode cL_list 476 = .ok (.iconst 3, 1) := by decide +kernel
theorem dL_list_477 : decode cL_list 477 = .ok (.ishr, 1) := by decide +kernel
theorem dL_list_478 : decode cL_list 478 = .ok (.bipush 90, 2) := by decide +kernel
theorem dL_list_480 : decode cL_list 480 = .ok (.invokestatic 123, 3) := by decide +kernel
theorem dL_list_483 : decode cL_list 483 = .ok (.iadd, 1) := by decide +kernel
theorem dL_list_484 : decode cL_list 484 = .ok (.istore 6, 2) := by decide +kernel
theorem dL_list_486 : decode cL_list 486 = .ok (.aload_n 2, 1) := by decide +kernel
theorem dL_list_487 : decode cL_list 487 = .ok (.getfield 163, 3) := by decide +kernel
theorem dL_list_490 : decode cL_list 490 = .ok (.iload 4, 2) := by decide +kernel
theorem dL_list_492 : decode cL_list 492 = .ok (.bipush 6, 2) := by decide +kernel
theorem dL_list_494 : decode cL_list 494 = .ok (.newarray .int, 2) := by decide +kernel
theorem dL_list_496 : decode cL_list 496 = .ok (.dup, 1) := by decide +kernel
theorem dL_list_497 : decode cL_list 497 = .ok (.iconst 0, 1) := by decide +kernel
theorem dL_list_498 : decode cL_list 498 = .ok (.iload 5, 2) := by decide +kernel
theorem dL_list_500 : decode cL_list 500 = .ok (.aload_n 2, 1) := by decide +kernel
theorem dL_list_501 : decode cL_list 501 = .ok (.getfield 127, 3) := by decide +kernel
theorem dL_list_504 : decode cL_list 504 = .ok (.arraylength, 1) := by decide +kernel
theorem dL_list_505 : decode cL_list 505 = .ok (.invokestatic 123, 3) := by decide +kernel
theorem dL_list_508 : decode cL_list 508 = .ok (.iastore, 1) := by decide +kernel
theorem dL_list_509 : decode cL_list 509 = .ok (.dup, 1) := by decide +kernel
theorem dL_list_510 : decode cL_list 510 = .ok (.iconst 1, 1) := by decide +kernel
theorem dL_list_511 : decode cL_list 511 = .ok (.bipush 100, 2) := by decide +kernel
theorem dL_list_513 : decode cL_list 513 = .ok (.iload 6, 2) := by decide +kernel
theorem dL_list_515 : decode cL_list 515 = .ok (.imul, 1) := by decide +kernel
theorem dL_list_516 : decode cL_list 516 = .ok (.iastore, 1) := by decide +kernel
theorem dL_list_517 : decode cL_list 517 = .ok (.dup, 1) := by decide +kernel
theorem dL_list_518 : decode cL_list 518 = .ok (.iconst 2, 1) := by decide +kernel
theorem dL_list_519 : decode cL_list 519 = .ok (.iload 5, 2) := by decide +kernel
theorem dL_list_521 : decode cL_list 521 = .ok (.iconst 5, 1) := by decide +kernel
theorem dL_list_522 : decode cL_list 522 = .ok (.ishr, 1) := by decide +kernel
theorem dL_list_523 : decode cL_list 523 = .ok (.iload_n 3, 1) := by decide +kernel
theorem dL_list_524 : decode cL_list 524 = .ok (.invokestatic 123, 3) := by decide +kernel
theorem dL_list_527 : decode cL_list 527 = .ok (.iastore, 1) := by decide +kernel
theorem dL_list_528 : decode cL_list 528 = .ok (.dup, 1) := by decide +kernel
theorem dL_list_529 : decode cL_list 529 = .ok (.iconst 3, 1) := by decide +kernel
theorem dL_list_530 : decode cL_list 530 = .ok (.iconst (-1), 1) := by decide +kernel
theorem dL_list_531 : decode cL_list 531 = .ok (.iastore, 1) := by decide +kernel
theorem dL_list_532 : decode cL_list 532 = .ok (.dup, 1) := by decide +kernel
theorem dL_list_533 : decode cL_list 533 = .ok (.iconst 4, 1) := by decide +kernel
theorem dL_list_534 : decode cL_list 534 = .ok (.iconst 0, 1) := by decide +kernel
theorem dL_list_535 : decode cL_list 535 = .ok (.iastore, 1) := by decide +kernel
theorem dL_list_536 : decode cL_list 536 = .ok (.dup, 1) := by decide +kernel
theorem dL_list_537 : decode cL_list 537 = .ok (.iconst 5, 1) := by decide +kernel
theorem dL_list_538 : decode cL_list 538 = .ok (.iconst 0, 1) := by decide +kernel
theorem dL_list_539 : decode cL_list 539 = .ok (.iastore, 1) := by decide +kernel
theorem dL_list_540 : decode cL_list 540 = .ok (.aastore, 1) := by decide +kernel
theorem dL_list_541 : decode cL_list 541 = .ok (.aload_n 1, 1) := by decide +kernel
theorem dL_list_542 : decode cL_list 542 = .ok (.ldc 166, 2) := by decide +kernel
theorem dL_list_544 : decode cL_list 544 = .ok (.invokevirtual 37, 3) := by decide +kernel
theorem dL_list_547 : decode cL_list 547 = .ok (.iload 4, 2) := by decide +kernel
theorem dL_list_549 : decode cL_list 549 = .ok (.invokevirtual 41, 3) := by decide +kernel
theorem dL_list_552 : decode cL_list 552 = .ok (.ldc 168, 2) := by decide +kernel
theorem dL_list_554 : decode cL_list 554 = .ok (.invokevirtual 37, 3) := by decide +kernel
theorem dL_list_557 : decode cL_list 557 = .ok (.aload_n 2, 1) := by decide +kernel
theorem dL_list_558 : decode cL_list 558 = .ok (.getfield 163, 3) := by decide +kernel
theorem dL_list_561 : decode cL_list 561 = .ok (.iload 4, 2) := by decide +kernel
theorem dL_list_563 : decode cL_list 563 = .ok (.aaload, 1) := by decide +kernel
theorem dL_list_564 : decode cL_list 564 = .ok (.iconst 0, 1) := by decide +kernel
theorem dL_list_565 : decode cL_list 565 = .ok (.iaload, 1) := by decide +kernel
theorem dL_list_566 : decode cL_list 566 = .ok (.invokevirtual 41, 3) := by decide +kernel
theorem dL_list_569 : decode cL_list 569 = .ok (.ldc 170, 2) := by decide +kernel
theorem dL_list_571 : decode cL_list 571 = .ok (.invokevirtual 37, 3) := by decide +kernel
theorem dL_list_574 : decode cL_list 574 = .ok (.iload 6, 2) := by decide +kernel
theorem dL_list_576 : decode cL_list 576 = .ok (.invokevirtual 41, 3) := by decide +kernel
theorem dL_list_579 : decode cL_list 579 = .ok (.ldc 172, 2) := by decide +kernel
theorem dL_list_581 : decode cL_list 581 = .ok (.invokevirtual 37, 3) := by decide +kernel
theorem dL_list_584 : decode cL_list 584 = .ok (.aload_n 2, 1) := by decide +kernel
theorem dL_list_585 : decode cL_list 585 = .ok (.getfield 163, 3) := by decide +kernel
theorem dL_list_588 : decode cL_list 588 = .ok (.iload 4, 2) := by decide +kernel
theorem dL_list_590 : decode cL_list 590 = .ok (.aaload, 1) := by decide +kernel
theorem dL_list_591 : decode cL_list 591 = .ok (.iconst 2, 1) := by decide +kernel
theorem dL_list_592 : decode cL_list 592 = .ok (.iaload, 1) := by decide +kernel
theorem dL_list_593 : decode cL_list 593 = .ok (.invokevirtual 41, 3) := by decide +kernel
theorem dL_list_596 : decode cL_list 596 = .ok (.ldc 135, 2) := by decide +kernel
theorem dL_list_598 : decode cL_list 598 = .ok (.invokevirtual 37, 3) := by decide +kernel
theorem dL_list_601 : decode cL_list 601 = .ok (.pop, 1) := by decide +kernel
theorem dL_list_602 : decode cL_list 602 = .ok (.iinc 4 1, 3) := by decide +kernel
theorem dL_list_605 : decode cL_list 605 = .ok (.goto (-154), 3) := by decide +kernel
theorem dL_list_608 : decode cL_list 608 = .ok (.aload_n 2, 1) := by decide +kernel
theorem dL_list_609 : decode cL_list 609 = .ok (.aload_n 0, 1) := by decide +kernel
theorem dL_list_610 : decode cL_list 610 = .ok (.bipush 6, 2) := by decide +kernel
theorem dL_list_612 : decode cL_list 612 = .ok (.invokestatic 117, 3) := by decide +kernel
theorem dL_list_615 : decode cL_list 615 = .ok (.bipush 8, 2) := by decide +kernel
theorem dL_list_617 : decode cL_list 617 = .ok (.invokestatic 123, 3) := by decide +kernel
theorem dL_list_620 : decode cL_list 620 = .ok (.anewarray 137, 3) := by decide +kernel
theorem dL_list_623 : decode cL_list 623 = .ok (.putfield 174, 3) := by decide +kernel
theorem dL_list_626 : decode cL_list 626 = .ok (.iconst 0, 1) := by decide +kernel
theorem dL_list_627 : decode cL_list 627 = .ok (.istore 4, 2) := by decide +kernel
theorem dL_list_629 : decode cL_list 629 = .ok (.iload 4, 2) := by decide +kernel
theorem dL_list_631 : decode cL_list 631 = .ok (.aload_n 2, 1) := by decide +kernel
theorem dL_list_632 : decode cL_list 632 = .ok (.getfield 174, 3) := by decide +kernel
theorem dL_list_635 : decode cL_list 635 = .ok (.arraylength, 1) := by decide +kernel
theorem dL_list_636 : decode cL_list 636 = .ok (.if_icmp .ge 448, 3) := by decide +kernel
theorem dL_list_639 : decode cL_list 639 = .ok (.aload_n 0, 1) := by decide +kernel
theorem dL_list_640 : decode cL_list 640 = .ok (.bipush 7, 2) := by decide +kernel
theorem dL_list_642 : decode cL_list 642 = .ok (.iload 4, 2) := by decide +kernel
theorem dL_list_644 : decode cL_list 644 = .ok (.iconst 4, 1) := by decide +kernel
theorem dL_list_645 : decode cL_list 645 = .ok (.irem, 1) := by decide +kernel
theorem dL_list_646 : decode cL_list 646 = .ok (.iadd, 1) := by decide +kernel
theorem dL_list_647 : decode cL_list 647 = .ok (.invokestatic 117, 3) := by decide +kernel
theorem dL_list_650 : decode cL_list 650 = .ok (.iload 4, 2) := by decide +kernel
theorem dL_list_652 : decode cL_list 652 = .ok (.iconst 4, 1) := by decide +kernel
theorem dL_list_653 : decode cL_list 653 = .ok (.idiv, 1) := by decide +kernel
theorem dL_list_654 : decode cL_list 654 = .ok (.bipush 9, 2) := by decide +kernel
theorem dL_list_656 : decode cL_list 656 = .ok (.imul, 1) := by decide +kernel
theorem dL_list_657 : decode cL_list 657 = .ok (.ishr, 1) := by decide +kernel
theorem dL_list_658 : decode cL_list 658 = .ok (.istore 5, 2) := by decide +kernel
theorem dL_list_660 : decode cL_list 660 = .ok (.aload_n 0, 1) := by decide +kernel
theorem dL_list_661 : decode cL_list 661 = .ok (.bipush 11, 2) := by decide +kernel
theorem dL_list_663 : decode cL_list 663 = .ok (.iload 4, 2) := by decide +kernel
theorem dL_list_665 : decode cL_list 665 = .ok (.iconst 4, 1) := by decide +kernel
theorem dL_list_666 : decode cL_list 666 = .ok (.irem, 1) := by decide +kernel
theorem dL_list_667 : decode cL_list 667 = .ok (.iadd, 1) := by decide +kernel
theorem dL_list_668 : decode cL_list 668 = .ok (.invokestatic 117, 3) := by decide +kernel
theorem dL_list_671 : decode cL_list 671 = .ok (.iload 4, 2) := by decide +kernel
theorem dL_list_673 : decode cL_list 673 = .ok (.iconst 4, 1) := by decide +kernel
theorem dL_list_674 : decode cL_list 674 = .ok (.idiv, 1) := by decide +kernel
theorem dL_list_675 : decode cL_list 675 = .ok (.bipush 9, 2) := by decide +kernel
theorem dL_list_677 : decode cL_list 677 = .ok (.imul, 1) := by decide +kernel
theorem dL_list_678 : decode cL_list 678 = .ok (.ishr, 1) := by decide +kernel
theorem dL_list_679 : decode cL_list 679 = .ok (.istore 6, 2) := by decide +kernel
theorem dL_list_681 : decode cL_list 681 = .ok (.iload 4, 2) := by decide +kernel
theorem dL_list_683 : decode cL_list 683 = .ok (.iconst 2, 1) := by decide +kernel
theorem dL_list_684 : decode cL_list 684 = .ok (.if_icmp .ge 8, 3) := by decide +kernel
theorem dL_list_687 : decode cL_list 687 = .ok (.iload 4, 2) := by decide +kernel
theorem dL_list_689 : decode cL_list 689 = .ok (.goto 11, 3) := by decide +kernel
theorem dL_list_692 : decode cL_list 692 = .ok (.iload 5, 2) := by decide +kernel
theorem dL_list_694 : decode cL_list 694 = .ok (.iconst 4, 1) := by decide +kernel
theorem dL_list_695 : decode cL_list 695 = .ok (.invokestatic 123, 3) := by decide +kernel
theorem dL_list_698 : decode cL_list 698 = .ok (.iconst 3, 1) := by decide +kernel
theorem dL_list_699 : decode cL_list 699 = .ok (.irem, 1) := by decide +kernel
theorem dL_list_700 : decode cL_list 700 = .ok (.istore 7, 2) := by decide +kernel
theorem dL_list_702 : decode cL_list 702 = .ok (.iload 7, 2) := by decide +kernel
theorem dL_list_704 : decode cL_list 704 = .ok (.iconst 2, 1) := by decide +kernel
theorem dL_list_705 : decode cL_list 705 = .ok (.if_icmp .ne 14, 3) := by decide +kernel
theorem dL_list_708 : decode cL_list 708 = .ok (.iload 5, 2) := by decide +kernel
theorem dL_list_710 : decode cL_list 710 = .ok (.iconst 2, 1) := by decide +kernel
theorem dL_list_711 : decode cL_list 711 = .ok (.ishr, 1) := by decide +kernel
theorem dL_list_712 : decode cL_list 712 = .ok (.iload_n 3, 1) := by decide +kernel
theorem dL_list_713 : decode cL_list 713 = .ok (.invokestatic 123, 3) := by decide +kernel
theorem dL_list_716 : decode cL_list 716 = .ok (.goto 15, 3) := by decide +kernel
theorem dL_list_719 : decode cL_list 719 = .ok (.iload 5, 2) := by decide +kernel
theorem dL_list_721 : decode cL_list 721 = .ok (.iconst 2, 1) := by decide +kernel
theorem dL_list_722 : decode cL_list 722 = .ok (.ishr, 1) := by decide +kernel
theorem dL_list_723 : decode cL_list 723 = .ok (.aload_n 2, 1) := by decide +kernel
theorem dL_list_724 : decode cL_list 724 = .ok (.getfield 163, 3) := by decide +kernel
theorem dL_list_727 : decode cL_list 727 = .ok (.arraylength, 1) := by decide +kernel
theorem dL_list_728 : decode cL_list 728 = .ok (.invokestatic 123, 3) := by decide +kernel
theorem dL_list_731 : decode cL_list 731 = .ok (.istore 8, 2) := by decide +kernel
theorem dL_list_733 : decode cL_list 733 = .ok (.iload 7, 2) := by decide +kernel
theorem dL_list_735 : decode cL_list 735 = .ok (.ifCond .ne 18, 3) := by decide +kernel
theorem dL_list_738 : decode cL_list 738 = .ok (.iload 5, 2) := by decide +kernel
theorem dL_list_740 : decode cL_list 740 = .ok (.iconst 4, 1) := by decide +kernel
theorem dL_list_741 : decode cL_list 741 = .ok (.ishr, 1) := by decide +kernel
theorem dL_list_742 : decode cL_list 742 = .ok (.aload_n 2, 1) := by decide +kernel
theorem dL_list_743 : decode cL_list 743 = .ok (.getfield 138, 3) := by decide +kernel
theorem dL_list_746 : decode cL_list 746 = .ok (.arraylength, 1) := by decide +kernel
theorem dL_list_747 : decode cL_list 747 = .ok (.invokestatic 123, 3) := by decide +kernel
theorem dL_list_750 : decode cL_list 750 = .ok (.goto 11, 3) := by decide +kernel
theorem dL_list_753 : decode cL_list 753 = .ok (.iload 5, 2) := by decide +kernel
theorem dL_list_755 : decode cL_list 755 = .ok (.iconst 4, 1) := by decide +kernel
theorem dL_list_756 : decode cL_list 756 = .ok (.ishr, 1) := by decide +kernel
theorem dL_list_757 : decode cL_list 757 = .ok (.iload_n 3, 1) := by decide +kernel
theorem dL_list_758 : decode cL_list 758 = .ok (.invokestatic 123, 3) := by decide +kernel
theorem dL_list_761 : decode cL_list 761 = .ok (.istore 9, 2) := by decide +kernel
theorem dL_list_763 : decode cL_list 763 = .ok (.bipush 12, 2) := by decide +kernel
theorem dL_list_765 : decode cL_list 765 = .ok (.newarray .int, 2) := by decide +kernel
theorem dL_list_767 : decode cL_list 767 = .ok (.dup, 1) := by decide +kernel
theorem dL_list_768 : decode cL_list 768 = .ok (.iconst 0, 1) := by decide +kernel
theorem dL_list_769 : decode cL_list 769 = .ok (.iload 7, 2) := by decide +kernel
theorem dL_list_771 : decode cL_list 771 = .ok (.iastore, 1) := by decide +kernel
theorem dL_list_772 : decode cL_list 772 = .ok (.dup, 1) := by decide +kernel
theorem dL_list_773 : decode cL_list 773 = .ok (.iconst 1, 1) := by decide +kernel
theorem dL_list_774 : decode cL_list 774 = .ok (.iload 8, 2) := by decide +kernel
theorem dL_list_776 : decode cL_list 776 = .ok (.iastore, 1) := by decide +kernel
theorem dL_list_777 : decode cL_list 777 = .ok (.dup, 1) := by decide +kernel
theorem dL_list_778 : decode cL_list 778 = .ok (.iconst 2, 1) := by decide +kernel
theorem dL_list_779 : decode cL_list 779 = .ok (.iload 9, 2) := by decide +kernel
theorem dL_list_781 : decode cL_list 781 = .ok (.iastore, 1) := by decide +kernel
theorem dL_list_782 : decode cL_list 782 = .ok (.dup, 1) := by decide +kernel
theorem dL_list_783 : decode cL_list 783 = .ok (.iconst 3, 1) := by decide +kernel
theorem dL_list_784 : decode cL_list 784 = .ok (.iload 6, 2) := by decide +kernel
theorem dL_list_786 : decode cL_list 786 = .ok (.bipush 8, 2) := by decide +kernel
theorem dL_list_788 : decode cL_list 788 = .ok (.invokestatic 123, 3) := by decide +kernel
theorem dL_list_791 : decode cL_list 791 = .ok (.iastore, 1) := by decide +kernel
theorem dL_list_792 : decode cL_list 792 = .ok (.dup, 1) := by decide +kernel
theorem dL_list_793 : decode cL_list 793 = .ok (.iconst 4, 1) := by decide +kernel
theorem dL_list_794 : decode cL_list 794 = .ok (.iload 6, 2) := by decide +kernel
theorem dL_list_796 : decode cL_list 796 = .ok (.iconst 2, 1) := by decide +kernel
theorem dL_list_797 : decode cL_list 797 = .ok (.ishr, 1) := by decide +kernel
theorem dL_list_798 : decode cL_list 798 = .ok (.iload 6, 2) := by decide +kernel
theorem dL_list_800 : decode cL_list 800 = .ok (.bipush 6, 2) := by decide +kernel
theorem dL_list_802 : decode cL_list 802 = .ok (.ishr, 1) := by decide +kernel
theorem dL_list_803 : decode cL_list 803 = .ok (.iconst 2, 1) := by decide +kernel
theorem dL_list_804 : decode cL_list 804 = .ok (.invokestatic 123, 3) := by decide +kernel
theorem dL_list_807 : decode cL_list 807 = .ok (.ifCond .ne 9, 3) := by decide +kernel
theorem dL_list_810 : decode cL_list 810 = .ok (.sipush 999, 3) := by decide +kernel
theorem dL_list_813 : decode cL_list 813 = .ok (.goto 5, 3) := by decide +kernel
theorem dL_list_816 : decode cL_list 816 = .ok (.bipush 40, 2) := by decide +kernel
theorem dL_list_818 : decode cL_list 818 = .ok (.invokestatic 123, 3) := by decide +kernel
theorem dL_list_821 : decode cL_list 821 = .ok (.iastore, 1) := by decide +kernel
theorem dL_list_822 : decode cL_list 822 = .ok (.dup, 1) := by decide +kernel
theorem dL_list_823 : decode cL_list 823 = .ok (.iconst 5, 1) := by decide +kernel
theorem dL_list_824 : decode cL_list 824 = .ok (.iconst (-1), 1) := by decide +kernel
theorem dL_list_825 : decode cL_list 825 = .ok (.iload 6, 2) := by decide +kernel
theorem dL_list_827 : decode cL_list 827 = .ok (.iconst 3, 1) := by decide +kernel
theorem dL_list_828 : decode cL_list 828 = .ok (.ishr, 1) := by decide +kernel
theorem dL_list_829 : decode cL_list 829 = .ok (.bipush 10, 2) := by decide +kernel
theorem dL_list_831 : decode cL_list 831 = .ok (.invokestatic 123, 3) := by decide +kernel
theorem dL_list_834 : decode cL_list 834 = .ok (.iconst 3, 1) := by decide +kernel
theorem dL_list_835 : decode cL_list 835 = .ok (.isub, 1) := by decide +kernel
theorem dL_list_836 : decode cL_list 836 = .ok (.invokestatic 177, 3) := by decide +kernel
theorem dL_list_839 : decode cL_list 839 = .ok (.iastore, 1) := by decide +kernel
theorem dL_list_840 : decode cL_list 840 = .ok (.dup, 1) := by decide +kernel
theorem dL_list_841 : decode cL_list 841 = .ok (.bipush 6, 2) := by decide +kernel
theorem dL_list_843 : decode cL_list 843 = .ok (.iload 6, 2) := by decide +kernel
theorem dL_list_845 : decode cL_list 845 = .ok (.iconst 4, 1) := by decide +kernel
theorem dL_list_846 : decode cL_list 846 = .ok (.ishr, 1) := by decide +kernel
theorem dL_list_847 : decode cL_list 847 = .ok (.bipush 99, 2) := by decide +kernel
theorem dL_list_849 : decode cL_list 849 = .ok (.invokestatic 123, 3) := by decide +kernel
theorem dL_list_852 : decode cL_list 852 = .ok (.iastore, 1) := by decide +kernel
theorem dL_list_853 : decode cL_list 853 = .ok (.dup, 1) := by decide +kernel
theorem dL_list_854 : decode cL_list 854 = .ok (.bipush 7, 2) := by decide +kernel
theorem dL_list_856 : decode cL_list 856 = .ok (.iload 5, 2) := by decide +kernel
theorem dL_list_858 : decode cL_list 858 = .ok (.iconst 5, 1) := by decide +kernel
theorem dL_list_859 : decode cL_list 859 = .ok (.ishr, 1) := by decide +kernel
theorem dL_list_860 : decode cL_list 860 = .ok (.iload_n 3, 1) := by decide +kernel
theorem dL_list_861 : decode cL_list 861 = .ok (.invokestatic 123, 3) := by decide +kernel
theorem dL_list_864 : decode cL_list 864 = .ok (.iastore, 1) := by decide +kernel
theorem dL_list_865 : decode cL_list 865 = .ok (.dup, 1) := by decide +kernel
theorem dL_list_866 : decode cL_list 866 = .ok (.bipush 8, 2) := by decide +kernel
theorem dL_list_868 : decode cL_list 868 = .ok (.iload 6, 2) := by decide +kernel
theorem dL_list_870 : decode cL_list 870 = .ok (.iconst 5, 1) := by decide +kernel
theorem dL_list_871 : decode cL_list 871 = .ok (.ishr, 1) := by decide +kernel
theorem dL_list_872 : decode cL_list 872 = .ok (.iload_n 3, 1) := by decide +kernel
theorem dL_list_873 : decode cL_list 873 = .ok (.invokestatic 123, 3) := by decide +kernel
theorem dL_list_876 : decode cL_list 876 = .ok (.iastore, 1) := by decide +kernel
theorem dL_list_877 : decode cL_list 877 = .ok (.dup, 1) := by decide +kernel
theorem dL_list_878 : decode cL_list 878 = .ok (.bipush 9, 2) := by decide +kernel
theorem dL_list_880 : decode cL_list 880 = .ok (.iload 5, 2) := by decide +kernel
theorem dL_list_882 : decode cL_list 882 = .ok (.bipush 6, 2) := by decide +kernel
theorem dL_list_884 : decode cL_list 884 = .ok (.ishr, 1) := by decide +kernel
theorem dL_list_885 : decode cL_list 885 = .ok (.aload_n 2, 1) := by decide +kernel
theorem dL_list_886 : decode cL_list 886 = .ok (.getfield 163, 3) := by decide +kernel
theorem dL_list_889 : decode cL_list 889 = .ok (.arraylength, 1) := by decide +kernel
theorem dL_list_890 : decode cL_list 890 = .ok (.invokestatic 123, 3) := by decide +kernel
theorem dL_list_893 : decode cL_list 893 = .ok (.iastore, 1) := by decide +kernel
theorem dL_list_894 : decode cL_list 894 = .ok (.dup, 1) := by decide +kernel
theorem dL_list_895 : decode cL_list 895 = .ok (.bipush 10, 2) := by decide +kernel
theorem dL_list_897 : decode cL_list 897 = .ok (.iload 6, 2) := by decide +kernel
theorem dL_list_899 : decode cL_list 899 = .ok (.bipush 7, 2) := by decide +kernel
theorem dL_list_901 : decode cL_list 901 = .ok (.ishr, 1) := by decide +kernel
theorem dL_list_902 : decode cL_list 902 = .ok (.aload_n 2, 1) := by decide +kernel
theorem dL_list_903 : decode cL_list 903 = .ok (.getfield 163, 3) := by decide +kernel
theorem dL_list_906 : decode cL_list 906 = .ok (.arraylength, 1) := by decide +kernel
theorem dL_list_907 : decode cL_list 907 = .ok (.invokestatic 123, 3) := by decide +kernel
theorem dL_list_910 : decode cL_list 910 = .ok (.iastore, 1) := by decide +kernel
theorem dL_list_911 : decode cL_list 911 = .ok (.dup, 1) := by decide +kernel
theorem dL_list_912 : decode cL_list 912 = .ok (.bipush 11, 2) := by decide +kernel
theorem dL_list_914 : decode cL_list 914 = .ok (.iconst 0, 1) := by decide +kernel
theorem dL_list_915 : decode cL_list 915 = .ok (.iastore, 1) := by decide +kernel
theorem dL_list_916 : decode cL_list 916 = .ok (.astore 10, 2) := by decide +kernel
theorem dL_list_918 : decode cL_list 918 = .ok (.aload_n 2, 1) := by decide +kernel
theorem dL_list_919 : decode cL_list 919 = .ok (.getfield 174, 3) := by decide +kernel
theorem dL_list_922 : decode cL_list 922 = .ok (.iload 4, 2) := by decide +kernel
theorem dL_list_924 : decode cL_list 924 = .ok (.aload 10, 2) := by decide +kernel
theorem dL_list_926 : decode cL_list 926 = .ok (.aastore, 1) := by decide +kernel
theorem dL_list_927 : decode cL_list 927 = .ok (.aload_n 1, 1) := by decide +kernel
theorem dL_list_928 : decode cL_list 928 = .ok (.iload 7, 2) := by decide +kernel
theorem dL_list_930 : decode cL_list 930 = .ok (.ifCond .ne 36, 3) := by decide +kernel
theorem dL_list_933 : decode cL_list 933 = .ok (.new 32, 3) := by decide +kernel
theorem dL_list_936 : decode cL_list 936 = .ok (.dup, 1) := by decide +kernel
theorem dL_list_937 : decode cL_list 937 = .ok (.invokespecial 34, 3) := by decide +kernel
theorem dL_list_940 : decode cL_list 940 = .ok (.ldc 182, 2) := by decide +kernel
theorem dL_list_942 : decode cL_list 942 = .ok (.invokevirtual 37, 3) := by decide +kernel
theorem dL_list_945 : decode cL_list 945 = .ok (.iload 8, 2) := by decide +kernel
theorem dL_list_947 : decode cL_list 947 = .ok (.invokevirtual 41, 3) := by decide +kernel
theorem dL_list_950 : decode cL_list 950 = .ok (.ldc 184, 2) := by decide +kernel
theorem dL_list_952 : decode cL_list 952 = .ok (.invokevirtual 37, 3) := by decide +kernel
theorem dL_list_955 : decode cL_list 955 = .ok (.iload 9, 2) := by decide +kernel
theorem dL_list_957 : decode cL_list 957 = .ok (.invokevirtual 41, 3) := by decide +kernel
theorem dL_list_960 : decode cL_list 960 = .ok (.invokevirtual 44, 3) := by decide +kernel
theorem dL_list_963 : decode cL_list 963 = .ok (.goto 98, 3) := by decide +kernel
theorem dL_list_966 : decode cL_list 966 = .ok (.iload 7, 2) := by decide +kernel
theorem dL_list_968 : decode cL_list 968 = .ok (.iconst 1, 1) := by decide +kernel
theorem dL_list_969 : decode cL_list 969 = .ok (.if_icmp .ne 49, 3) := by decide +kernel
theorem dL_list_972 : decode cL_list 972 = .ok (.new 32, 3) := by decide +kernel
theorem dL_list_975 : decode cL_list 975 = .ok (.dup, 1) := by decide +kernel
theorem dL_list_976 : decode cL_list 976 = .ok (.invokespecial 34, 3) := by decide +kernel
theorem dL_list_979 : decode cL_list 979 = .ok (.ldc 186, 2) := by decide +kernel
theorem dL_list_981 : decode cL_list 981 = .ok (.invokevirtual 37, 3) := by decide +kernel
theorem dL_list_984 : decode cL_list 984 = .ok (.iload 8, 2) := by decide +kernel
theorem dL_list_986 : decode cL_list 986 = .ok (.invokevirtual 41, 3) := by decide +kernel
theorem dL_list_989 : decode cL_list 989 = .ok (.ldc 188, 2) := by decide +kernel
theorem dL_list_991 : decode cL_list 991 = .ok (.invokevirtual 37, 3) := by decide +kernel
theorem dL_list_994 : decode cL_list 994 = .ok (.iload 9, 2) := by decide +kernel
theorem dL_list_996 : decode cL_list 996 = .ok (.invokevirtual 41, 3) := by decide +kernel
theorem dL_list_999 : decode cL_list 999 = .ok (.ldc 190, 2) := by decide +kernel
theorem dL_list_1001 : decode cL_list 1001 = .ok (.invokevirtual 37, 3) := by decide +kernel
theorem dL_list_1004 : decode cL_list 1004 = .ok (.aload 10, 2) := by decide +kernel
theorem dL_list_1006 : decode cL_list 1006 = .ok (.invokestatic 192, 3) := by decide +kernel
theorem dL_list_1009 : decode cL_list 1009 = .ok (.invokevirtual 37, 3) := by decide +kernel
theorem dL_list_1012 : decode cL_list 1012 = .ok (.invokevirtual 44, 3) := by decide +kernel
theorem dL_list_1015 : decode cL_list 1015 = .ok (.goto 46, 3) := by decide +kernel
theorem dL_list_1018 : decode cL_list 1018 = .ok (.new 32, 3) := by decide +kernel
theorem dL_list_1021 : decode cL_list 1021 = .ok (.dup, 1) := by decide +kernel
theorem dL_list_1022 : decode cL_list 1022 = .ok (.invokespecial 34, 3) := by decide +kernel
theorem dL_list_1025 : decode cL_list 1025 = .ok (.ldc 196, 2) := by decide +kernel
theorem dL_list_1027 : decode cL_list 1027 = .ok (.invokevirtual 37, 3) := by decide +kernel
theorem dL_list_1030 : decode cL_list 1030 = .ok (.iload 8, 2) := by decide +kernel
theorem dL_list_1032 : decode cL_list 1032 = .ok (.invokevirtual 41, 3) := by decide +kernel
theorem dL_list_1035 : decode cL_list 1035 = .ok (.ldc 188, 2) := by decide +kernel
theorem dL_list_1037 : decode cL_list 1037 = .ok (.invokevirtual 37, 3) := by decide +kernel
theorem dL_list_1040 : decode cL_list 1040 = .ok (.iload 9, 2) := by decide +kernel
theorem dL_list_1042 : decode cL_list 1042 = .ok (.invokevirtual 41, 3) := by decide +kernel
theorem dL_list_1045 : decode cL_list 1045 = .ok (.ldc 190, 2) := by decide +kernel
theorem dL_list_1047 : decode cL_list 1047 = .ok (.invokevirtual 37, 3) := by decide +kernel
theorem dL_list_1050 : decode cL_list 1050 = .ok (.aload 10, 2) := by decide +kernel
theorem dL_list_1052 : decode cL_list 1052 = .ok (.invokestatic 192, 3) := by decide +kernel
theorem dL_list_1055 : decode cL_list 1055 = .ok (.invokevirtual 37, 3) := by decide +kernel
theorem dL_list_1058 : decode cL_list 1058 = .ok (.invokevirtual 44, 3) := by decide +kernel
theorem dL_list_1061 : decode cL_list 1061 = .ok (.invokevirtual 37, 3) := by decide +kernel
theorem dL_list_1064 : decode cL_list 1064 = .ok (.aload 10, 2) := by decide +kernel
theorem dL_list_1066 : decode cL_list 1066 = .ok (.invokestatic 198, 3) := by decide +kernel
theorem dL_list_1069 : decode cL_list 1069 = .ok (.invokevirtual 37, 3) := by decide +kernel
theorem dL_list_1072 : decode cL_list 1072 = .ok (.ldc 201, 2) := by decide +kernel
theorem dL_list_1074 : decode cL_list 1074 = .ok (.invokevirtual 37, 3) := by decide +kernel
theorem dL_list_1077 : decode cL_list 1077 = .ok (.pop, 1) := by decide +kernel
theorem dL_list_1078 : decode cL_list 1078 = .ok (.iinc 4 1, 3) := by decide +kernel
theorem dL_list_1081 : decode cL_list 1081 = .ok (.goto (-452), 3) := by decide +kernel
theorem dL_list_1084 : decode cL_list 1084 = .ok (.aload_n 2, 1) := by decide +kernel
theorem dL_list_1085 : decode cL_list 1085 = .ok (.areturn, 1) := by decide +kernel
theorem dL_act_0 : decode cL_act 0 = .ok (.aload_n 1, 1) := by decide +kernel
theorem dL_act_1 : decode cL_act 1 = .ok (.getfield 148, 3) := by decide +kernel
theorem dL_act_4 : decode cL_act 4 = .ok (.arraylength, 1) := by decide +kernel
theorem dL_act_5 : decode cL_act 5 = .ok (.istore_n 3, 1) := by decide +kernel
theorem dL_act_6 : decode cL_act 6 = .ok (.iload_n 2, 1) := by decide +kernel
theorem dL_act_7 : decode cL_act 7 = .ok (.iconst 3, 1) := by decide +kernel
theorem dL_act_8 : decode cL_act 8 = .ok (.ishr, 1) := by decide +kernel
theorem dL_act_9 : decode cL_act 9 = .ok (.iload_n 3, 1) := by decide +kernel
theorem dL_act_10 : decode cL_act 10 = .ok (.invokestatic 123, 3) := by decide +kernel
theorem dL_act_13 : decode cL_act 13 = .ok (.istore 4, 2) := by decide +kernel
theorem dL_act_15 : decode cL_act 15 = .ok (.iload_n 2, 1) := by decide +kernel
theorem dL_act_16 : decode cL_act 16 = .ok (.iconst 5, 1) := by decide +kernel
theorem dL_act_17 : decode cL_act 17 = .ok (.ishr, 1) := by decide +kernel
theorem dL_act_18 : decode cL_act 18 = .ok (.iload_n 3, 1) := by decide +kernel
theorem dL_act_19 : decode cL_act 19 = .ok (.invokestatic 123, 3) := by decide +kernel
theorem dL_act_22 : decode cL_act 22 = .ok (.istore 5, 2) := by decide +kernel
theorem dL_act_24 : decode cL_act 24 = .ok (.iload_n 2, 1) := by decide +kernel
theorem dL_act_25 : decode cL_act 25 = .ok (.bipush 10, 2) := by decide +kernel
theorem dL_act_27 : decode cL_act 27 = .ok (.invokestatic 123, 3) := by decide +kernel
theorem dL_act_30 : decode cL_act 30 = .ok (.tableswitch 407 0 5 #[38, 75, 75, 75, 253, 336], 38) := by decide +kernel
theorem dL_act_68 : decode cL_act 68 = .ok (.aload_n 1, 1) := by decide +kernel
theorem dL_act_69 : decode cL_act 69 = .ok (.getfield 203, 3) := by decide +kernel
theorem dL_act_72 : decode cL_act 72 = .ok (.istore 7, 2) := by decide +kernel
theorem dL_act_74 : decode cL_act 74 = .ok (.aload_n 1, 1) := by decide +kernel
theorem dL_act_75 : decode cL_act 75 = .ok (.iload_n 2, 1) := by decide +kernel
theorem dL_act_76 : decode cL_act 76 = .ok (.iconst 4, 1) := by decide +kernel
theorem dL_act_77 : decode cL_act 77 = .ok (.ishr, 1) := by decide +kernel
theorem dL_act_78 : decode cL_act 78 = .ok (.bipush 10, 2) := by decide +kernel
theorem dL_act_80 : decode cL_act 80 = .ok (.invokestatic 123, 3) := by decide +kernel
theorem dL_act_83 : decode cL_act 83 = .ok (.putfield 203, 3) := by decide +kernel
theorem dL_act_86 : decode cL_act 86 = .ok (.aload_n 0, 1) := by decide +kernel
theorem dL_act_87 : decode cL_act 87 = .ok (.aload_n 1, 1) := by decide +kernel
theorem dL_act_88 : decode cL_act 88 = .ok (.getfield 203, 3) := by decide +kernel
theorem dL_act_91 : decode cL_act 91 = .ok (.invokevirtual 207, 3) := by decide +kernel
theorem dL_act_94 : decode cL_act 94 = .ok (.iload 7, 2) := by decide +kernel
theorem dL_act_96 : decode cL_act 96 = .ok (.if_icmp .ne 7, 3) := by decide +kernel
theorem dL_act_99 : decode cL_act 99 = .ok (.iconst 1, 1) := by decide +kernel
theorem dL_act_100 : decode cL_act 100 = .ok (.goto 4, 3) := by decide +kernel
theorem dL_act_103 : decode cL_act 103 = .ok (.iconst 0, 1) := by decide +kernel
theorem dL_act_104 : decode cL_act 104 = .ok (.ireturn, 1) := by decide +kernel
theorem dL_act_105 : decode cL_act 105 = .ok (.iload 4, 2) := by decide +kernel
theorem dL_act_107 : decode cL_act 107 = .ok (.iload 5, 2) := by decide +kernel
theorem dL_act_109 : decode cL_act 109 = .ok (.if_icmp .ne 5, 3) := by decide +kernel
theorem dL_act_112 : decode cL_act 112 = .ok (.iconst 1, 1) := by decide +kernel
theorem dL_act_113 : decode cL_act 113 = .ok (.ireturn, 1) := by decide +kernel
theorem dL_act_114 : decode cL_act 114 = .ok (.iconst 1, 1) := by decide +kernel
theorem dL_act_115 : decode cL_act 115 = .ok (.iload_n 2, 1) := by decide +kernel
theorem dL_act_116 : decode cL_act 116 = .ok (.bipush 7, 2) := by decide +kernel
theorem dL_act_118 : decode cL_act 118 = .ok (.ishr, 1) := by decide +kernel
theorem dL_act_119 : decode cL_act 119 = .ok (.iload_n 2, 1) := by decide +kernel
theorem dL_act_120 : decode cL_act 120 = .ok (.iconst 4, 1) := by decide +kernel
theorem dL_act_121 : decode cL_act 121 = .ok (.ishr, 1) := by decide +kernel
theorem dL_act_122 : decode cL_act 122 = .ok (.iconst 2, 1) := by decide +kernel
theorem dL_act_123 : decode cL_act 123 = .ok (.invokestatic 123, 3) := by decide +kernel
theorem dL_act_126 : decode cL_act 126 = .ok (.ifCond .ne 9, 3) := by decide +kernel
theorem dL_act_129 : decode cL_act 129 = .ok (.sipush 999, 3) := by decide +kernel
theorem dL_act_132 : decode cL_act 132 = .ok (.goto 5, 3) := by decide +kernel
theorem dL_act_135 : decode cL_act 135 = .ok (.bipush 60, 2) := by decide +kernel
theorem dL_act_137 : decode cL_act 137 = .ok (.invokestatic 123, 3) := by decide +kernel
theorem dL_act_140 : decode cL_act 140 = .ok (.iadd, 1) := by decide +kernel
theorem dL_act_141 : decode cL_act 141 = .ok (.istore 7, 2) := by decide +kernel
theorem dL_act_143 : decode cL_act 143 = .ok (.aload_n 1, 1) := by decide +kernel
theorem dL_act_144 : decode cL_act 144 = .ok (.getfield 148, 3) := by decide +kernel
theorem dL_act_147 : decode cL_act 147 = .ok (.iload 4, 2) := by decide +kernel
theorem dL_act_149 : decode cL_act 149 = .ok (.aaload, 1) := by decide +kernel
theorem dL_act_150 : decode cL_act 150 = .ok (.iconst 0, 1) := by decide +kernel
theorem dL_act_151 : decode cL_act 151 = .ok (.iaload, 1) := by decide +kernel
theorem dL_act_152 : decode cL_act 152 = .ok (.iload 7, 2) := by decide +kernel
theorem dL_act_154 : decode cL_act 154 = .ok (.if_icmp .lt 28, 3) := by decide +kernel
theorem dL_act_157 : decode cL_act 157 = .ok (.aload_n 1, 1) := by decide +kernel
theorem dL_act_158 : decode cL_act 158 = .ok (.iload 5, 2) := by decide +kernel
theorem dL_act_160 : decode cL_act 160 = .ok (.invokevirtual 210, 3) := by decide +kernel
theorem dL_act_163 : decode cL_act 163 = .ok (.iload 7, 2) := by decide +kernel
theorem dL_act_165 : decode cL_act 165 = .ok (.iadd, 1) := by decide +kernel
theorem dL_act_166 : decode cL_act 166 = .ok (.aload_n 1, 1) := by decide +kernel
theorem dL_act_167 : decode cL_act 167 = .ok (.getfield 148, 3) := by decide +kernel
theorem dL_act_170 : decode cL_act 170 = .ok (.iload 5, 2) := by decide +kernel
theorem dL_act_172 : decode cL_act 172 = .ok (.aaload, 1) := by decide +kernel
theorem dL_act_173 : decode cL_act 173 = .ok (.iconst 1, 1) := by decide +kernel
theorem dL_act_174 : decode cL_act 174 = .ok (.iaload, 1) := by decide +kernel
theorem dL_act_175 : decode cL_act 175 = .ok (.if_icmp .gt 7, 3) := by decide +kernel
theorem dL_act_178 : decode cL_act 178 = .ok (.iconst 1, 1) := by decide +kernel
theorem dL_act_179 : decode cL_act 179 = .ok (.goto 4, 3) := by decide +kernel
theorem dL_act_182 : decode cL_act 182 = .ok (.iconst 0, 1) := by decide +kernel
theorem dL_act_183 : decode cL_act 183 = .ok (.istore 8, 2) := by decide +kernel
theorem dL_act_185 : decode cL_act 185 = .ok (.iload 8, 2) := by decide +kernel
theorem dL_act_187 : decode cL_act 187 = .ok (.ifCond .eq 46, 3) := by decide +kernel
theorem dL_act_190 : decode cL_act 190 = .ok (.aload_n 1, 1) := by decide +kernel
theorem dL_act_191 : decode cL_act 191 = .ok (.getfield 148, 3) := by decide +kernel
theorem dL_act_194 : decode cL_act 194 = .ok (.iload 4, 2) := by decide +kernel
theorem dL_act_196 : decode cL_act 196 = .ok (.aaload, 1) := by decide +kernel
theorem dL_act_197 : decode cL_act 197 = .ok (.iconst 0, 1) := by decide +kernel
theorem dL_act_198 : decode cL_act 198 = .ok (.dup2, 1) := by decide +kernel
theorem dL_act_199 : decode cL_act 199 = .ok (.iaload, 1) := by decide +kernel
theorem dL_act_200 : decode cL_act 200 = .ok (.iload 7, 2) := by decide +kernel
theorem dL_act_202 : decode cL_act 202 = .ok (.isub, 1) := by decide +kernel
theorem dL_act_203 : decode cL_act 203 = .ok (.iastore, 1) := by decide +kernel
theorem dL_act_204 : decode cL_act 204 = .ok (.aload_n 1, 1) := by decide +kernel
theorem dL_act_205 : decode cL_act 205 = .ok (.getfield 148, 3) := by decide +kernel
theorem dL_act_208 : decode cL_act 208 = .ok (.iload 5, 2) := by decide +kernel
theorem dL_act_210 : decode cL_act 210 = .ok (.aaload, 1) := by decide +kernel
theorem dL_act_211 : decode cL_act 211 = .ok (.iconst 0, 1) := by decide +kernel
theorem dL_act_212 : decode cL_act 212 = .ok (.dup2, 1) := by decide +kernel
theorem dL_act_213 : decode cL_act 213 = .ok (.iaload, 1) := by decide +kernel
theorem dL_act_214 : decode cL_act 214 = .ok (.iload 7, 2) := by decide +kernel
theorem dL_act_216 : decode cL_act 216 = .ok (.iadd, 1) := by decide +kernel
theorem dL_act_217 : decode cL_act 217 = .ok (.iastore, 1) := by decide +kernel
theorem dL_act_218 : decode cL_act 218 = .ok (.aload_n 1, 1) := by decide +kernel
theorem dL_act_219 : decode cL_act 219 = .ok (.getfield 152, 3) := by decide +kernel
theorem dL_act_222 : decode cL_act 222 = .ok (.iload 5, 2) := by decide +kernel
theorem dL_act_224 : decode cL_act 224 = .ok (.aaload, 1) := by decide +kernel
theorem dL_act_225 : decode cL_act 225 = .ok (.iload 4, 2) := by decide +kernel
theorem dL_act_227 : decode cL_act 227 = .ok (.dup2, 1) := by decide +kernel
theorem dL_act_228 : decode cL_act 228 = .ok (.iaload, 1) := by decide +kernel
theorem dL_act_229 : decode cL_act 229 = .ok (.iload 7, 2) := by decide +kernel
theorem dL_act_231 : decode cL_act 231 = .ok (.iadd, 1) := by decide +kernel
theorem dL_act_232 : decode cL_act 232 = .ok (.iastore, 1) := by decide +kernel
theorem dL_act_233 : decode cL_act 233 = .ok (.aload_n 0, 1) := by decide +kernel
theorem dL_act_234 : decode cL_act 234 = .ok (.iload 4, 2) := by decide +kernel
theorem dL_act_236 : decode cL_act 236 = .ok (.iload 5, 2) := by decide +kernel
theorem dL_act_238 : decode cL_act 238 = .ok (.iload 7, 2) := by decide +kernel
theorem dL_act_240 : decode cL_act 240 = .ok (.invokevirtual 213, 3) := by decide +kernel
theorem dL_act_243 : decode cL_act 243 = .ok (.istore 6, 2) := by decide +kernel
theorem dL_act_245 : decode cL_act 245 = .ok (.goto 8, 3) := by decide +kernel
theorem dL_act_248 : decode cL_act 248 = .ok (.astore 9, 2) := by decide +kernel
theorem dL_act_250 : decode cL_act 250 = .ok (.iconst (-1), 1) := by decide +kernel
theorem dL_act_251 : decode cL_act 251 = .ok (.istore 6, 2) := by decide +kernel
theorem dL_act_253 : decode cL_act 253 = .ok (.iload 6, 2) := by decide +kernel
theorem dL_act_255 : decode cL_act 255 = .ok (.iload 8, 2) := by decide +kernel
theorem dL_act_257 : decode cL_act 257 = .ok (.ifCond .eq 16, 3) := by decide +kernel
theorem dL_act_260 : decode cL_act 260 = .ok (.aload_n 1, 1) := by decide +kernel
theorem dL_act_261 : decode cL_act 261 = .ok (.getfield 152, 3) := by decide +kernel
theorem dL_act_264 : decode cL_act 264 = .ok (.iload 5, 2) := by decide +kernel
theorem dL_act_266 : decode cL_act 266 = .ok (.aaload, 1) := by decide +kernel
theorem dL_act_267 : decode cL_act 267 = .ok (.iload 4, 2) := by decide +kernel
theorem dL_act_269 : decode cL_act 269 = .ok (.iaload, 1) := by decide +kernel
theorem dL_act_270 : decode cL_act 270 = .ok (.goto 4, 3) := by decide +kernel
theorem dL_act_273 : decode cL_act 273 = .ok (.iconst (-1), 1) := by decide +kernel
theorem dL_act_274 : decode cL_act 274 = .ok (.if_icmp .ne 7, 3) := by decide +kernel
theorem dL_act_277 : decode cL_act 277 = .ok (.iconst 1, 1) := by decide +kernel
theorem dL_act_278 : decode cL_act 278 = .ok (.goto 4, 3) := by decide +kernel
theorem dL_act_281 : decode cL_act 281 = .ok (.iconst 0, 1) := by decide +kernel
theorem dL_act_282 : decode cL_act 282 = .ok (.ireturn, 1) := by decide +kernel
theorem dL_act_283 : decode cL_act 283 = .ok (.iload 4, 2) := by decide +kernel
theorem dL_act_285 : decode cL_act 285 = .ok (.iload 5, 2) := by decide +kernel
theorem dL_act_287 : decode cL_act 287 = .ok (.if_icmp .ne 5, 3) := by decide +kernel
theorem dL_act_290 : decode cL_act 290 = .ok (.iconst 1, 1) := by decide +kernel
theorem dL_act_291 : decode cL_act 291 = .ok (.ireturn, 1) := by decide +kernel
theorem dL_act_292 : decode cL_act 292 = .ok (.aload_n 1, 1) := by decide +kernel
theorem dL_act_293 : decode cL_act 293 = .ok (.getfield 152, 3) := by decide +kernel
theorem dL_act_296 : decode cL_act 296 = .ok (.iload 4, 2) := by decide +kernel
theorem dL_act_298 : decode cL_act 298 = .ok (.aaload, 1) := by decide +kernel
theorem dL_act_299 : decode cL_act 299 = .ok (.iload 5, 2) := by decide +kernel
theorem dL_act_301 : decode cL_act 301 = .ok (.iaload, 1) := by decide +kernel
theorem dL_act_302 : decode cL_act 302 = .ok (.aload_n 1, 1) := by decide +kernel
theorem dL_act_303 : decode cL_act 303 = .ok (.getfield 152, 3) := by decide +kernel
theorem dL_act_306 : decode cL_act 306 = .ok (.iload 5, 2) := by decide +kernel
theorem dL_act_308 : decode cL_act 308 = .ok (.aaload, 1) := by decide +kernel
theorem dL_act_309 : decode cL_act 309 = .ok (.iload 4, 2) := by decide +kernel
theorem dL_act_311 : decode cL_act 311 = .ok (.iaload, 1) := by decide +kernel
theorem dL_act_312 : decode cL_act 312 = .ok (.invokestatic 219, 3) := by decide +kernel
theorem dL_act_315 : decode cL_act 315 = .ok (.istore 7, 2) := by decide +kernel
theorem dL_act_317 : decode cL_act 317 = .ok (.aload_n 1, 1) := by decide +kernel
theorem dL_act_318 : decode cL_act 318 = .ok (.getfield 152, 3) := by decide +kernel
theorem dL_act_321 : decode cL_act 321 = .ok (.iload 4, 2) := by decide +kernel
theorem dL_act_323 : decode cL_act 323 = .ok (.aaload, 1) := by decide +kernel
theorem dL_act_324 : decode cL_act 324 = .ok (.iload 5, 2) := by decide +kernel
theorem dL_act_326 : decode cL_act 326 = .ok (.dup2, 1) := by decide +kernel
theorem dL_act_327 : decode cL_act 327 = .ok (.iaload, 1) := by decide +kernel
theorem dL_act_328 : decode cL_act 328 = .ok (.iload 7, 2) := by decide +kernel
theorem dL_act_330 : decode cL_act 330 = .ok (.isub, 1) := by decide +kernel
theorem dL_act_331 : decode cL_act 331 = .ok (.iastore, 1) := by decide +kernel
theorem dL_act_332 : decode cL_act 332 = .ok (.aload_n 1, 1) := by decide +kernel
theorem dL_act_333 : decode cL_act 333 = .ok (.getfield 152, 3) := by decide +kernel
theorem dL_act_336 : decode cL_act 336 = .ok (.iload 5, 2) := by decide +kernel
theorem dL_act_338 : decode cL_act 338 = .ok (.aaload, 1) := by decide +kernel
theorem dL_act_339 : decode cL_act 339 = .ok (.iload 4, 2) := by decide +kernel
theorem dL_act_341 : decode cL_act 341 = .ok (.dup2, 1) := by decide +kernel
theorem dL_act_342 : decode cL_act 342 = .ok (.iaload, 1) := by decide +kernel
theorem dL_act_343 : decode cL_act 343 = .ok (.iload 7, 2) := by decide +kernel
theorem dL_act_345 : decode cL_act 345 = .ok (.isub, 1) := by decide +kernel
theorem dL_act_346 : decode cL_act 346 = .ok (.iastore, 1) := by decide +kernel
theorem dL_act_347 : decode cL_act 347 = .ok (.aload_n 0, 1) := by decide +kernel
theorem dL_act_348 : decode cL_act 348 = .ok (.iload 4, 2) := by decide +kernel
theorem dL_act_350 : decode cL_act 350 = .ok (.iload 5, 2) := by decide +kernel
theorem dL_act_352 : decode cL_act 352 = .ok (.invokevirtual 222, 3) := by decide +kernel
theorem dL_act_355 : decode cL_act 355 = .ok (.iload 7, 2) := by decide +kernel
theorem dL_act_357 : decode cL_act 357 = .ok (.if_icmp .ne 7, 3) := by decide +kernel
theorem dL_act_360 : decode cL_act 360 = .ok (.iconst 1, 1) := by decide +kernel
theorem dL_act_361 : decode cL_act 361 = .ok (.goto 4, 3) := by decide +kernel
theorem dL_act_364 : decode cL_act 364 = .ok (.iconst 0, 1) := by decide +kernel
theorem dL_act_365 : decode cL_act 365 = .ok (.ireturn, 1) := by decide +kernel
theorem dL_act_366 : decode cL_act 366 = .ok (.iload_n 2, 1) := by decide +kernel
theorem dL_act_367 : decode cL_act 367 = .ok (.iconst 4, 1) := by decide +kernel
theorem dL_act_368 : decode cL_act 368 = .ok (.ishr, 1) := by decide +kernel
theorem dL_act_369 : decode cL_act 369 = .ok (.aload_n 1, 1) := by decide +kernel
theorem dL_act_370 : decode cL_act 370 = .ok (.getfield 163, 3) := by decide +kernel
theorem dL_act_373 : decode cL_act 373 = .ok (.arraylength, 1) := by decide +kernel
theorem dL_act_374 : decode cL_act 374 = .ok (.invokestatic 123, 3) := by decide +kernel
theorem dL_act_377 : decode cL_act 377 = .ok (.istore 7, 2) := by decide +kernel
theorem dL_act_379 : decode cL_act 379 = .ok (.aload_n 1, 1) := by decide +kernel
theorem dL_act_380 : decode cL_act 380 = .ok (.getfield 163, 3) := by decide +kernel
theorem dL_act_383 : decode cL_act 383 = .ok (.iload 7, 2) := by decide +kernel
theorem dL_act_385 : decode cL_act 385 = .ok (.aaload, 1) := by decide +kernel
theorem dL_act_386 : decode cL_act 386 = .ok (.iconst 1, 1) := by decide +kernel
theorem dL_act_387 : decode cL_act 387 = .ok (.dup2, 1) := by decide +kernel
theorem dL_act_388 : decode cL_act 388 = .ok (.iaload, 1) := by decide +kernel
theorem dL_act_389 : decode cL_act 389 = .ok (.aload_n 1, 1) := by decide +kernel
theorem dL_act_390 : decode cL_act 390 = .ok (.getfield 163, 3) := by decide +kernel
theorem dL_act_393 : decode cL_act 393 = .ok (.iload 7, 2) := by decide +kernel
theorem dL_act_395 : decode cL_act 395 = .ok (.aaload, 1) := by decide +kernel
theorem dL_act_396 : decode cL_act 396 = .ok (.iconst 1, 1) := by decide +kernel
theorem dL_act_397 : decode cL_act 397 = .ok (.iaload, 1) := by decide +kernel
theorem dL_act_398 : decode cL_act 398 = .ok (.bipush 10, 2) := by decide +kernel
theorem dL_act_400 : decode cL_act 400 = .ok (.idiv, 1) := by decide +kernel
theorem dL_act_401 : decode cL_act 401 = .ok (.isub, 1) := by decide +kernel
theorem dL_act_402 : decode cL_act 402 = .ok (.iastore, 1) := by decide +kernel
theorem dL_act_403 : decode cL_act 403 = .ok (.aload_n 1, 1) := by decide +kernel
theorem dL_act_404 : decode cL_act 404 = .ok (.getfield 163, 3) := by decide +kernel
theorem dL_act_407 : decode cL_act 407 = .ok (.iload 7, 2) := by decide +kernel
theorem dL_act_409 : decode cL_act 409 = .ok (.aaload, 1) := by decide +kernel
theorem dL_act_410 : decode cL_act 410 = .ok (.iconst 3, 1) := by decide +kernel
theorem dL_act_411 : decode cL_act 411 = .ok (.iconst (-1), 1) := by decide +kernel
theorem dL_act_412 : decode cL_act 412 = .ok (.iastore, 1) := by decide +kernel
theorem dL_act_413 : decode cL_act 413 = .ok (.aload_n 0, 1) := by decide +kernel
theorem dL_act_414 : decode cL_act 414 = .ok (.iload 7, 2) := by decide +kernel
theorem dL_act_416 : decode cL_act 416 = .ok (.invokevirtual 225, 3) := by decide +kernel
theorem dL_act_419 : decode cL_act 419 = .ok (.aload_n 1, 1) := by decide +kernel
theorem dL_act_420 : decode cL_act 420 = .ok (.getfield 163, 3) := by decide +kernel
theorem dL_act_423 : decode cL_act 423 = .ok (.iload 7, 2) := by decide +kernel
theorem dL_act_425 : decode cL_act 425 = .ok (.aaload, 1) := by decide +kernel
theorem dL_act_426 : decode cL_act 426 = .ok (.iconst 1, 1) := by decide +kernel
theorem dL_act_427 : decode cL_act 427 = .ok (.iaload, 1) := by decide +kernel
theorem dL_act_428 : decode cL_act 428 = .ok (.if_icmp .ne 7, 3) := by decide +kernel
theorem dL_act_431 : decode cL_act 431 = .ok (.iconst 1, 1) := by decide +kernel
theorem dL_act_432 : decode cL_act 432 = .ok (.goto 4, 3) := by decide +kernel
theorem dL_act_435 : decode cL_act 435 = .ok (.iconst 0, 1) := by decide +kernel
theorem dL_act_436 : decode cL_act 436 = .ok (.ireturn, 1) := by decide +kernel
theorem dL_act_437 : decode cL_act 437 = .ok (.aload_n 0, 1) := by decide +kernel
theorem dL_act_438 : decode cL_act 438 = .ok (.aload_n 1, 1) := by decide +kernel
theorem dL_act_439 : decode cL_act 439 = .ok (.iconst 1, 1) := by decide +kernel
theorem dL_act_440 : decode cL_act 440 = .ok (.iload_n 2, 1) := by decide +kernel
theorem dL_act_441 : decode cL_act 441 = .ok (.iconst 4, 1) := by decide +kernel
theorem dL_act_442 : decode cL_act 442 = .ok (.ishr, 1) := by decide +kernel
theorem dL_act_443 : decode cL_act 443 = .ok (.iload_n 2, 1) := by decide +kernel
theorem dL_act_444 : decode cL_act 444 = .ok (.bipush 8, 2) := by decide +kernel
theorem dL_act_446 : decode cL_act 446 = .ok (.ishr, 1) := by decide +kernel
theorem dL_act_447 : decode cL_act 447 = .ok (.iconst 4, 1) := by decide +kernel
theorem dL_act_448 : decode cL_act 448 = .ok (.invokestatic 123, 3) := by decide +kernel
theorem dL_act_451 : decode cL_act 451 = .ok (.ifCond .ne 8, 3) := by decide +kernel
theorem dL_act_454 : decode cL_act 454 = .ok (.bipush 20, 2) := by decide +kernel
theorem dL_act_456 : decode cL_act 456 = .ok (.goto 4, 3) := by decide +kernel
theorem dL_act_459 : decode cL_act 459 = .ok (.iconst 3, 1) := by decide +kernel
theorem dL_act_460 : decode cL_act 460 = .ok (.invokestatic 123, 3) := by decide +kernel
theorem dL_act_463 : decode cL_act 463 = .ok (.iadd, 1) := by decide +kernel
theorem dL_act_464 : decode cL_act 464 = .ok (.invokestatic 228, 3) := by decide +kernel
theorem dL_act_467 : decode cL_act 467 = .ok (.ireturn, 1) := by decide +kernel
theorem dL_passed_0 : decode cL_passed 0 = .ok (.iconst 0, 1) := by decide +kernel
theorem dL_passed_1 : decode cL_passed 1 = .ok (.istore_n 3, 1) := by decide +kernel
theorem dL_passed_2 : decode cL_passed 2 = .ok (.iconst 0, 1) := by decide +kernel
theorem dL_passed_3 : decode cL_passed 3 = .ok (.istore 4, 2) := by decide +kernel
theorem dL_passed_5 : decode cL_passed 5 = .ok (.iload 4, 2) := by decide +kernel
theorem dL_passed_7 : decode cL_passed 7 = .ok (.iload_n 2, 1) := by decide +kernel
theorem dL_passed_8 : decode cL_passed 8 = .ok (.if_icmp .ge 16, 3) := by decide +kernel
theorem dL_passed_11 : decode cL_passed 11 = .ok (.iload_n 3, 1) := by decide +kernel
theorem dL_passed_12 : decode cL_passed 12 = .ok (.aload_n 1, 1) := by decide +kernel
theorem dL_passed_13 : decode cL_passed 13 = .ok (.invokevirtual 232, 3) := by decide +kernel
theorem dL_passed_16 : decode cL_passed 16 = .ok (.iadd, 1) := by decide +kernel
theorem dL_passed_17 : decode cL_passed 17 = .ok (.istore_n 3, 1) := by decide +kernel
theorem dL_passed_18 : decode cL_passed 18 = .ok (.iinc 4 1, 3) := by decide +kernel
theorem dL_passed_21 : decode cL_passed 21 = .ok (.goto (-16), 3) := by decide +kernel
theorem dL_passed_24 : decode cL_passed 24 = .ok (.aload_n 0, 1) := by decide +kernel
theorem dL_passed_25 : decode cL_passed 25 = .ok (.iload_n 2, 1) := by decide +kernel
theorem dL_passed_26 : decode cL_passed 26 = .ok (.invokevirtual 235, 3) := by decide +kernel
theorem dL_passed_29 : decode cL_passed 29 = .ok (.iload_n 3, 1) := by decide +kernel
theorem dL_passed_30 : decode cL_passed 30 = .ok (.if_icmp .ne 7, 3) := by decide +kernel
theorem dL_passed_33 : decode cL_passed 33 = .ok (.iconst 1, 1) := by decide +kernel
theorem dL_passed_34 : decode cL_passed 34 = .ok (.goto 4, 3) := by decide +kernel
theorem dL_passed_37 : decode cL_passed 37 = .ok (.iconst 0, 1) := by decide +kernel
theorem dL_passed_38 : decode cL_passed 38 = .ok (.ireturn, 1) := by decide +kernel
theorem dL_law_0 : decode cL_law 0 = .ok (.new 32, 3) := by decide +kernel
theorem dL_law_3 : decode cL_law 3 = .ok (.dup, 1) := by decide +kernel
theorem dL_law_4 : decode cL_law 4 = .ok (.invokespecial 34, 3) := by decide +kernel
theorem dL_law_7 : decode cL_law 7 = .ok (.astore_n 1, 1) := by decide +kernel
theorem dL_law_8 : decode cL_law 8 = .ok (.aload_n 0, 1) := by decide +kernel
theorem dL_law_9 : decode cL_law 9 = .ok (.aload_n 1, 1) := by decide +kernel
theorem dL_law_10 : decode cL_law 10 = .ok (.invokestatic 237, 3) := by decide +kernel
theorem dL_law_13 : decode cL_law 13 = .ok (.astore_n 2, 1) := by decide +kernel
theorem dL_law_14 : decode cL_law 14 = .ok (.new 10, 3) := by decide +kernel
theorem dL_law_17 : decode cL_law 17 = .ok (.dup, 1) := by decide +kernel
theorem dL_law_18 : decode cL_law 18 = .ok (.invokespecial 241, 3) := by decide +kernel
theorem dL_law_21 : decode cL_law 21 = .ok (.astore_n 3, 1) := by decide +kernel
theorem dL_law_22 : decode cL_law 22 = .ok (.aload_n 3, 1) := by decide +kernel
theorem dL_law_23 : decode cL_law 23 = .ok (.aload_n 1, 1) := by decide +kernel
theorem dL_law_24 : decode cL_law 24 = .ok (.invokevirtual 44, 3) := by decide +kernel
theorem dL_law_27 : decode cL_law 27 = .ok (.invokestatic 242, 3) := by decide +kernel
theorem dL_law_30 : decode cL_law 30 = .ok (.ifCond .eq 5, 3) := by decide +kernel
theorem dL_law_33 : decode cL_law 33 = .ok (.iconst 0, 1) := by decide +kernel
theorem dL_law_34 : decode cL_law 34 = .ok (.ireturn, 1) := by decide +kernel
theorem dL_law_35 : decode cL_law 35 = .ok (.aload_n 3, 1) := by decide +kernel
theorem dL_law_36 : decode cL_law 36 = .ok (.iconst 4, 1) := by decide +kernel
theorem dL_law_37 : decode cL_law 37 = .ok (.invokevirtual 246, 3) := by decide +kernel
theorem dL_law_40 : decode cL_law 40 = .ok (.istore 4, 2) := by decide +kernel
theorem dL_law_42 : decode cL_law 42 = .ok (.aload_n 3, 1) := by decide +kernel
theorem dL_law_43 : decode cL_law 43 = .ok (.iconst 5, 1) := by decide +kernel
theorem dL_law_44 : decode cL_law 44 = .ok (.invokevirtual 246, 3) := by decide +kernel
theorem dL_law_47 : decode cL_law 47 = .ok (.istore 5, 2) := by decide +kernel
theorem dL_law_49 : decode cL_law 49 = .ok (.aload_n 3, 1) := by decide +kernel
theorem dL_law_50 : decode cL_law 50 = .ok (.iconst 3, 1) := by decide +kernel
theorem dL_law_51 : decode cL_law 51 = .ok (.invokevirtual 246, 3) := by decide +kernel
theorem dL_law_54 : decode cL_law 54 = .ok (.istore 6, 2) := by decide +kernel
theorem dL_law_56 : decode cL_law 56 = .ok (.aload_n 3, 1) := by decide +kernel
theorem dL_law_57 : decode cL_law 57 = .ok (.bipush 6, 2) := by decide +kernel
theorem dL_law_59 : decode cL_law 59 = .ok (.invokevirtual 246, 3) := by decide +kernel
theorem dL_law_62 : decode cL_law 62 = .ok (.istore 7, 2) := by decide +kernel
theorem dL_law_64 : decode cL_law 64 = .ok (.aload_n 3, 1) := by decide +kernel
theorem dL_law_65 : decode cL_law 65 = .ok (.bipush 9, 2) := by decide +kernel
theorem dL_law_67 : decode cL_law 67 = .ok (.invokevirtual 246, 3) := by decide +kernel
theorem dL_law_70 : decode cL_law 70 = .ok (.istore 8, 2) := by decide +kernel
theorem dL_law_72 : decode cL_law 72 = .ok (.iload 5, 2) := by decide +kernel
theorem dL_law_74 : decode cL_law 74 = .ok (.newarray .int, 2) := by decide +kernel
theorem dL_law_76 : decode cL_law 76 = .ok (.astore 9, 2) := by decide +kernel
theorem dL_law_78 : decode cL_law 78 = .ok (.iconst 0, 1) := by decide +kernel
theorem dL_law_79 : decode cL_law 79 = .ok (.istore 10, 2) := by decide +kernel
theorem dL_law_81 : decode cL_law 81 = .ok (.iload 10, 2) := by decide +kernel
theorem dL_law_83 : decode cL_law 83 = .ok (.iload 5, 2) := by decide +kernel
theorem dL_law_85 : decode cL_law 85 = .ok (.if_icmp .ge 21, 3) := by decide +kernel
theorem dL_law_88 : decode cL_law 88 = .ok (.aload 9, 2) := by decide +kernel
theorem dL_law_90 : decode cL_law 90 = .ok (.iload 10, 2) := by decide +kernel
theorem dL_law_92 : decode cL_law 92 = .ok (.aload_n 3, 1) := by decide +kernel
theorem dL_law_93 : decode cL_law 93 = .ok (.iload 10, 2) := by decide +kernel
theorem dL_law_95 : decode cL_law 95 = .ok (.iconst 1, 1) := by decide +kernel
theorem dL_law_96 : decode cL_law 96 = .ok (.invokevirtual 249, 3) := by decide +kernel
theorem dL_law_99 : decode cL_law 99 = .ok (.iastore, 1) := by decide +kernel
theorem dL_law_100 : decode cL_law 100 = .ok (.iinc 10 1, 3) := by decide +kernel
theorem dL_law_103 : decode cL_law 103 = .ok (.goto (-22), 3) := by decide +kernel
theorem dL_law_106 : decode cL_law 106 = .ok (.iconst 0, 1) := by decide +kernel
theorem dL_law_107 : decode cL_law 107 = .ok (.istore 10, 2) := by decide +kernel
theorem dL_law_109 : decode cL_law 109 = .ok (.iload 10, 2) := by decide +kernel
theorem dL_law_111 : decode cL_law 111 = .ok (.bipush 40, 2) := by decide +kernel
theorem dL_law_113 : decode cL_law 113 = .ok (.if_icmp .ge 1088, 3) := by decide +kernel
theorem dL_law_116 : decode cL_law 116 = .ok (.aload_n 0, 1) := by decide +kernel
theorem dL_law_117 : decode cL_law 117 = .ok (.iload 10, 2) := by decide +kernel
theorem dL_law_119 : decode cL_law 119 = .ok (.bipush 16, 2) := by decide +kernel
theorem dL_law_121 : decode cL_law 121 = .ok (.irem, 1) := by decide +kernel
theorem dL_law_122 : decode cL_law 122 = .ok (.invokestatic 117, 3) := by decide +kernel
theorem dL_law_125 : decode cL_law 125 = .ok (.iload 10, 2) := by decide +kernel
theorem dL_law_127 : decode cL_law 127 = .ok (.bipush 16, 2) := by decide +kernel
theorem dL_law_129 : decode cL_law 129 = .ok (.idiv, 1) := by decide +kernel
theorem dL_law_130 : decode cL_law 130 = .ok (.bipush 6, 2) := by decide +kernel
theorem dL_law_132 : decode cL_law 132 = .ok (.imul, 1) := by decide +kernel
theorem dL_law_133 : decode cL_law 133 = .ok (.ishr, 1) := by decide +kernel
theorem dL_law_134 : decode cL_law 134 = .ok (.bipush 47, 2) := by decide +kernel
theorem dL_law_136 : decode cL_law 136 = .ok (.iload 10, 2) := by decide +kernel
theorem dL_law_138 : decode cL_law 138 = .ok (.imul, 1) := by decide +kernel
theorem dL_law_139 : decode cL_law 139 = .ok (.iadd, 1) := by decide +kernel
theorem dL_law_140 : decode cL_law 140 = .ok (.istore 11, 2) := by decide +kernel
theorem dL_law_142 : decode cL_law 142 = .ok (.aload_n 3, 1) := by decide +kernel
theorem dL_law_143 : decode cL_law 143 = .ok (.aload_n 2, 1) := by decide +kernel
theorem dL_law_144 : decode cL_law 144 = .ok (.iload 11, 2) := by decide +kernel
theorem dL_law_146 : decode cL_law 146 = .ok (.invokestatic 252, 3) := by decide +kernel
theorem dL_law_149 : decode cL_law 149 = .ok (.ifCond .ne 5, 3) := by decide +kernel
theorem dL_law_152 : decode cL_law 152 = .ok (.iconst 0, 1) := by decide +kernel
theorem dL_law_153 : decode cL_law 153 = .ok (.ireturn, 1) := by decide +kernel
theorem dL_law_154 : decode cL_law 154 = .ok (.iconst 0, 1) := by decide +kernel
theorem dL_law_155 : decode cL_law 155 = .ok (.istore 12, 2) := by decide +kernel
theorem dL_law_157 : decode cL_law 157 = .ok (.iconst 0, 1) := by decide +kernel
theorem dL_law_158 : decode cL_law 158 = .ok (.istore 13, 2) := by decide +kernel
theorem dL_law_160 : decode cL_law 160 = .ok (.iconst 0, 1) := by decide +kernel
theorem dL_law_161 : decode cL_law 161 = .ok (.istore 14, 2) := by decide +kernel
theorem dL_law_163 : decode cL_law 163 = .ok (.iload 14, 2) := by decide +kernel
theorem dL_law_165 : decode cL_law 165 = .ok (.iload 6, 2) := by decide +kernel
theorem dL_law_167 : decode cL_law 167 = .ok (.if_icmp .ge 33, 3) := by decide +kernel
theorem dL_law_170 : decode cL_law 170 = .ok (.iload 12, 2) := by decide +kernel
theorem dL_law_172 : decode cL_law 172 = .ok (.aload_n 3, 1) := by decide +kernel
theorem dL_law_173 : decode cL_law 173 = .ok (.iload 14, 2) := by decide +kernel
theorem dL_law_175 : decode cL_law 175 = .ok (.iconst 2, 1) := by decide +kernel
theorem dL_law_176 : decode cL_law 176 = .ok (.invokevirtual 255, 3) := by decide +kernel
theorem dL_law_179 : decode cL_law 179 = .ok (.iadd, 1) := by decide +kernel
theorem dL_law_180 : decode cL_law 180 = .ok (.istore 12, 2) := by decide +kernel
theorem dL_law_182 : decode cL_law 182 = .ok (.iload 13, 2) := by decide +kernel
theorem dL_law_184 : decode cL_law 184 = .ok (.aload_n 3, 1) := by decide +kernel
theorem dL_law_185 : decode cL_law 185 = .ok (.iload 14, 2) := by decide +kernel
theorem dL_law_187 : decode cL_law 187 = .ok (.iconst 3, 1) := by decide +kernel
theorem dL_law_188 : decode cL_law 188 = .ok (.invokevirtual 255, 3) := by decide +kernel
theorem dL_law_191 : decode cL_law 191 = .ok (.iadd, 1) := by decide +kernel
theorem dL_law_192 : decode cL_law 192 = .ok (.istore 13, 2) := by decide +kernel
theorem dL_law_194 : decode cL_law 194 = .ok (.iinc 14 1, 3) := by decide +kernel
theorem dL_law_197 : decode cL_law 197 = .ok (.goto (-34), 3) := by decide +kernel
theorem dL_law_200 : decode cL_law 200 = .ok (.iconst 0, 1) := by decide +kernel
theorem dL_law_201 : decode cL_law 201 = .ok (.istore 14, 2) := by decide +kernel
theorem dL_law_203 : decode cL_law 203 = .ok (.iconst 0, 1) := by decide +kernel
theorem dL_law_204 : decode cL_law 204 = .ok (.istore 15, 2) := by decide +kernel
theorem dL_law_206 : decode cL_law 206 = .ok (.iload 15, 2) := by decide +kernel
theorem dL_law_208 : decode cL_law 208 = .ok (.iload 5, 2) := by decide +kernel
theorem dL_law_210 : decode cL_law 210 = .ok (.if_icmp .ge 174, 3) := by decide +kernel
theorem dL_law_213 : decode cL_law 213 = .ok (.aload_n 3, 1) := by decide +kernel
theorem dL_law_214 : decode cL_law 214 = .ok (.iload 15, 2) := by decide +kernel
theorem dL_law_216 : decode cL_law 216 = .ok (.iconst 1, 1) := by decide +kernel
theorem dL_law_217 : decode cL_law 217 = .ok (.invokevirtual 249, 3) := by decide +kernel
theorem dL_law_220 : decode cL_law 220 = .ok (.istore 16, 2) := by decide +kernel
theorem dL_law_222 : decode cL_law 222 = .ok (.aload_n 3, 1) := by decide +kernel
theorem dL_law_223 : decode cL_law 223 = .ok (.iload 15, 2) := by decide +kernel
theorem dL_law_225 : decode cL_law 225 = .ok (.iconst 3, 1) := by decide +kernel
theorem dL_law_226 : decode cL_law 226 = .ok (.invokevirtual 249, 3) := by decide +kernel
theorem dL_law_229 : decode cL_law 229 = .ok (.istore 17, 2) := by decide +kernel
theorem dL_law_231 : decode cL_law 231 = .ok (.iload 16, 2) := by decide +kernel
theorem dL_law_233 : decode cL_law 233 = .ok (.aload 9, 2) := by decide +kernel
theorem dL_law_235 : decode cL_law 235 = .ok (.iload 15, 2) := by decide +kernel
theorem dL_law_237 : decode cL_law 237 = .ok (.iaload, 1) := by decide +kernel
theorem dL_law_238 : decode cL_law 238 = .ok (.if_icmp .gt 116, 3) := by decide +kernel
theorem dL_law_241 : decode cL_law 241 = .ok (.iload 16, 2) := by decide +kernel
theorem dL_law_243 : decode cL_law 243 = .ok (.ifCond .lt 111, 3) := by decide +kernel
theorem dL_law_246 : decode cL_law 246 = .ok (.aload_n 3, 1) := by decide +kernel
theorem dL_law_247 : decode cL_law 247 = .ok (.iload 15, 2) := by decide +kernel
theorem dL_law_249 : decode cL_law 249 = .ok (.iconst 2, 1) := by decide +kernel
theorem dL_law_250 : decode cL_law 250 = .ok (.invokevirtual 249, 3) := by decide +kernel
theorem dL_law_253 : decode cL_law 253 = .ok (.ifCond .lt 101, 3) := by decide +kernel
theorem dL_law_256 : decode cL_law 256 = .ok (.aload_n 3, 1) := by decide +kernel
theorem dL_law_257 : decode cL_law 257 = .ok (.iload 15, 2) := by decide +kernel
theorem dL_law_259 : decode cL_law 259 = .ok (.iconst 2, 1) := by decide +kernel
theorem dL_law_260 : decode cL_law 260 = .ok (.invokevirtual 249, 3) := by decide +kernel
theorem dL_law_263 : decode cL_law 263 = .ok (.iload 4, 2) := by decide +kernel
theorem dL_law_265 : decode cL_law 265 = .ok (.if_icmp .ge 89, 3) := by decide +kernel
theorem dL_law_268 : decode cL_law 268 = .ok (.iload 17, 2) := by decide +kernel
theorem dL_law_270 : decode cL_law 270 = .ok (.iconst (-1), 1) := by decide +kernel
theorem dL_law_271 : decode cL_law 271 = .ok (.if_icmp .lt 83, 3) := by decide +kernel
theorem dL_law_274 : decode cL_law 274 = .ok (.iload 17, 2) := by decide +kernel
theorem dL_law_276 : decode cL_law 276 = .ok (.iload 6, 2) := by decide +kernel
theorem dL_law_278 : decode cL_law 278 = .ok (.if_icmp .ge 76, 3) := by decide +kernel
theorem dL_law_281 : decode cL_law 281 = .ok (.iload 17, 2) := by decide +kernel
theorem dL_law_283 : decode cL_law 283 = .ok (.ifCond .ge 30, 3) := by decide +kernel
theorem dL_law_286 : decode cL_law 286 = .ok (.aload_n 3, 1) := by decide +kernel
theorem dL_law_287 : decode cL_law 287 = .ok (.iload 15, 2) := by decide +kernel
theorem dL_law_289 : decode cL_law 289 = .ok (.iconst 4, 1) := by decide +kernel
theorem dL_law_290 : decode cL_law 290 = .ok (.invokevirtual 249, 3) := by decide +kernel
theorem dL_law_293 : decode cL_law 293 = .ok (.aload_n 3, 1) := by decide +kernel
theorem dL_law_294 : decode cL_law 294 = .ok (.iload 15, 2) := by decide +kernel
theorem dL_law_296 : decode cL_law 296 = .ok (.iconst 5, 1) := by decide +kernel
theorem dL_law_297 : decode cL_law 297 = .ok (.invokevirtual 249, 3) := by decide +kernel
theorem dL_law_300 : decode cL_law 300 = .ok (.iadd, 1) := by decide +kernel
theorem dL_law_301 : decode cL_law 301 = .ok (.aload_n 3, 1) := by decide +kernel
theorem dL_law_302 : decode cL_law 302 = .ok (.iload 15, 2) := by decide +kernel
theorem dL_law_304 : decode cL_law 304 = .ok (.bipush 6, 2) := by decide +kernel
theorem dL_law_306 : decode cL_law 306 = .ok (.invokevirtual 249, 3) := by decide +kernel
theorem dL_law_309 : decode cL_law 309 = .ok (.iadd, 1) := by decide +kernel
theorem dL_law_310 : decode cL_law 310 = .ok (.ifCond .ne 44, 3) := by decide +kernel
theorem dL_law_313 : decode cL_law 313 = .ok (.iload 17, 2) := by decide +kernel
theorem dL_law_315 : decode cL_law 315 = .ok (.ifCond .lt 41, 3) := by decide +kernel
theorem dL_law_318 : decode cL_law 318 = .ok (.aload_n 3, 1) := by decide +kernel
theorem dL_law_319 : decode cL_law 319 = .ok (.iload 15, 2) := by decide +kernel
theorem dL_law_321 : decode cL_law 321 = .ok (.bipush 6, 2) := by decide +kernel
theorem dL_law_323 : decode cL_law 323 = .ok (.invokevirtual 249, 3) := by decide +kernel
theorem dL_law_326 : decode cL_law 326 = .ok (.iconst 1, 1) := by decide +kernel
theorem dL_law_327 : decode cL_law 327 = .ok (.if_icmp .ne 7, 3) := by decide +kernel
theorem dL_law_330 : decode cL_law 330 = .ok (.iconst 1, 1) := by decide +kernel
theorem dL_law_331 : decode cL_law 331 = .ok (.goto 4, 3) := by decide +kernel
theorem dL_law_334 : decode cL_law 334 = .ok (.iconst 0, 1) := by decide +kernel
theorem dL_law_335 : decode cL_law 335 = .ok (.aload_n 3, 1) := by decide +kernel
theorem dL_law_336 : decode cL_law 336 = .ok (.iload 15, 2) := by decide +kernel
theorem dL_law_338 : decode cL_law 338 = .ok (.iconst 5, 1) := by decide +kernel
theorem dL_law_339 : decode cL_law 339 = .ok (.invokevirtual 249, 3) := by decide +kernel
theorem dL_law_342 : decode cL_law 342 = .ok (.iconst 5, 1) := by decide +kernel
theorem dL_law_343 : decode cL_law 343 = .ok (.if_icmp .gt 7, 3) := by decide +kernel
theorem dL_law_346 : decode cL_law 346 = .ok (.iconst 1, 1) := by decide +kernel
theorem dL_law_347 : decode cL_law 347 = .ok (.goto 4, 3) := by decide +kernel
theorem dL_law_350 : decode cL_law 350 = .ok (.iconst 0, 1) := by decide +kernel
theorem dL_law_351 : decode cL_law 351 = .ok (.if_icmp .eq 5, 3) := by decide +kernel
theorem dL_law_354 : decode cL_law 354 = .ok (.iconst 0, 1) := by decide +kernel
theorem dL_law_355 : decode cL_law 355 = .ok (.ireturn, 1) := by decide +kernel
theorem dL_law_356 : decode cL_law 356 = .ok (.aload 9, 2) := by decide +kernel
theorem dL_law_358 : decode cL_law 358 = .ok (.iload 15, 2) := by decide +kernel
theorem dL_law_360 : decode cL_law 360 = .ok (.iload 16, 2) := by decide +kernel
theorem dL_law_362 : decode cL_law 362 = .ok (.iastore, 1) := by decide +kernel
theorem dL_law_363 : decode cL_law 363 = .ok (.iload 14, 2) := by decide +kernel
theorem dL_law_365 : decode cL_law 365 = .ok (.iload 17, 2) := by decide +kernel
theorem dL_law_367 : decode cL_law 367 = .ok (.ifCond .lt 7, 3) := by decide +kernel
theorem dL_law_370 : decode cL_law 370 = .ok (.iconst 1, 1) := by decide +kernel
theorem dL_law_371 : decode cL_law 371 = .ok (.goto 4, 3) := by decide +kernel
theorem dL_law_374 : decode cL_law 374 = .ok (.iconst 0, 1) := by decide +kernel
theorem dL_law_375 : decode cL_law 375 = .ok (.iadd, 1) := by decide +kernel
theorem dL_law_376 : decode cL_law 376 = .ok (.istore 14, 2) := by decide +kernel
theorem dL_law_378 : decode cL_law 378 = .ok (.iinc 15 1, 3) := by decide +kernel
theorem dL_law_381 : decode cL_law 381 = .ok (.goto (-175), 3) := by decide +kernel
theorem dL_law_384 : decode cL_law 384 = .ok (.iconst 0, 1) := by decide +kernel
theorem dL_law_385 : decode cL_law 385 = .ok (.istore 15, 2) := by decide +kernel
theorem dL_law_387 : decode cL_law 387 = .ok (.iconst 0, 1) := by decide +kernel
theorem dL_law_388 : decode cL_law 388 = .ok (.istore 16, 2) := by decide +kernel
theorem dL_law_390 : decode cL_law 390 = .ok (.iconst 0, 1) := by decide +kernel
theorem dL_law_391 : decode cL_law 391 = .ok (.istore 17, 2) := by decide +kernel
theorem dL_law_393 : decode cL_law 393 = .ok (.iconst 0, 1) := by decide +kernel
theorem dL_law_394 : decode cL_law 394 = .ok (.istore 18, 2) := by decide +kernel
theorem dL_law_396 : decode cL_law 396 = .ok (.iconst 0, 1) := by decide +kernel
theorem dL_law_397 : decode cL_law 397 = .ok (.istore 19, 2) := by decide +kernel
theorem dL_law_399 : decode cL_law 399 = .ok (.iload 19, 2) := by decide +kernel
theorem dL_law_401 : decode cL_law 401 = .ok (.iload 4, 2) := by decide +kernel
theorem dL_law_403 : decode cL_law 403 = .ok (.if_icmp .ge 251, 3) := by decide +kernel
theorem dL_law_406 : decode cL_law 406 = .ok (.iconst 0, 1) := by decide +kernel
theorem dL_law_407 : decode cL_law 407 = .ok (.istore 20, 2) := by decide +kernel
theorem dL_law_409 : decode cL_law 409 = .ok (.iconst 0, 1) := by decide +kernel
theorem dL_law_410 : decode cL_law 410 = .ok (.istore 21, 2) := by decide +kernel
theorem dL_law_412 : decode cL_law 412 = .ok (.iconst 0, 1) := by decide +kernel
theorem dL_law_413 : decode cL_law 413 = .ok (.istore 22, 2) := by decide +kernel
theorem dL_law_415 : decode cL_law 415 = .ok (.iload 22, 2) := by decide +kernel
theorem dL_law_417 : decode cL_law 417 = .ok (.iload 4, 2) := by decide +kernel
theorem dL_law_419 : decode cL_law 419 = .ok (.if_icmp .ge 125, 3) := by decide +kernel
theorem dL_law_422 : decode cL_law 422 = .ok (.aload_n 3, 1) := by decide +kernel
theorem dL_law_423 : decode cL_law 423 = .ok (.iload 19, 2) := by decide +kernel
theorem dL_law_425 : decode cL_law 425 = .ok (.iload 22, 2) := by decide +kernel
theorem dL_law_427 : decode cL_law 427 = .ok (.invokevirtual 258, 3) := by decide +kernel
theorem dL_law_430 : decode cL_law 430 = .ok (.istore 23, 2) := by decide +kernel
theorem dL_law_432 : decode cL_law 432 = .ok (.aload_n 3, 1) := by decide +kernel
theorem dL_law_433 : decode cL_law 433 = .ok (.iload 19, 2) := by decide +kernel
theorem dL_law_435 : decode cL_law 435 = .ok (.iload 22, 2) := by decide +kernel
theorem dL_law_437 : decode cL_law 437 = .ok (.invokevirtual 260, 3) := by decide +kernel
theorem dL_law_440 : decode cL_law 440 = .ok (.istore 24, 2) := by decide +kernel
theorem dL_law_442 : decode cL_law 442 = .ok (.iload 23, 2) := by decide +kernel
theorem dL_law_444 : decode cL_law 444 = .ok (.ifCond .lt 72, 3) := by decide +kernel
theorem dL_law_447 : decode cL_law 447 = .ok (.iload 23, 2) := by decide +kernel
theorem dL_law_449 : decode cL_law 449 = .ok (.ldc_w 263, 3) := by decide +kernel
theorem dL_law_452 : decode cL_law 452 = .ok (.if_icmp .gt 64, 3) := by decide +kernel
theorem dL_law_455 : decode cL_law 455 = .ok (.iload 19, 2) := by decide +kernel
theorem dL_law_457 : decode cL_law 457 = .ok (.iload 22, 2) := by decide +kernel
theorem dL_law_459 : decode cL_law 459 = .ok (.if_icmp .ne 13, 3) := by decide +kernel
theorem dL_law_462 : decode cL_law 462 = .ok (.iload 23, 2) := by decide +kernel
theorem dL_law_464 : decode cL_law 464 = .ok (.ifCond .ne 52, 3) := by decide +kernel
theorem dL_law_467 : decode cL_law 467 = .ok (.iload 24, 2) := by decide +kernel
theorem dL_law_469 : decode cL_law 469 = .ok (.ifCond .ne 47, 3) := by decide +kernel
theorem dL_law_472 : decode cL_law 472 = .ok (.iload 19, 2) := by decide +kernel
theorem dL_law_474 : decode cL_law 474 = .ok (.iload 22, 2) := by decide +kernel
theorem dL_law_476 : decode cL_law 476 = .ok (.if_icmp .eq 27, 3) := by decide +kernel
theorem dL_law_479 : decode cL_law 479 = .ok (.iload 23, 2) := by decide +kernel
theorem dL_law_481 : decode cL_law 481 = .ok (.ifCond .le 7, 3) := by decide +kernel
theorem dL_law_484 : decode cL_law 484 = .ok (.iconst 1, 1) := by decide +kernel
theorem dL_law_485 : decode cL_law 485 = .ok (.goto 4, 3) := by decide +kernel
theorem dL_law_488 : decode cL_law 488 = .ok (.iconst 0, 1) := by decide +kernel
theorem dL_law_489 : decode cL_law 489 = .ok (.iload 24, 2) := by decide +kernel
theorem dL_law_491 : decode cL_law 491 = .ok (.iconst 1, 1) := by decide +kernel
theorem dL_law_492 : decode cL_law 492 = .ok (.if_icmp .ne 7, 3) := by decide +kernel
theorem dL_law_495 : decode cL_law 495 = .ok (.iconst 1, 1) := by decide +kernel
theorem dL_law_496 : decode cL_law 496 = .ok (.goto 4, 3) := by decide +kernel
theorem dL_law_499 : decode cL_law 499 = .ok (.iconst 0, 1) := by decide +kernel
theorem dL_law_500 : decode cL_law 500 = .ok (.if_icmp .ne 16, 3) := by decide +kernel
theorem dL_law_503 : decode cL_law 503 = .ok (.iload 24, 2) := by decide +kernel
theorem dL_law_505 : decode cL_law 505 = .ok (.iconst (-1), 1) := by decide +kernel
theorem dL_law_506 : decode cL_law 506 = .ok (.if_icmp .lt 10, 3) := by decide +kernel
theorem dL_law_509 : decode cL_law 509 = .ok (.iload 24, 2) := by decide +kernel
theorem dL_law_511 : decode cL_law 511 = .ok (.iload 4, 2) := by decide +kernel
theorem dL_law_513 : decode cL_law 513 = .ok (.if_icmp .lt 5, 3) := by decide +kernel
theorem dL_law_516 : decode cL_law 516 = .ok (.iconst 0, 1) := by decide +kernel
theorem dL_law_517 : decode cL_law 517 = .ok (.ireturn, 1) := by decide +kernel
theorem dL_law_518 : decode cL_law 518 = .ok (.iload 20, 2) := by decide +kernel
theorem dL_law_520 : decode cL_law 520 = .ok (.iload 23, 2) := by decide +kernel
theorem dL_law_522 : decode cL_law 522 = .ok (.iadd, 1) := by decide +kernel
theorem dL_law_523 : decode cL_law 523 = .ok (.istore 20, 2) := by decide +kernel
theorem dL_law_525 : decode cL_law 525 = .ok (.iload 21, 2) := by decide +kernel
theorem dL_law_527 : decode cL_law 527 = .ok (.aload_n 3, 1) := by decide +kernel
theorem dL_law_528 : decode cL_law 528 = .ok (.iload 22, 2) := by decide +kernel
theorem dL_law_530 : decode cL_law 530 = .ok (.iload 19, 2) := by decide +kernel
theorem dL_law_532 : decode cL_law 532 = .ok (.invokevirtual 258, 3) := by decide +kernel
theorem dL_law_535 : decode cL_law 535 = .ok (.iadd, 1) := by decide +kernel
theorem dL_law_536 : decode cL_law 536 = .ok (.istore 21, 2) := by decide +kernel
theorem dL_law_538 : decode cL_law 538 = .ok (.iinc 22 1, 3) := by decide +kernel
theorem dL_law_541 : decode cL_law 541 = .ok (.goto (-126), 3) := by decide +kernel
theorem dL_law_544 : decode cL_law 544 = .ok (.aload_n 3, 1) := by decide +kernel
theorem dL_law_545 : decode cL_law 545 = .ok (.iload 19, 2) := by decide +kernel
theorem dL_law_547 : decode cL_law 547 = .ok (.invokevirtual 264, 3) := by decide +kernel
theorem dL_law_550 : decode cL_law 550 = .ok (.istore 22, 2) := by decide +kernel
theorem dL_law_552 : decode cL_law 552 = .ok (.aload_n 3, 1) := by decide +kernel
theorem dL_law_553 : decode cL_law 553 = .ok (.iload 19, 2) := by decide +kernel
theorem dL_law_555 : decode cL_law 555 = .ok (.iconst 0, 1) := by decide +kernel
theorem dL_law_556 : decode cL_law 556 = .ok (.invokevirtual 267, 3) := by decide +kernel
theorem dL_law_559 : decode cL_law 559 = .ok (.ifCond .lt 44, 3) := by decide +kernel
theorem dL_law_562 : decode cL_law 562 = .ok (.aload_n 3, 1) := by decide +kernel
theorem dL_law_563 : decode cL_law 563 = .ok (.iload 19, 2) := by decide +kernel
theorem dL_law_565 : decode cL_law 565 = .ok (.iconst 2, 1) := by decide +kernel
theorem dL_law_566 : decode cL_law 566 = .ok (.invokevirtual 267, 3) := by decide +kernel
theorem dL_law_569 : decode cL_law 569 = .ok (.iload 20, 2) := by decide +kernel
theorem dL_law_571 : decode cL_law 571 = .ok (.if_icmp .ne 32, 3) := by decide +kernel
theorem dL_law_574 : decode cL_law 574 = .ok (.aload_n 3, 1) := by decide +kernel
theorem dL_law_575 : decode cL_law 575 = .ok (.iload 19, 2) := by decide +kernel
theorem dL_law_577 : decode cL_law 577 = .ok (.iconst 3, 1) := by decide +kernel
theorem dL_law_578 : decode cL_law 578 = .ok (.invokevirtual 267, 3) := by decide +kernel
theorem dL_law_581 : decode cL_law 581 = .ok (.iload 21, 2) := by decide +kernel
theorem dL_law_583 : decode cL_law 583 = .ok (.if_icmp .ne 20, 3) := by decide +kernel
theorem dL_law_586 : decode cL_law 586 = .ok (.iload 22, 2) := by decide +kernel
theorem dL_law_588 : decode cL_law 588 = .ok (.ifCond .lt 15, 3) := by decide +kernel
theorem dL_law_591 : decode cL_law 591 = .ok (.iload 22, 2) := by decide +kernel
theorem dL_law_593 : decode cL_law 593 = .ok (.iload 20, 2) := by decide +kernel
theorem dL_law_595 : decode cL_law 595 = .ok (.iload 21, 2) := by decide +kernel
theorem dL_law_597 : decode cL_law 597 = .ok (.invokestatic 219, 3) := by decide +kernel
theorem dL_law_600 : decode cL_law 600 = .ok (.if_icmp .le 5, 3) := by decide +kernel
theorem dL_law_603 : decode cL_law 603 = .ok (.iconst 0, 1) := by decide +kernel
theorem dL_law_604 : decode cL_law 604 = .ok (.ireturn, 1) := by decide +kernel
theorem dL_law_605 : decode cL_law 605 = .ok (.iload 15, 2) := by decide +kernel
theorem dL_law_607 : decode cL_law 607 = .ok (.iload 20, 2) := by decide +kernel
theorem dL_law_609 : decode cL_law 609 = .ok (.iadd, 1) := by decide +kernel
theorem dL_law_610 : decode cL_law 610 = .ok (.istore 15, 2) := by decide +kernel
theorem dL_law_612 : decode cL_law 612 = .ok (.iload 16, 2) := by decide +kernel
theorem dL_law_614 : decode cL_law 614 = .ok (.aload_n 3, 1) := by decide +kernel
theorem dL_law_615 : decode cL_law 615 = .ok (.iload 19, 2) := by decide +kernel
theorem dL_law_617 : decode cL_law 617 = .ok (.iconst 4, 1) := by decide +kernel
theorem dL_law_618 : decode cL_law 618 = .ok (.invokevirtual 267, 3) := by decide +kernel
theorem dL_law_621 : decode cL_law 621 = .ok (.iadd, 1) := by decide +kernel
theorem dL_law_622 : decode cL_law 622 = .ok (.istore 16, 2) := by decide +kernel
theorem dL_law_624 : decode cL_law 624 = .ok (.iload 17, 2) := by decide +kernel
theorem dL_law_626 : decode cL_law 626 = .ok (.aload_n 3, 1) := by decide +kernel
theorem dL_law_627 : decode cL_law 627 = .ok (.iload 19, 2) := by decide +kernel
theorem dL_law_629 : decode cL_law 629 = .ok (.iconst 5, 1) := by decide +kernel
theorem dL_law_630 : decode cL_law 630 = .ok (.invokevirtual 267, 3) := by decide +kernel
theorem dL_law_633 : decode cL_law 633 = .ok (.iadd, 1) := by decide +kernel
theorem dL_law_634 : decode cL_law 634 = .ok (.istore 17, 2) := by decide +kernel
theorem dL_law_636 : decode cL_law 636 = .ok (.iload 18, 2) := by decide +kernel
theorem dL_law_638 : decode cL_law 638 = .ok (.aload_n 3, 1) := by decide +kernel
theorem dL_law_639 : decode cL_law 639 = .ok (.iload 19, 2) := by decide +kernel
theorem dL_law_641 : decode cL_law 641 = .ok (.iconst 0, 1) := by decide +kernel
theorem dL_law_642 : decode cL_law 642 = .ok (.invokevirtual 267, 3) := by decide +kernel
theorem dL_law_645 : decode cL_law 645 = .ok (.iadd, 1) := by decide +kernel
theorem dL_law_646 : decode cL_law 646 = .ok (.istore 18, 2) := by decide +kernel
theorem dL_law_648 : decode cL_law 648 = .ok (.iinc 19 1, 3) := by decide +kernel
theorem dL_law_651 : decode cL_law 651 = .ok (.goto (-252), 3) := by decide +kernel
theorem dL_law_654 : decode cL_law 654 = .ok (.iload 15, 2) := by decide +kernel
theorem dL_law_656 : decode cL_law 656 = .ok (.aload_n 3, 1) := by decide +kernel
theorem dL_law_657 : decode cL_law 657 = .ok (.bipush 8, 2) := by decide +kernel
theorem dL_law_659 : decode cL_law 659 = .ok (.invokevirtual 246, 3) := by decide +kernel
theorem dL_law_662 : decode cL_law 662 = .ok (.if_icmp .ne 49, 3) := by decide +kernel
theorem dL_law_665 : decode cL_law 665 = .ok (.iload 16, 2) := by decide +kernel
theorem dL_law_667 : decode cL_law 667 = .ok (.iload 5, 2) := by decide +kernel
theorem dL_law_669 : decode cL_law 669 = .ok (.if_icmp .ne 42, 3) := by decide +kernel
theorem dL_law_672 : decode cL_law 672 = .ok (.iload 17, 2) := by decide +kernel
theorem dL_law_674 : decode cL_law 674 = .ok (.aload_n 3, 1) := by decide +kernel
theorem dL_law_675 : decode cL_law 675 = .ok (.bipush 7, 2) := by decide +kernel
theorem dL_law_677 : decode cL_law 677 = .ok (.invokevirtual 246, 3) := by decide +kernel
theorem dL_law_680 : decode cL_law 680 = .ok (.if_icmp .ne 31, 3) := by decide +kernel
theorem dL_law_683 : decode cL_law 683 = .ok (.iload 18, 2) := by decide +kernel
theorem dL_law_685 : decode cL_law 685 = .ok (.aload_n 3, 1) := by decide +kernel
theorem dL_law_686 : decode cL_law 686 = .ok (.bipush 9, 2) := by decide +kernel
theorem dL_law_688 : decode cL_law 688 = .ok (.invokevirtual 246, 3) := by decide +kernel
theorem dL_law_691 : decode cL_law 691 = .ok (.if_icmp .ne 20, 3) := by decide +kernel
theorem dL_law_694 : decode cL_law 694 = .ok (.iload 18, 2) := by decide +kernel
theorem dL_law_696 : decode cL_law 696 = .ok (.iload 12, 2) := by decide +kernel
theorem dL_law_698 : decode cL_law 698 = .ok (.iadd, 1) := by decide +kernel
theorem dL_law_699 : decode cL_law 699 = .ok (.iload 8, 2) := by decide +kernel
theorem dL_law_701 : decode cL_law 701 = .ok (.if_icmp .ne 10, 3) := by decide +kernel
theorem dL_law_704 : decode cL_law 704 = .ok (.iload 14, 2) := by decide +kernel
theorem dL_law_706 : decode cL_law 706 = .ok (.iload 13, 2) := by decide +kernel
theorem dL_law_708 : decode cL_law 708 = .ok (.if_icmp .eq 5, 3) := by decide +kernel
theorem dL_law_711 : decode cL_law 711 = .ok (.iconst 0, 1) := by decide +kernel
theorem dL_law_712 : decode cL_law 712 = .ok (.ireturn, 1) := by decide +kernel
theorem dL_law_713 : decode cL_law 713 = .ok (.iload 7, 2) := by decide +kernel
theorem dL_law_715 : decode cL_law 715 = .ok (.newarray .int, 2) := by decide +kernel
theorem dL_law_717 : decode cL_law 717 = .ok (.astore 19, 2) := by decide +kernel
theorem dL_law_719 : decode cL_law 719 = .ok (.iconst 0, 1) := by decide +kernel
theorem dL_law_720 : decode cL_law 720 = .ok (.istore 20, 2) := by decide +kernel
theorem dL_law_722 : decode cL_law 722 = .ok (.iload 20, 2) := by decide +kernel
theorem dL_law_724 : decode cL_law 724 = .ok (.iload 7, 2) := by decide +kernel
theorem dL_law_726 : decode cL_law 726 = .ok (.if_icmp .ge 21, 3) := by decide +kernel
theorem dL_law_729 : decode cL_law 729 = .ok (.aload 19, 2) := by decide +kernel
theorem dL_law_731 : decode cL_law 731 = .ok (.iload 20, 2) := by decide +kernel
theorem dL_law_733 : decode cL_law 733 = .ok (.aload_n 3, 1) := by decide +kernel
theorem dL_law_734 : decode cL_law 734 = .ok (.iload 20, 2) := by decide +kernel
theorem dL_law_736 : decode cL_law 736 = .ok (.iconst 4, 1) := by decide +kernel
theorem dL_law_737 : decode cL_law 737 = .ok (.invokevirtual 270, 3) := by decide +kernel
theorem dL_law_740 : decode cL_law 740 = .ok (.iastore, 1) := by decide +kernel
theorem dL_law_741 : decode cL_law 741 = .ok (.iinc 20 1, 3) := by decide +kernel
theorem dL_law_744 : decode cL_law 744 = .ok (.goto (-22), 3) := by decide +kernel
theorem dL_law_747 : decode cL_law 747 = .ok (.bipush 13, 2) := by decide +kernel
theorem dL_law_749 : decode cL_law 749 = .ok (.newarray .int, 2) := by decide +kernel
theorem dL_law_751 : decode cL_law 751 = .ok (.astore 20, 2) := by decide +kernel
theorem dL_law_753 : decode cL_law 753 = .ok (.iconst 0, 1) := by decide +kernel
theorem dL_law_754 : decode cL_law 754 = .ok (.istore 21, 2) := by decide +kernel
theorem dL_law_756 : decode cL_law 756 = .ok (.iload 21, 2) := by decide +kernel
theorem dL_law_758 : decode cL_law 758 = .ok (.bipush 13, 2) := by decide +kernel
theorem dL_law_760 : decode cL_law 760 = .ok (.if_icmp .ge 20, 3) := by decide +kernel
theorem dL_law_763 : decode cL_law 763 = .ok (.aload 20, 2) := by decide +kernel
theorem dL_law_765 : decode cL_law 765 = .ok (.iload 21, 2) := by decide +kernel
theorem dL_law_767 : decode cL_law 767 = .ok (.aload_n 3, 1) := by decide +kernel
theorem dL_law_768 : decode cL_law 768 = .ok (.iload 21, 2) := by decide +kernel
theorem dL_law_770 : decode cL_law 770 = .ok (.invokevirtual 246, 3) := by decide +kernel
theorem dL_law_773 : decode cL_law 773 = .ok (.iastore, 1) := by decide +kernel
theorem dL_law_774 : decode cL_law 774 = .ok (.iinc 21 1, 3) := by decide +kernel
theorem dL_law_777 : decode cL_law 777 = .ok (.goto (-21), 3) := by decide +kernel
theorem dL_law_780 : decode cL_law 780 = .ok (.aload_n 3, 1) := by decide +kernel
theorem dL_law_781 : decode cL_law 781 = .ok (.invokevirtual 273, 3) := by decide +kernel
theorem dL_law_784 : decode cL_law 784 = .ok (.lstore 21, 2) := by decide +kernel
theorem dL_law_786 : decode cL_law 786 = .ok (.bipush 7, 2) := by decide +kernel
theorem dL_law_788 : decode cL_law 788 = .ok (.newarray .int, 2) := by decide +kernel
theorem dL_law_790 : decode cL_law 790 = .ok (.astore 23, 2) := by decide +kernel
theorem dL_law_792 : decode cL_law 792 = .ok (.iconst 0, 1) := by decide +kernel
theorem dL_law_793 : decode cL_law 793 = .ok (.istore 24, 2) := by decide +kernel
theorem dL_law_795 : decode cL_law 795 = .ok (.iload 24, 2) := by decide +kernel
theorem dL_law_797 : decode cL_law 797 = .ok (.bipush 7, 2) := by decide +kernel
theorem dL_law_799 : decode cL_law 799 = .ok (.if_icmp .ge 33, 3) := by decide +kernel
theorem dL_law_802 : decode cL_law 802 = .ok (.aload 23, 2) := by decide +kernel
theorem dL_law_804 : decode cL_law 804 = .ok (.iload 24, 2) := by decide +kernel
theorem dL_law_806 : decode cL_law 806 = .ok (.aload_n 3, 1) := by decide +kernel
theorem dL_law_807 : decode cL_law 807 = .ok (.iconst 1, 1) := by decide +kernel
theorem dL_law_808 : decode cL_law 808 = .ok (.iload 24, 2) := by decide +kernel
theorem dL_law_810 : decode cL_law 810 = .ok (.ifCond .ne 7, 3) := by decide +kernel
theorem dL_law_813 : decode cL_law 813 = .ok (.iconst 0, 1) := by decide +kernel
theorem dL_law_814 : decode cL_law 814 = .ok (.goto 8, 3) := by decide +kernel
theorem dL_law_817 : decode cL_law 817 = .ok (.bipush 6, 2) := by decide +kernel
theorem dL_law_819 : decode cL_law 819 = .ok (.iload 24, 2) := by decide +kernel
theorem dL_law_821 : decode cL_law 821 = .ok (.iadd, 1) := by decide +kernel
theorem dL_law_822 : decode cL_law 822 = .ok (.invokevirtual 277, 3) := by decide +kernel
theorem dL_law_825 : decode cL_law 825 = .ok (.iastore, 1) := by decide +kernel
theorem dL_law_826 : decode cL_law 826 = .ok (.iinc 24 1, 3) := by decide +kernel
theorem dL_law_829 : decode cL_law 829 = .ok (.goto (-34), 3) := by decide +kernel
theorem dL_law_832 : decode cL_law 832 = .ok (.iload 11, 2) := by decide +kernel
theorem dL_law_834 : decode cL_law 834 = .ok (.iconst 4, 1) := by decide +kernel
theorem dL_law_835 : decode cL_law 835 = .ok (.ishr, 1) := by decide +kernel
theorem dL_law_836 : decode cL_law 836 = .ok (.iload 4, 2) := by decide +kernel
theorem dL_law_838 : decode cL_law 838 = .ok (.invokestatic 123, 3) := by decide +kernel
theorem dL_law_841 : decode cL_law 841 = .ok (.istore 24, 2) := by decide +kernel
theorem dL_law_843 : decode cL_law 843 = .ok (.aload_n 3, 1) := by decide +kernel
theorem dL_law_844 : decode cL_law 844 = .ok (.iload 24, 2) := by decide +kernel
theorem dL_law_846 : decode cL_law 846 = .ok (.invokevirtual 280, 3) := by decide +kernel
theorem dL_law_849 : decode cL_law 849 = .ok (.istore 25, 2) := by decide +kernel
theorem dL_law_851 : decode cL_law 851 = .ok (.aload_n 3, 1) := by decide +kernel
theorem dL_law_852 : decode cL_law 852 = .ok (.iconst 1, 1) := by decide +kernel
theorem dL_law_853 : decode cL_law 853 = .ok (.iload 11, 2) := by decide +kernel
theorem dL_law_855 : decode cL_law 855 = .ok (.bipush 6, 2) := by decide +kernel
theorem dL_law_857 : decode cL_law 857 = .ok (.ishr, 1) := by decide +kernel
theorem dL_law_858 : decode cL_law 858 = .ok (.bipush 20, 2) := by decide +kernel
theorem dL_law_860 : decode cL_law 860 = .ok (.invokestatic 123, 3) := by decide +kernel
theorem dL_law_863 : decode cL_law 863 = .ok (.iadd, 1) := by decide +kernel
theorem dL_law_864 : decode cL_law 864 = .ok (.invokevirtual 283, 3) := by decide +kernel
theorem dL_law_867 : decode cL_law 867 = .ok (.istore 26, 2) := by decide +kernel
theorem dL_law_869 : decode cL_law 869 = .ok (.iload 26, 2) := by decide +kernel
theorem dL_law_871 : decode cL_law 871 = .ok (.ifCond .lt 64, 3) := by decide +kernel
theorem dL_law_874 : decode cL_law 874 = .ok (.iload 26, 2) := by decide +kernel
theorem dL_law_876 : decode cL_law 876 = .ok (.iload 4, 2) := by decide +kernel
theorem dL_law_878 : decode cL_law 878 = .ok (.if_icmp .ge 57, 3) := by decide +kernel
theorem dL_law_881 : decode cL_law 881 = .ok (.aload_n 3, 1) := by decide +kernel
theorem dL_law_882 : decode cL_law 882 = .ok (.iconst 5, 1) := by decide +kernel
theorem dL_law_883 : decode cL_law 883 = .ok (.iconst 0, 1) := by decide +kernel
theorem dL_law_884 : decode cL_law 884 = .ok (.invokevirtual 286, 3) := by decide +kernel
theorem dL_law_887 : decode cL_law 887 = .ok (.ifCond .ne 48, 3) := by decide +kernel
theorem dL_law_890 : decode cL_law 890 = .ok (.iload 25, 2) := by decide +kernel
theorem dL_law_892 : decode cL_law 892 = .ok (.ifCond .ne 7, 3) := by decide +kernel
theorem dL_law_895 : decode cL_law 895 = .ok (.iconst 1, 1) := by decide +kernel
theorem dL_law_896 : decode cL_law 896 = .ok (.goto 4, 3) := by decide +kernel
theorem dL_law_899 : decode cL_law 899 = .ok (.iconst 0, 1) := by decide +kernel
theorem dL_law_900 : decode cL_law 900 = .ok (.aload_n 3, 1) := by decide +kernel
theorem dL_law_901 : decode cL_law 901 = .ok (.iload 24, 2) := by decide +kernel
theorem dL_law_903 : decode cL_law 903 = .ok (.iconst 2, 1) := by decide +kernel
theorem dL_law_904 : decode cL_law 904 = .ok (.invokevirtual 267, 3) := by decide +kernel
theorem dL_law_907 : decode cL_law 907 = .ok (.aload_n 3, 1) := by decide +kernel
theorem dL_law_908 : decode cL_law 908 = .ok (.iload 24, 2) := by decide +kernel
theorem dL_law_910 : decode cL_law 910 = .ok (.iconst 1, 1) := by decide +kernel
theorem dL_law_911 : decode cL_law 911 = .ok (.invokevirtual 267, 3) := by decide +kernel
theorem dL_law_914 : decode cL_law 914 = .ok (.if_icmp .le 7, 3) := by decide +kernel
theorem dL_law_917 : decode cL_law 917 = .ok (.iconst 1, 1) := by decide +kernel
theorem dL_law_918 : decode cL_law 918 = .ok (.goto 4, 3) := by decide +kernel
theorem dL_law_921 : decode cL_law 921 = .ok (.iconst 0, 1) := by decide +kernel
theorem dL_law_922 : decode cL_law 922 = .ok (.if_icmp .ne 13, 3) := by decide +kernel
theorem dL_law_925 : decode cL_law 925 = .ok (.aload_n 3, 1) := by decide +kernel
theorem dL_law_926 : decode cL_law 926 = .ok (.invokevirtual 273, 3) := by decide +kernel
theorem dL_law_929 : decode cL_law 929 = .ok (.lload 21, 2) := by decide +kernel
theorem dL_law_931 : decode cL_law 931 = .ok (.lcmp, 1) := by decide +kernel
theorem dL_law_932 : decode cL_law 932 = .ok (.ifCond .eq 5, 3) := by decide +kernel
theorem dL_law_935 : decode cL_law 935 = .ok (.iconst 0, 1) := by decide +kernel
theorem dL_law_936 : decode cL_law 936 = .ok (.ireturn, 1) := by decide +kernel
theorem dL_law_937 : decode cL_law 937 = .ok (.aload_n 3, 1) := by decide +kernel
theorem dL_law_938 : decode cL_law 938 = .ok (.iconst 1, 1) := by decide +kernel
theorem dL_law_939 : decode cL_law 939 = .ok (.invokevirtual 235, 3) := by decide +kernel
theorem dL_law_942 : decode cL_law 942 = .ok (.istore 27, 2) := by decide +kernel
theorem dL_law_944 : decode cL_law 944 = .ok (.iload 27, 2) := by decide +kernel
theorem dL_law_946 : decode cL_law 946 = .ok (.aload_n 2, 1) := by decide +kernel
theorem dL_law_947 : decode cL_law 947 = .ok (.invokevirtual 232, 3) := by decide +kernel
theorem dL_law_950 : decode cL_law 950 = .ok (.if_icmp .ne 26, 3) := by decide +kernel
theorem dL_law_953 : decode cL_law 953 = .ok (.iload 27, 2) := by decide +kernel
theorem dL_law_955 : decode cL_law 955 = .ok (.aload 23, 2) := by decide +kernel
theorem dL_law_957 : decode cL_law 957 = .ok (.iconst 0, 1) := by decide +kernel
theorem dL_law_958 : decode cL_law 958 = .ok (.iaload, 1) := by decide +kernel
theorem dL_law_959 : decode cL_law 959 = .ok (.if_icmp .ne 17, 3) := by decide +kernel
theorem dL_law_962 : decode cL_law 962 = .ok (.aload_n 3, 1) := by decide +kernel
theorem dL_law_963 : decode cL_law 963 = .ok (.iconst 0, 1) := by decide +kernel
theorem dL_law_964 : decode cL_law 964 = .ok (.invokevirtual 246, 3) := by decide +kernel
theorem dL_law_967 : decode cL_law 967 = .ok (.aload 20, 2) := by decide +kernel
theorem dL_law_969 : decode cL_law 969 = .ok (.iconst 0, 1) := by decide +kernel
theorem dL_law_970 : decode cL_law 970 = .ok (.iaload, 1) := by decide +kernel
theorem dL_law_971 : decode cL_law 971 = .ok (.iconst 1, 1) := by decide +kernel
theorem dL_law_972 : decode cL_law 972 = .ok (.iadd, 1) := by decide +kernel
theorem dL_law_973 : decode cL_law 973 = .ok (.if_icmp .eq 5, 3) := by decide +kernel
theorem dL_law_976 : decode cL_law 976 = .ok (.iconst 0, 1) := by decide +kernel
theorem dL_law_977 : decode cL_law 977 = .ok (.ireturn, 1) := by decide +kernel
theorem dL_law_978 : decode cL_law 978 = .ok (.iconst 1, 1) := by decide +kernel
theorem dL_law_979 : decode cL_law 979 = .ok (.istore 28, 2) := by decide +kernel
theorem dL_law_981 : decode cL_law 981 = .ok (.iload 28, 2) := by decide +kernel
theorem dL_law_983 : decode cL_law 983 = .ok (.bipush 7, 2) := by decide +kernel
theorem dL_law_985 : decode cL_law 985 = .ok (.if_icmp .ge 28, 3) := by decide +kernel
theorem dL_law_988 : decode cL_law 988 = .ok (.aload_n 3, 1) := by decide +kernel
theorem dL_law_989 : decode cL_law 989 = .ok (.bipush 6, 2) := by decide +kernel
theorem dL_law_991 : decode cL_law 991 = .ok (.iload 28, 2) := by decide +kernel
theorem dL_law_993 : decode cL_law 993 = .ok (.iadd, 1) := by decide +kernel
theorem dL_law_994 : decode cL_law 994 = .ok (.invokevirtual 246, 3) := by decide +kernel
theorem dL_law_997 : decode cL_law 997 = .ok (.aload 23, 2) := by decide +kernel
theorem dL_law_999 : decode cL_law 999 = .ok (.iload 28, 2) := by decide +kernel
theorem dL_law_1001 : decode cL_law 1001 = .ok (.iaload, 1) := by decide +kernel
theorem dL_law_1002 : decode cL_law 1002 = .ok (.if_icmp .eq 5, 3) := by decide +kernel
theorem dL_law_1005 : decode cL_law 1005 = .ok (.iconst 0, 1) := by decide +kernel
theorem dL_law_1006 : decode cL_law 1006 = .ok (.ireturn, 1) := by decide +kernel
theorem dL_law_1007 : decode cL_law 1007 = .ok (.iinc 28 1, 3) := by decide +kernel
theorem dL_law_1010 : decode cL_law 1010 = .ok (.goto (-29), 3) := by decide +kernel
theorem dL_law_1013 : decode cL_law 1013 = .ok (.iconst 0, 1) := by decide +kernel
theorem dL_law_1014 : decode cL_law 1014 = .ok (.istore 28, 2) := by decide +kernel
theorem dL_law_1016 : decode cL_law 1016 = .ok (.iconst 0, 1) := by decide +kernel
theorem dL_law_1017 : decode cL_law 1017 = .ok (.istore 29, 2) := by decide +kernel
theorem dL_law_1019 : decode cL_law 1019 = .ok (.iload 29, 2) := by decide +kernel
theorem dL_law_1021 : decode cL_law 1021 = .ok (.iload 7, 2) := by decide +kernel
theorem dL_law_1023 : decode cL_law 1023 = .ok (.if_icmp .ge 44, 3) := by decide +kernel
theorem dL_law_1026 : decode cL_law 1026 = .ok (.aload_n 3, 1) := by decide +kernel
theorem dL_law_1027 : decode cL_law 1027 = .ok (.iload 29, 2) := by decide +kernel
theorem dL_law_1029 : decode cL_law 1029 = .ok (.iconst 4, 1) := by decide +kernel
theorem dL_law_1030 : decode cL_law 1030 = .ok (.invokevirtual 270, 3) := by decide +kernel
theorem dL_law_1033 : decode cL_law 1033 = .ok (.aload 19, 2) := by decide +kernel
theorem dL_law_1035 : decode cL_law 1035 = .ok (.iload 29, 2) := by decide +kernel
theorem dL_law_1037 : decode cL_law 1037 = .ok (.iaload, 1) := by decide +kernel
theorem dL_law_1038 : decode cL_law 1038 = .ok (.isub, 1) := by decide +kernel
theorem dL_law_1039 : decode cL_law 1039 = .ok (.istore 30, 2) := by decide +kernel
theorem dL_law_1041 : decode cL_law 1041 = .ok (.iload 30, 2) := by decide +kernel
theorem dL_law_1043 : decode cL_law 1043 = .ok (.ifCond .lt 9, 3) := by decide +kernel
theorem dL_law_1046 : decode cL_law 1046 = .ok (.iload 30, 2) := by decide +kernel
theorem dL_law_1048 : decode cL_law 1048 = .ok (.iconst 1, 1) := by decide +kernel
theorem dL_law_1049 : decode cL_law 1049 = .ok (.if_icmp .le 5, 3) := by decide +kernel
theorem dL_law_1052 : decode cL_law 1052 = .ok (.iconst 0, 1) := by decide +kernel
theorem dL_law_1053 : decode cL_law 1053 = .ok (.ireturn, 1) := by decide +kernel
theorem dL_law_1054 : decode cL_law 1054 = .ok (.iload 28, 2) := by decide +kernel
theorem dL_law_1056 : decode cL_law 1056 = .ok (.iload 30, 2) := by decide +kernel
theorem dL_law_1058 : decode cL_law 1058 = .ok (.iadd, 1) := by decide +kernel
theorem dL_law_1059 : decode cL_law 1059 = .ok (.istore 28, 2) := by decide +kernel
theorem dL_law_1061 : decode cL_law 1061 = .ok (.iinc 29 1, 3) := by decide +kernel
theorem dL_law_1064 : decode cL_law 1064 = .ok (.goto (-45), 3) := by decide +kernel
theorem dL_law_1067 : decode cL_law 1067 = .ok (.aload_n 3, 1) := by decide +kernel
theorem dL_law_1068 : decode cL_law 1068 = .ok (.bipush 10, 2) := by decide +kernel
theorem dL_law_1070 : decode cL_law 1070 = .ok (.invokevirtual 246, 3) := by decide +kernel
theorem dL_law_1073 : decode cL_law 1073 = .ok (.aload 20, 2) := by decide +kernel
theorem dL_law_1075 : decode cL_law 1075 = .ok (.bipush 10, 2) := by decide +kernel
theorem dL_law_1077 : decode cL_law 1077 = .ok (.iaload, 1) := by decide +kernel
theorem dL_law_1078 : decode cL_law 1078 = .ok (.isub, 1) := by decide +kernel
theorem dL_law_1079 : decode cL_law 1079 = .ok (.aload_n 3, 1) := by decide +kernel
theorem dL_law_1080 : decode cL_law 1080 = .ok (.bipush 11, 2) := by decide +kernel
theorem dL_law_1082 : decode cL_law 1082 = .ok (.invokevirtual 246, 3) := by decide +kernel
theorem dL_law_1085 : decode cL_law 1085 = .ok (.iadd, 1) := by decide +kernel
theorem dL_law_1086 : decode cL_law 1086 = .ok (.aload 20, 2) := by decide +kernel
theorem dL_law_1088 : decode cL_law 1088 = .ok (.bipush 11, 2) := by decide +kernel
theorem dL_law_1090 : decode cL_law 1090 = .ok (.iaload, 1) := by decide +kernel
theorem dL_law_1091 : decode cL_law 1091 = .ok (.isub, 1) := by decide +kernel
theorem dL_law_1092 : decode cL_law 1092 = .ok (.aload_n 3, 1) := by decide +kernel
theorem dL_law_1093 : decode cL_law 1093 = .ok (.bipush 12, 2) := by decide +kernel
theorem dL_law_1095 : decode cL_law 1095 = .ok (.invokevirtual 246, 3) := by decide +kernel
theorem dL_law_1098 : decode cL_law 1098 = .ok (.iadd, 1) := by decide +kernel
theorem dL_law_1099 : decode cL_law 1099 = .ok (.aload 20, 2) := by decide +kernel
theorem dL_law_1101 : decode cL_law 1101 = .ok (.bipush 12, 2) := by decide +kernel
theorem dL_law_1103 : decode cL_law 1103 = .ok (.iaload, 1) := by decide +kernel
theorem dL_law_1104 : decode cL_law 1104 = .ok (.isub, 1) := by decide +kernel
theorem dL_law_1105 : decode cL_law 1105 = .ok (.istore 29, 2) := by decide +kernel
theorem dL_law_1107 : decode cL_law 1107 = .ok (.iload 28, 2) := by decide +kernel
theorem dL_law_1109 : decode cL_law 1109 = .ok (.iload 27, 2) := by decide +kernel
theorem dL_law_1111 : decode cL_law 1111 = .ok (.if_icmp .ne 82, 3) := by decide +kernel
theorem dL_law_1114 : decode cL_law 1114 = .ok (.iload 29, 2) := by decide +kernel
theorem dL_law_1116 : decode cL_law 1116 = .ok (.iload 27, 2) := by decide +kernel
theorem dL_law_1118 : decode cL_law 1118 = .ok (.if_icmp .ne 75, 3) := by decide +kernel
theorem dL_law_1121 : decode cL_law 1121 = .ok (.aload_n 3, 1) := by decide +kernel
theorem dL_law_1122 : decode cL_law 1122 = .ok (.bipush 8, 2) := by decide +kernel
theorem dL_law_1124 : decode cL_law 1124 = .ok (.invokevirtual 246, 3) := by decide +kernel
theorem dL_law_1127 : decode cL_law 1127 = .ok (.aload 20, 2) := by decide +kernel
theorem dL_law_1129 : decode cL_law 1129 = .ok (.bipush 8, 2) := by decide +kernel
theorem dL_law_1131 : decode cL_law 1131 = .ok (.iaload, 1) := by decide +kernel
theorem dL_law_1132 : decode cL_law 1132 = .ok (.if_icmp .le 29, 3) := by decide +kernel
theorem dL_law_1135 : decode cL_law 1135 = .ok (.aload_n 3, 1) := by decide +kernel
theorem dL_law_1136 : decode cL_law 1136 = .ok (.bipush 10, 2) := by decide +kernel
theorem dL_law_1138 : decode cL_law 1138 = .ok (.invokevirtual 246, 3) := by decide +kernel
theorem dL_law_1141 : decode cL_law 1141 = .ok (.aload 20, 2) := by decide +kernel
theorem dL_law_1143 : decode cL_law 1143 = .ok (.bipush 10, 2) := by decide +kernel
theorem dL_law_1145 : decode cL_law 1145 = .ok (.iaload, 1) := by decide +kernel
theorem dL_law_1146 : decode cL_law 1146 = .ok (.if_icmp .ne 15, 3) := by decide +kernel
theorem dL_law_1149 : decode cL_law 1149 = .ok (.aload 20, 2) := by decide +kernel
theorem dL_law_1151 : decode cL_law 1151 = .ok (.iconst 0, 1) := by decide +kernel
theorem dL_law_1152 : decode cL_law 1152 = .ok (.iaload, 1) := by decide +kernel
theorem dL_law_1153 : decode cL_law 1153 = .ok (.bipush 7, 2) := by decide +kernel
theorem dL_law_1155 : decode cL_law 1155 = .ok (.irem, 1) := by decide +kernel
theorem dL_law_1156 : decode cL_law 1156 = .ok (.bipush 6, 2) := by decide +kernel
theorem dL_law_1158 : decode cL_law 1158 = .ok (.if_icmp .ne 35, 3) := by decide +kernel
theorem dL_law_1161 : decode cL_law 1161 = .ok (.aload_n 3, 1) := by decide +kernel
theorem dL_law_1162 : decode cL_law 1162 = .ok (.bipush 9, 2) := by decide +kernel
theorem dL_law_1164 : decode cL_law 1164 = .ok (.invokevirtual 246, 3) := by decide +kernel
theorem dL_law_1167 : decode cL_law 1167 = .ok (.aload 20, 2) := by decide +kernel
theorem dL_law_1169 : decode cL_law 1169 = .ok (.bipush 9, 2) := by decide +kernel
theorem dL_law_1171 : decode cL_law 1171 = .ok (.iaload, 1) := by decide +kernel
theorem dL_law_1172 : decode cL_law 1172 = .ok (.if_icmp .gt 21, 3) := by decide +kernel
theorem dL_law_1175 : decode cL_law 1175 = .ok (.iload 25, 2) := by decide +kernel
theorem dL_law_1177 : decode cL_law 1177 = .ok (.ifCond .le 18, 3) := by decide +kernel
theorem dL_law_1180 : decode cL_law 1180 = .ok (.aload_n 3, 1) := by decide +kernel
theorem dL_law_1181 : decode cL_law 1181 = .ok (.iload 24, 2) := by decide +kernel
theorem dL_law_1183 : decode cL_law 1183 = .ok (.invokevirtual 280, 3) := by decide +kernel
theorem dL_law_1186 : decode cL_law 1186 = .ok (.iload 25, 2) := by decide +kernel
theorem dL_law_1188 : decode cL_law 1188 = .ok (.iconst 1, 1) := by decide +kernel
theorem dL_law_1189 : decode cL_law 1189 = .ok (.isub, 1) := by decide +kernel
theorem dL_law_1190 : decode cL_law 1190 = .ok (.if_icmp .eq 5, 3) := by decide +kernel
theorem dL_law_1193 : decode cL_law 1193 = .ok (.iconst 0, 1) := by decide +kernel
theorem dL_law_1194 : decode cL_law 1194 = .ok (.ireturn, 1) := by decide +kernel
theorem dL_law_1195 : decode cL_law 1195 = .ok (.iinc 10 1, 3) := by decide +kernel
theorem dL_law_1198 : decode cL_law 1198 = .ok (.goto (-1089), 3) := by decide +kernel
theorem dL_law_1201 : decode cL_law 1201 = .ok (.aload_n 2, 1) := by decide +kernel
theorem dL_law_1202 : decode cL_law 1202 = .ok (.aload_n 3, 1) := by decide +kernel
theorem dL_law_1203 : decode cL_law 1203 = .ok (.invokevirtual 289, 3) := by decide +kernel
theorem dL_law_1206 : decode cL_law 1206 = .ok (.ireturn, 1) := by decide +kernel
theorem dX0_init_0 : decode cX0_init 0 = .ok (.aload_n 0, 1) := by decide +kernel
theorem dX0_init_1 : decode cX0_init 1 = .ok (.invokespecial 1, 3) := by decide +kernel
theorem dX0_init_4 : decode cX0_init 4 = .ok (.aload_n 0, 1) := by decide +kernel
theorem dX0_init_5 : decode cX0_init 5 = .ok (.aload_n 1, 1) := by decide +kernel
theorem dX0_init_6 : decode cX0_init 6 = .ok (.putfield 7, 3) := by decide +kernel
theorem dX0_init_9 : decode cX0_init 9 = .ok (.aload_n 0, 1) := by decide +kernel
theorem dX0_init_10 : decode cX0_init 10 = .ok (.aload_n 2, 1) := by decide +kernel
theorem dX0_init_11 : decode cX0_init 11 = .ok (.putfield 13, 3) := by decide +kernel
theorem dX0_init_14 : decode cX0_init 14 = .ok (.aload_n 0, 1) := by decide +kernel
theorem dX0_init_15 : decode cX0_init 15 = .ok (.new 17, 3) := by decide +kernel
theorem dX0_init_18 : decode cX0_init 18 = .ok (.dup, 1) := by decide +kernel
theorem dX0_init_19 : decode cX0_init 19 = .ok (.aload_n 1, 1) := by decide +kernel
theorem dX0_init_20 : decode cX0_init 20 = .ok (.getfield 19, 3) := by decide +kernel
theorem dX0_init_23 : decode cX0_init 23 = .ok (.aload_n 2, 1) := by decide +kernel
theorem dX0_init_24 : decode cX0_init 24 = .ok (.invokespecial 25, 3) := by decide +kernel
theorem dX0_init_27 : decode cX0_init 27 = .ok (.putfield 28, 3) := by decide +kernel
theorem dX0_init_30 : decode cX0_init 30 = .ok (.return_, 1) := by decide +kernel
theorem dX0_goOn_0 : decode cX0_goOn 0 = .ok (.iconst 0, 1) := by decide +kernel
theorem dX0_goOn_1 : decode cX0_goOn 1 = .ok (.istore_n 2, 1) := by decide +kernel
theorem dX0_goOn_2 : decode cX0_goOn 2 = .ok (.iconst 0, 1) := by decide +kernel
theorem dX0_goOn_3 : decode cX0_goOn 3 = .ok (.istore_n 3, 1) := by decide +kernel
theorem dX0_goOn_4 : decode cX0_goOn 4 = .ok (.iload_n 3, 1) := by decide +kernel
theorem dX0_goOn_5 : decode cX0_goOn 5 = .ok (.iload_n 1, 1) := by decide +kernel
theorem dX0_goOn_6 : decode cX0_goOn 6 = .ok (.if_icmp .ge 61, 3) := by decide +kernel
theorem dX0_goOn_9 : decode cX0_goOn 9 = .ok (.aload_n 0, 1) := by decide +kernel
theorem dX0_goOn_10 : decode cX0_goOn 10 = .ok (.getfield 13, 3) := by decide +kernel
theorem dX0_goOn_13 : decode cX0_goOn 13 = .ok (.invokevirtual 32, 3) := by decide +kernel
theorem dX0_goOn_16 : decode cX0_goOn 16 = .ok (.iload_n 2, 1) := by decide +kernel
theorem dX0_goOn_17 : decode cX0_goOn 17 = .ok (.aload_n 0, 1) := by decide +kernel
theorem dX0_goOn_18 : decode cX0_goOn 18 = .ok (.invokevirtual 37, 3) := by decide +kernel
theorem dX0_goOn_21 : decode cX0_goOn 21 = .ok (.iadd, 1) := by decide +kernel
theorem dX0_goOn_22 : decode cX0_goOn 22 = .ok (.istore_n 2, 1) := by decide +kernel
theorem dX0_goOn_23 : decode cX0_goOn 23 = .ok (.aload_n 0, 1) := by decide +kernel
theorem dX0_goOn_24 : decode cX0_goOn 24 = .ok (.getfield 13, 3) := by decide +kernel
theorem dX0_goOn_27 : decode cX0_goOn 27 = .ok (.getfield 41, 3) := by decide +kernel
theorem dX0_goOn_30 : decode cX0_goOn 30 = .ok (.bipush 7, 2) := by decide +kernel
theorem dX0_goOn_32 : decode cX0_goOn 32 = .ok (.irem, 1) := by decide +kernel
theorem dX0_goOn_33 : decode cX0_goOn 33 = .ok (.bipush 6, 2) := by decide +kernel
theorem dX0_goOn_35 : decode cX0_goOn 35 = .ok (.if_icmp .ne 13, 3) := by decide +kernel
theorem dX0_goOn_38 : decode cX0_goOn 38 = .ok (.aload_n 0, 1) := by decide +kernel
theorem dX0_goOn_39 : decode cX0_goOn 39 = .ok (.getfield 13, 3) := by decide +kernel
theorem dX0_goOn_42 : decode cX0_goOn 42 = .ok (.getfield 45, 3) := by decide +kernel
theorem dX0_goOn_45 : decode cX0_goOn 45 = .ok (.invokevirtual 49, 3) := by decide +kernel
theorem dX0_goOn_48 : decode cX0_goOn 48 = .ok (.aload_n 0, 1) := by decide +kernel
theorem dX0_goOn_49 : decode cX0_goOn 49 = .ok (.getfield 13, 3) := by decide +kernel
theorem dX0_goOn_52 : decode cX0_goOn 52 = .ok (.dup, 1) := by decide +kernel
theorem dX0_goOn_53 : decode cX0_goOn 53 = .ok (.getfield 41, 3) := by decide +kernel
theorem dX0_goOn_56 : decode cX0_goOn 56 = .ok (.iconst 1, 1) := by decide +kernel
theorem dX0_goOn_57 : decode cX0_goOn 57 = .ok (.iadd, 1) := by decide +kernel
theorem dX0_goOn_58 : decode cX0_goOn 58 = .ok (.putfield 41, 3) := by decide +kernel
theorem dX0_goOn_61 : decode cX0_goOn 61 = .ok (.iinc 3 1, 3) := by decide +kernel
theorem dX0_goOn_64 : decode cX0_goOn 64 = .ok (.goto (-60), 3) := by decide +kernel
theorem dX0_goOn_67 : decode cX0_goOn 67 = .ok (.iload_n 2, 1) := by decide +kernel
theorem dX0_goOn_68 : decode cX0_goOn 68 = .ok (.ireturn, 1) := by decide +kernel
theorem dX0_followOrders_0 : decode cX0_followOrders 0 = .ok (.iconst 0, 1) := by decide +kernel
theorem dX0_followOrders_1 : decode cX0_followOrders 1 = .ok (.istore_n 1, 1) := by decide +kernel
theorem dX0_followOrders_2 : decode cX0_followOrders 2 = .ok (.iconst 0, 1) := by decide +kernel
theorem dX0_followOrders_3 : decode cX0_followOrders 3 = .ok (.istore_n 2, 1) := by decide +kernel
theorem dX0_followOrders_4 : decode cX0_followOrders 4 = .ok (.iload_n 2, 1) := by decide +kernel
theorem dX0_followOrders_5 : decode cX0_followOrders 5 = .ok (.aload_n 0, 1) := by decide +kernel
theorem dX0_followOrders_6 : decode cX0_followOrders 6 = .ok (.getfield 7, 3) := by decide +kernel
theorem dX0_followOrders_9 : decode cX0_followOrders 9 = .ok (.getfield 54, 3) := by decide +kernel
theorem dX0_followOrders_12 : decode cX0_followOrders 12 = .ok (.if_icmp .ge 25, 3) := by decide +kernel
theorem dX0_followOrders_15 : decode cX0_followOrders 15 = .ok (.aload_n 0, 1) := by decide +kernel
theorem dX0_followOrders_16 : decode cX0_followOrders 16 = .ok (.iload_n 2, 1) := by decide +kernel
theorem dX0_followOrders_17 : decode cX0_followOrders 17 = .ok (.invokevirtual 57, 3) := by decide +kernel
theorem dX0_followOrders_20 : decode cX0_followOrders 20 = .ok (.ifCond .eq 11, 3) := by decide +kernel
theorem dX0_followOrders_23 : decode cX0_followOrders 23 = .ok (.aload_n 0, 1) := by decide +kernel
theorem dX0_followOrders_24 : decode cX0_followOrders 24 = .ok (.iload_n 2, 1) := by decide +kernel
theorem dX0_followOrders_25 : decode cX0_followOrders 25 = .ok (.invokevirtual 61, 3) := by decide +kernel
theorem dX0_followOrders_28 : decode cX0_followOrders 28 = .ok (.iinc 1 1, 3) := by decide +kernel
theorem dX0_followOrders_31 : decode cX0_followOrders 31 = .ok (.iinc 2 1, 3) := by decide +kernel
theorem dX0_followOrders_34 : decode cX0_followOrders 34 = .ok (.goto (-30), 3) := by decide +kernel
theorem dX0_followOrders_37 : decode cX0_followOrders 37 = .ok (.iload_n 1, 1) := by decide +kernel
theorem dX0_followOrders_38 : decode cX0_followOrders 38 = .ok (.ireturn, 1) := by decide +kernel
theorem dX0_wouldCarryOut_0 : decode cX0_wouldCarryOut 0 = .ok (.aload_n 0, 1) := by decide +kernel
theorem dX0_wouldCarryOut_1 : decode cX0_wouldCarryOut 1 = .ok (.getfield 7, 3) := by decide +kernel
theorem dX0_wouldCarryOut_4 : decode cX0_wouldCarryOut 4 = .ok (.getfield 65, 3) := by decide +kernel
theorem dX0_wouldCarryOut_7 : decode cX0_wouldCarryOut 7 = .ok (.iload_n 1, 1) := by decide +kernel
theorem dX0_wouldCarryOut_8 : decode cX0_wouldCarryOut 8 = .ok (.invokevirtual 69, 3) := by decide +kernel
theorem dX0_wouldCarryOut_11 : decode cX0_wouldCarryOut 11 = .ok (.istore_n 2, 1) := by decide +kernel
theorem dX0_wouldCarryOut_12 : decode cX0_wouldCarryOut 12 = .ok (.aload_n 0, 1) := by decide +kernel
theorem dX0_wouldCarryOut_13 : decode cX0_wouldCarryOut 13 = .ok (.getfield 7, 3) := by decide +kernel
theorem dX0_wouldCarryOut_16 : decode cX0_wouldCarryOut 16 = .ok (.getfield 75, 3) := by decide +kernel
theorem dX0_wouldCarryOut_19 : decode cX0_wouldCarryOut 19 = .ok (.iload_n 1, 1) := by decide +kernel
theorem dX0_wouldCarryOut_20 : decode cX0_wouldCarryOut 20 = .ok (.invokevirtual 69, 3) := by decide +kernel
theorem dX0_wouldCarryOut_23 : decode cX0_wouldCarryOut 23 = .ok (.istore_n 3, 1) := by decide +kernel
theorem dX0_wouldCarryOut_24 : decode cX0_wouldCarryOut 24 = .ok (.iload_n 2, 1) := by decide +kernel
theorem dX0_wouldCarryOut_25 : decode cX0_wouldCarryOut 25 = .ok (.iload_n 3, 1) := by decide +kernel
theorem dX0_wouldCarryOut_26 : decode cX0_wouldCarryOut 26 = .ok (.if_icmp .ge 17, 3) := by decide +kernel
theorem dX0_wouldCarryOut_29 : decode cX0_wouldCarryOut 29 = .ok (.aload_n 0, 1) := by decide +kernel
theorem dX0_wouldCarryOut_30 : decode cX0_wouldCarryOut 30 = .ok (.getfield 28, 3) := by decide +kernel
theorem dX0_wouldCarryOut_33 : decode cX0_wouldCarryOut 33 = .ok (.iload_n 2, 1) := by decide +kernel
theorem dX0_wouldCarryOut_34 : decode cX0_wouldCarryOut 34 = .ok (.iload_n 3, 1) := by decide +kernel
theorem dX0_wouldCarryOut_35 : decode cX0_wouldCarryOut 35 = .ok (.invokevirtual 78, 3) := by decide +kernel
theorem dX0_wouldCarryOut_38 : decode cX0_wouldCarryOut 38 = .ok (.ifCond .ne 5, 3) := by decide +kernel
theorem dX0_wouldCarryOut_41 : decode cX0_wouldCarryOut 41 = .ok (.iconst 0, 1) := by decide +kernel
theorem dX0_wouldCarryOut_42 : decode cX0_wouldCarryOut 42 = .ok (.ireturn, 1) := by decide +kernel
theorem dX0_wouldCarryOut_43 : decode cX0_wouldCarryOut 43 = .ok (.aload_n 0, 1) := by decide +kernel
theorem dX0_wouldCarryOut_44 : decode cX0_wouldCarryOut 44 = .ok (.getfield 28, 3) := by decide +kernel
theorem dX0_wouldCarryOut_47 : decode cX0_wouldCarryOut 47 = .ok (.aload_n 0, 1) := by decide +kernel
theorem dX0_wouldCarryOut_48 : decode cX0_wouldCarryOut 48 = .ok (.getfield 7, 3) := by decide +kernel
theorem dX0_wouldCarryOut_51 : decode cX0_wouldCarryOut 51 = .ok (.getfield 82, 3) := by decide +kernel
theorem dX0_wouldCarryOut_54 : decode cX0_wouldCarryOut 54 = .ok (.iload_n 1, 1) := by decide +kernel
theorem dX0_wouldCarryOut_55 : decode cX0_wouldCarryOut 55 = .ok (.invokevirtual 69, 3) := by decide +kernel
theorem dX0_wouldCarryOut_58 : decode cX0_wouldCarryOut 58 = .ok (.iload_n 2, 1) := by decide +kernel
theorem dX0_wouldCarryOut_59 : decode cX0_wouldCarryOut 59 = .ok (.invokevirtual 78, 3) := by decide +kernel
theorem dX0_wouldCarryOut_62 : decode cX0_wouldCarryOut 62 = .ok (.istore 4, 2) := by decide +kernel
theorem dX0_wouldCarryOut_64 : decode cX0_wouldCarryOut 64 = .ok (.aload_n 0, 1) := by decide +kernel
theorem dX0_wouldCarryOut_65 : decode cX0_wouldCarryOut 65 = .ok (.getfield 7, 3) := by decide +kernel
theorem dX0_wouldCarryOut_68 : decode cX0_wouldCarryOut 68 = .ok (.getfield 85, 3) := by decide +kernel
theorem dX0_wouldCarryOut_71 : decode cX0_wouldCarryOut 71 = .ok (.iload_n 1, 1) := by decide +kernel
theorem dX0_wouldCarryOut_72 : decode cX0_wouldCarryOut 72 = .ok (.invokevirtual 69, 3) := by decide +kernel
theorem dX0_wouldCarryOut_75 : decode cX0_wouldCarryOut 75 = .ok (.istore 5, 2) := by decide +kernel
theorem dX0_wouldCarryOut_77 : decode cX0_wouldCarryOut 77 = .ok (.aload_n 0, 1) := by decide +kernel
theorem dX0_wouldCarryOut_78 : decode cX0_wouldCarryOut 78 = .ok (.getfield 7, 3) := by decide +kernel
theorem dX0_wouldCarryOut_81 : decode cX0_wouldCarryOut 81 = .ok (.getfield 88, 3) := by decide +kernel
theorem dX0_wouldCarryOut_84 : decode cX0_wouldCarryOut 84 = .ok (.iload_n 1, 1) := by decide +kernel
theorem dX0_wouldCarryOut_85 : decode cX0_wouldCarryOut 85 = .ok (.invokevirtual 69, 3) := by decide +kernel
theorem dX0_wouldCarryOut_88 : decode cX0_wouldCarryOut 88 = .ok (.istore 6, 2) := by decide +kernel
theorem dX0_wouldCarryOut_90 : decode cX0_wouldCarryOut 90 = .ok (.aload_n 0, 1) := by decide +kernel
theorem dX0_wouldCarryOut_91 : decode cX0_wouldCarryOut 91 = .ok (.getfield 7, 3) := by decide +kernel
theorem dX0_wouldCarryOut_94 : decode cX0_wouldCarryOut 94 = .ok (.getfield 91, 3) := by decide +kernel
theorem dX0_wouldCarryOut_97 : decode cX0_wouldCarryOut 97 = .ok (.iload_n 1, 1) := by decide +kernel
theorem dX0_wouldCarryOut_98 : decode cX0_wouldCarryOut 98 = .ok (.invokevirtual 69, 3) := by decide +kernel
theorem dX0_wouldCarryOut_101 : decode cX0_wouldCarryOut 101 = .ok (.lookupswitch 47 #[(0, 27), (1, 36)], 27) := by decide +kernel
theorem dX0_wouldCarryOut_128 : decode cX0_wouldCarryOut 128 = .ok (.aload_n 0, 1) := by decide +kernel
theorem dX0_wouldCarryOut_129 : decode cX0_wouldCarryOut 129 = .ok (.iload 5, 2) := by decide +kernel
theorem dX0_wouldCarryOut_131 : decode cX0_wouldCarryOut 131 = .ok (.iload 6, 2) := by decide +kernel
theorem dX0_wouldCarryOut_133 : decode cX0_wouldCarryOut 133 = .ok (.invokevirtual 94, 3) := by decide +kernel
theorem dX0_wouldCarryOut_136 : decode cX0_wouldCarryOut 136 = .ok (.ireturn, 1) := by decide +kernel
theorem dX0_wouldCarryOut_137 : decode cX0_wouldCarryOut 137 = .ok (.aload_n 0, 1) := by decide +kernel
theorem dX0_wouldCarryOut_138 : decode cX0_wouldCarryOut 138 = .ok (.iload 5, 2) := by decide +kernel
theorem dX0_wouldCarryOut_140 : decode cX0_wouldCarryOut 140 = .ok (.iload 6, 2) := by decide +kernel
theorem dX0_wouldCarryOut_142 : decode cX0_wouldCarryOut 142 = .ok (.iload 4, 2) := by decide +kernel
theorem dX0_wouldCarryOut_144 : decode cX0_wouldCarryOut 144 = .ok (.invokevirtual 98, 3) := by decide +kernel
theorem dX0_wouldCarryOut_147 : decode cX0_wouldCarryOut 147 = .ok (.ireturn, 1) := by decide +kernel
theorem dX0_wouldCarryOut_148 : decode cX0_wouldCarryOut 148 = .ok (.aload_n 0, 1) := by decide +kernel
theorem dX0_wouldCarryOut_149 : decode cX0_wouldCarryOut 149 = .ok (.iload 5, 2) := by decide +kernel
theorem dX0_wouldCarryOut_151 : decode cX0_wouldCarryOut 151 = .ok (.iload 6, 2) := by decide +kernel
theorem dX0_wouldCarryOut_153 : decode cX0_wouldCarryOut 153 = .ok (.iload 4, 2) := by decide +kernel
theorem dX0_wouldCarryOut_155 : decode cX0_wouldCarryOut 155 = .ok (.invokevirtual 102, 3) := by decide +kernel
theorem dX0_wouldCarryOut_158 : decode cX0_wouldCarryOut 158 = .ok (.iconst 1, 1) := by decide +kernel
theorem dX0_wouldCarryOut_159 : decode cX0_wouldCarryOut 159 = .ok (.if_icmp .lt 7, 3) := by decide +kernel
theorem dX0_wouldCarryOut_162 : decode cX0_wouldCarryOut 162 = .ok (.iconst 1, 1) := by decide +kernel
theorem dX0_wouldCarryOut_163 : decode cX0_wouldCarryOut 163 = .ok (.goto 4, 3) := by decide +kernel
theorem dX0_wouldCarryOut_166 : decode cX0_wouldCarryOut 166 = .ok (.iconst 0, 1) := by decide +kernel
theorem dX0_wouldCarryOut_167 : decode cX0_wouldCarryOut 167 = .ok (.ireturn, 1) := by decide +kernel
theorem dX0_carryOut_0 : decode cX0_carryOut 0 = .ok (.aload_n 0, 1) := by decide +kernel
theorem dX0_carryOut_1 : decode cX0_carryOut 1 = .ok (.getfield 28, 3) := by decide +kernel
theorem dX0_carryOut_4 : decode cX0_carryOut 4 = .ok (.aload_n 0, 1) := by decide +kernel
theorem dX0_carryOut_5 : decode cX0_carryOut 5 = .ok (.getfield 7, 3) := by decide +kernel
theorem dX0_carryOut_8 : decode cX0_carryOut 8 = .ok (.getfield 82, 3) := by decide +kernel
theorem dX0_carryOut_11 : decode cX0_carryOut 11 = .ok (.iload_n 1, 1) := by decide +kernel
theorem dX0_carryOut_12 : decode cX0_carryOut 12 = .ok (.invokevirtual 69, 3) := by decide +kernel
theorem dX0_carryOut_15 : decode cX0_carryOut 15 = .ok (.aload_n 0, 1) := by decide +kernel
theorem dX0_carryOut_16 : decode cX0_carryOut 16 = .ok (.getfield 7, 3) := by decide +kernel
theorem dX0_carryOut_19 : decode cX0_carryOut 19 = .ok (.getfield 65, 3) := by decide +kernel
theorem dX0_carryOut_22 : decode cX0_carryOut 22 = .ok (.iload_n 1, 1) := by decide +kernel
theorem dX0_carryOut_23 : decode cX0_carryOut 23 = .ok (.invokevirtual 69, 3) := by decide +kernel
theorem dX0_carryOut_26 : decode cX0_carryOut 26 = .ok (.invokevirtual 78, 3) := by decide +kernel
theorem dX0_carryOut_29 : decode cX0_carryOut 29 = .ok (.istore_n 2, 1) := by decide +kernel
theorem dX0_carryOut_30 : decode cX0_carryOut 30 = .ok (.aload_n 0, 1) := by decide +kernel
theorem dX0_carryOut_31 : decode cX0_carryOut 31 = .ok (.getfield 7, 3) := by decide +kernel
theorem dX0_carryOut_34 : decode cX0_carryOut 34 = .ok (.getfield 85, 3) := by decide +kernel
theorem dX0_carryOut_37 : decode cX0_carryOut 37 = .ok (.iload_n 1, 1) := by decide +kernel
theorem dX0_carryOut_38 : decode cX0_carryOut 38 = .ok (.invokevirtual 69, 3) := by decide +kernel
theorem dX0_carryOut_41 : decode cX0_carryOut 41 = .ok (.istore_n 3, 1) := by decide +kernel
theorem dX0_carryOut_42 : decode cX0_carryOut 42 = .ok (.aload_n 0, 1) := by decide +kernel
theorem dX0_carryOut_43 : decode cX0_carryOut 43 = .ok (.getfield 7, 3) := by decide +kernel
theorem dX0_carryOut_46 : decode cX0_carryOut 46 = .ok (.getfield 88, 3) := by decide +kernel
theorem dX0_carryOut_49 : decode cX0_carryOut 49 = .ok (.iload_n 1, 1) := by decide +kernel
theorem dX0_carryOut_50 : decode cX0_carryOut 50 = .ok (.invokevirtual 69, 3) := by decide +kernel
theorem dX0_carryOut_53 : decode cX0_carryOut 53 = .ok (.istore 4, 2) := by decide +kernel
theorem dX0_carryOut_55 : decode cX0_carryOut 55 = .ok (.aload_n 0, 1) := by decide +kernel
theorem dX0_carryOut_56 : decode cX0_carryOut 56 = .ok (.getfield 7, 3) := by decide +kernel
theorem dX0_carryOut_59 : decode cX0_carryOut 59 = .ok (.getfield 91, 3) := by decide +kernel
theorem dX0_carryOut_62 : decode cX0_carryOut 62 = .ok (.iload_n 1, 1) := by decide +kernel
theorem dX0_carryOut_63 : decode cX0_carryOut 63 = .ok (.invokevirtual 69, 3) := by decide +kernel
theorem dX0_carryOut_66 : decode cX0_carryOut 66 = .ok (.lookupswitch 47 #[(0, 26), (1, 36)], 26) := by decide +kernel
theorem dX0_carryOut_92 : decode cX0_carryOut 92 = .ok (.aload_n 0, 1) := by decide +kernel
theorem dX0_carryOut_93 : decode cX0_carryOut 93 = .ok (.iload_n 3, 1) := by decide +kernel
theorem dX0_carryOut_94 : decode cX0_carryOut 94 = .ok (.iload 4, 2) := by decide +kernel
theorem dX0_carryOut_96 : decode cX0_carryOut 96 = .ok (.invokevirtual 106, 3) := by decide +kernel
theorem dX0_carryOut_99 : decode cX0_carryOut 99 = .ok (.goto 22, 3) := by decide +kernel
theorem dX0_carryOut_102 : decode cX0_carryOut 102 = .ok (.aload_n 0, 1) := by decide +kernel
theorem dX0_carryOut_103 : decode cX0_carryOut 103 = .ok (.iload_n 3, 1) := by decide +kernel
theorem dX0_carryOut_104 : decode cX0_carryOut 104 = .ok (.iload 4, 2) := by decide +kernel
theorem dX0_carryOut_106 : decode cX0_carryOut 106 = .ok (.iload_n 2, 1) := by decide +kernel
theorem dX0_carryOut_107 : decode cX0_carryOut 107 = .ok (.invokevirtual 110, 3) := by decide +kernel
theorem dX0_carryOut_110 : decode cX0_carryOut 110 = .ok (.goto 11, 3) := by decide +kernel
theorem dX0_carryOut_113 : decode cX0_carryOut 113 = .ok (.aload_n 0, 1) := by decide +kernel
theorem dX0_carryOut_114 : decode cX0_carryOut 114 = .ok (.iload_n 3, 1) := by decide +kernel
theorem dX0_carryOut_115 : decode cX0_carryOut 115 = .ok (.iload 4, 2) := by decide +kernel
theorem dX0_carryOut_117 : decode cX0_carryOut 117 = .ok (.iload_n 2, 1) := by decide +kernel
theorem dX0_carryOut_118 : decode cX0_carryOut 118 = .ok (.invokevirtual 114, 3) := by decide +kernel
theorem dX0_carryOut_121 : decode cX0_carryOut 121 = .ok (.aload_n 0, 1) := by decide +kernel
theorem dX0_carryOut_122 : decode cX0_carryOut 122 = .ok (.getfield 13, 3) := by decide +kernel
theorem dX0_carryOut_125 : decode cX0_carryOut 125 = .ok (.getfield 117, 3) := by decide +kernel
theorem dX0_carryOut_128 : decode cX0_carryOut 128 = .ok (.iload_n 1, 1) := by decide +kernel
theorem dX0_carryOut_129 : decode cX0_carryOut 129 = .ok (.iconst 1, 1) := by decide +kernel
theorem dX0_carryOut_130 : decode cX0_carryOut 130 = .ok (.invokevirtual 120, 3) := by decide +kernel
theorem dX0_carryOut_133 : decode cX0_carryOut 133 = .ok (.return_, 1) := by decide +kernel
theorem dX0_canWeigh_0 : decode cX0_canWeigh 0 = .ok (.aload_n 0, 1) := by decide +kernel
theorem dX0_canWeigh_1 : decode cX0_canWeigh 1 = .ok (.getfield 13, 3) := by decide +kernel
theorem dX0_canWeigh_4 : decode cX0_canWeigh 4 = .ok (.getfield 123, 3) := by decide +kernel
theorem dX0_canWeigh_7 : decode cX0_canWeigh 7 = .ok (.aload_n 0, 1) := by decide +kernel
theorem dX0_canWeigh_8 : decode cX0_canWeigh 8 = .ok (.getfield 13, 3) := by decide +kernel
theorem dX0_canWeigh_11 : decode cX0_canWeigh 11 = .ok (.getfield 126, 3) := by decide +kernel
theorem dX0_canWeigh_14 : decode cX0_canWeigh 14 = .ok (.iload_n 1, 1) := by decide +kernel
theorem dX0_canWeigh_15 : decode cX0_canWeigh 15 = .ok (.invokevirtual 69, 3) := by decide +kernel
theorem dX0_canWeigh_18 : decode cX0_canWeigh 18 = .ok (.invokevirtual 69, 3) := by decide +kernel
theorem dX0_canWeigh_21 : decode cX0_canWeigh 21 = .ok (.aload_n 0, 1) := by decide +kernel
theorem dX0_canWeigh_22 : decode cX0_canWeigh 22 = .ok (.getfield 7, 3) := by decide +kernel
theorem dX0_canWeigh_25 : decode cX0_canWeigh 25 = .ok (.getfield 129, 3) := by decide +kernel
theorem dX0_canWeigh_28 : decode cX0_canWeigh 28 = .ok (.iload_n 2, 1) := by decide +kernel
theorem dX0_canWeigh_29 : decode cX0_canWeigh 29 = .ok (.invokevirtual 69, 3) := by decide +kernel
theorem dX0_canWeigh_32 : decode cX0_canWeigh 32 = .ok (.if_icmp .lt 7, 3) := by decide +kernel
theorem dX0_canWeigh_35 : decode cX0_canWeigh 35 = .ok (.iconst 1, 1) := by decide +kernel
theorem dX0_canWeigh_36 : decode cX0_canWeigh 36 = .ok (.goto 4, 3) := by decide +kernel
theorem dX0_canWeigh_39 : decode cX0_canWeigh 39 = .ok (.iconst 0, 1) := by decide +kernel
theorem dX0_canWeigh_40 : decode cX0_canWeigh 40 = .ok (.ireturn, 1) := by decide +kernel
theorem dX0_weigh_0 : decode cX0_weigh 0 = .ok (.aload_n 0, 1) := by decide +kernel
theorem dX0_weigh_1 : decode cX0_weigh 1 = .ok (.getfield 7, 3) := by decide +kernel
theorem dX0_weigh_4 : decode cX0_weigh 4 = .ok (.getfield 129, 3) := by decide +kernel
theorem dX0_weigh_7 : decode cX0_weigh 7 = .ok (.iload_n 2, 1) := by decide +kernel
theorem dX0_weigh_8 : decode cX0_weigh 8 = .ok (.invokevirtual 69, 3) := by decide +kernel
theorem dX0_weigh_11 : decode cX0_weigh 11 = .ok (.istore_n 3, 1) := by decide +kernel
theorem dX0_weigh_12 : decode cX0_weigh 12 = .ok (.aload_n 0, 1) := by decide +kernel
theorem dX0_weigh_13 : decode cX0_weigh 13 = .ok (.getfield 13, 3) := by decide +kernel
theorem dX0_weigh_16 : decode cX0_weigh 16 = .ok (.getfield 132, 3) := by decide +kernel
theorem dX0_weigh_19 : decode cX0_weigh 19 = .ok (.iload_n 1, 1) := by decide +kernel
theorem dX0_weigh_20 : decode cX0_weigh 20 = .ok (.invokevirtual 69, 3) := by decide +kernel
theorem dX0_weigh_23 : decode cX0_weigh 23 = .ok (.istore 4, 2) := by decide +kernel
theorem dX0_weigh_25 : decode cX0_weigh 25 = .ok (.aload_n 0, 1) := by decide +kernel
theorem dX0_weigh_26 : decode cX0_weigh 26 = .ok (.getfield 13, 3) := by decide +kernel
theorem dX0_weigh_29 : decode cX0_weigh 29 = .ok (.getfield 123, 3) := by decide +kernel
theorem dX0_weigh_32 : decode cX0_weigh 32 = .ok (.aload_n 0, 1) := by decide +kernel
theorem dX0_weigh_33 : decode cX0_weigh 33 = .ok (.getfield 13, 3) := by decide +kernel
theorem dX0_weigh_36 : decode cX0_weigh 36 = .ok (.getfield 126, 3) := by decide +kernel
theorem dX0_weigh_39 : decode cX0_weigh 39 = .ok (.iload_n 1, 1) := by decide +kernel
theorem dX0_weigh_40 : decode cX0_weigh 40 = .ok (.invokevirtual 69, 3) := by decide +kernel
theorem dX0_weigh_43 : decode cX0_weigh 43 = .ok (.iload_n 3, 1) := by decide +kernel
theorem dX0_weigh_44 : decode cX0_weigh 44 = .ok (.ineg, 1) := by decide +kernel
theorem dX0_weigh_45 : decode cX0_weigh 45 = .ok (.invokevirtual 120, 3) := by decide +kernel
theorem dX0_weigh_48 : decode cX0_weigh 48 = .ok (.aload_n 0, 1) := by decide +kernel
theorem dX0_weigh_49 : decode cX0_weigh 49 = .ok (.getfield 13, 3) := by decide +kernel
theorem dX0_weigh_52 : decode cX0_weigh 52 = .ok (.getfield 135, 3) := by decide +kernel
theorem dX0_weigh_55 : decode cX0_weigh 55 = .ok (.iload_n 2, 1) := by decide +kernel
theorem dX0_weigh_56 : decode cX0_weigh 56 = .ok (.iload_n 3, 1) := by decide +kernel
theorem dX0_weigh_57 : decode cX0_weigh 57 = .ok (.invokevirtual 120, 3) := by decide +kernel
theorem dX0_weigh_60 : decode cX0_weigh 60 = .ok (.aload_n 0, 1) := by decide +kernel
theorem dX0_weigh_61 : decode cX0_weigh 61 = .ok (.getfield 13, 3) := by decide +kernel
theorem dX0_weigh_64 : decode cX0_weigh 64 = .ok (.iload_n 1, 1) := by decide +kernel
theorem dX0_weigh_65 : decode cX0_weigh 65 = .ok (.iload_n 2, 1) := by decide +kernel
theorem dX0_weigh_66 : decode cX0_weigh 66 = .ok (.iload 4, 2) := by decide +kernel
theorem dX0_weigh_68 : decode cX0_weigh 68 = .ok (.iload 4, 2) := by decide +kernel
theorem dX0_weigh_70 : decode cX0_weigh 70 = .ok (.aload_n 0, 1) := by decide +kernel
theorem dX0_weigh_71 : decode cX0_weigh 71 = .ok (.getfield 7, 3) := by decide +kernel
theorem dX0_weigh_74 : decode cX0_weigh 74 = .ok (.getfield 138, 3) := by decide +kernel
theorem dX0_weigh_77 : decode cX0_weigh 77 = .ok (.iload_n 2, 1) := by decide +kernel
theorem dX0_weigh_78 : decode cX0_weigh 78 = .ok (.invokevirtual 69, 3) := by decide +kernel
theorem dX0_weigh_81 : decode cX0_weigh 81 = .ok (.imul, 1) := by decide +kernel
theorem dX0_weigh_82 : decode cX0_weigh 82 = .ok (.bipush 100, 2) := by decide +kernel
theorem dX0_weigh_84 : decode cX0_weigh 84 = .ok (.idiv, 1) := by decide +kernel
theorem dX0_weigh_85 : decode cX0_weigh 85 = .ok (.isub, 1) := by decide +kernel
theorem dX0_weigh_86 : decode cX0_weigh 86 = .ok (.invokevirtual 141, 3) := by decide +kernel
theorem dX0_weigh_89 : decode cX0_weigh 89 = .ok (.aload_n 0, 1) := by decide +kernel
theorem dX0_weigh_90 : decode cX0_weigh 90 = .ok (.getfield 13, 3) := by decide +kernel
theorem dX0_weigh_93 : decode cX0_weigh 93 = .ok (.dup, 1) := by decide +kernel
theorem dX0_weigh_94 : decode cX0_weigh 94 = .ok (.getfield 144, 3) := by decide +kernel
theorem dX0_weigh_97 : decode cX0_weigh 97 = .ok (.iconst 1, 1) := by decide +kernel
theorem dX0_weigh_98 : decode cX0_weigh 98 = .ok (.iadd, 1) := by decide +kernel
theorem dX0_weigh_99 : decode cX0_weigh 99 = .ok (.putfield 144, 3) := by decide +kernel
theorem dX0_weigh_102 : decode cX0_weigh 102 = .ok (.return_, 1) := by decide +kernel
theorem dX0_canSell_0 : decode cX0_canSell 0 = .ok (.aload_n 0, 1) := by decide +kernel
theorem dX0_canSell_1 : decode cX0_canSell 1 = .ok (.getfield 13, 3) := by decide +kernel
theorem dX0_canSell_4 : decode cX0_canSell 4 = .ok (.iload_n 1, 1) := by decide +kernel
theorem dX0_canSell_5 : decode cX0_canSell 5 = .ok (.invokevirtual 147, 3) := by decide +kernel
theorem dX0_canSell_8 : decode cX0_canSell 8 = .ok (.ifCond .eq 18, 3) := by decide +kernel
theorem dX0_canSell_11 : decode cX0_canSell 11 = .ok (.aload_n 0, 1) := by decide +kernel
theorem dX0_canSell_12 : decode cX0_canSell 12 = .ok (.getfield 13, 3) := by decide +kernel
theorem dX0_canSell_15 : decode cX0_canSell 15 = .ok (.getfield 126, 3) := by decide +kernel
theorem dX0_canSell_18 : decode cX0_canSell 18 = .ok (.iload_n 1, 1) := by decide +kernel
theorem dX0_canSell_19 : decode cX0_canSell 19 = .ok (.invokevirtual 69, 3) := by decide +kernel
theorem dX0_canSell_22 : decode cX0_canSell 22 = .ok (.iload_n 2, 1) := by decide +kernel
theorem dX0_canSell_23 : decode cX0_canSell 23 = .ok (.if_icmp .ne 5, 3) := by decide +kernel
theorem dX0_canSell_26 : decode cX0_canSell 26 = .ok (.iconst 0, 1) := by decide +kernel
theorem dX0_canSell_27 : decode cX0_canSell 27 = .ok (.ireturn, 1) := by decide +kernel
theorem dX0_canSell_28 : decode cX0_canSell 28 = .ok (.iconst 0, 1) := by decide +kernel
theorem dX0_canSell_29 : decode cX0_canSell 29 = .ok (.aload_n 0, 1) := by decide +kernel
theorem dX0_canSell_30 : decode cX0_canSell 30 = .ok (.iload_n 1, 1) := by decide +kernel
theorem dX0_canSell_31 : decode cX0_canSell 31 = .ok (.iload_n 3, 1) := by decide +kernel
theorem dX0_canSell_32 : decode cX0_canSell 32 = .ok (.invokevirtual 150, 3) := by decide +kernel
theorem dX0_canSell_35 : decode cX0_canSell 35 = .ok (.aload_n 0, 1) := by decide +kernel
theorem dX0_canSell_36 : decode cX0_canSell 36 = .ok (.getfield 13, 3) := by decide +kernel
theorem dX0_canSell_39 : decode cX0_canSell 39 = .ok (.getfield 123, 3) := by decide +kernel
theorem dX0_canSell_42 : decode cX0_canSell 42 = .ok (.iload_n 2, 1) := by decide +kernel
theorem dX0_canSell_43 : decode cX0_canSell 43 = .ok (.invokevirtual 69, 3) := by decide +kernel
theorem dX0_canSell_46 : decode cX0_canSell 46 = .ok (.isub, 1) := by decide +kernel
theorem dX0_canSell_47 : decode cX0_canSell 47 = .ok (.invokestatic 153, 3) := by decide +kernel
theorem dX0_canSell_50 : decode cX0_canSell 50 = .ok (.istore 4, 2) := by decide +kernel
theorem dX0_canSell_52 : decode cX0_canSell 52 = .ok (.aload_n 0, 1) := by decide +kernel
theorem dX0_canSell_53 : decode cX0_canSell 53 = .ok (.getfield 13, 3) := by decide +kernel
theorem dX0_canSell_56 : decode cX0_canSell 56 = .ok (.getfield 45, 3) := by decide +kernel
theorem dX0_canSell_59 : decode cX0_canSell 59 = .ok (.iload_n 2, 1) := by decide +kernel
theorem dX0_canSell_60 : decode cX0_canSell 60 = .ok (.invokevirtual 158, 3) := by decide +kernel
theorem dX0_canSell_63 : decode cX0_canSell 63 = .ok (.iload 4, 2) := by decide +kernel
theorem dX0_canSell_65 : decode cX0_canSell 65 = .ok (.iadd, 1) := by decide +kernel
theorem dX0_canSell_66 : decode cX0_canSell 66 = .ok (.aload_n 0, 1) := by decide +kernel
theorem dX0_canSell_67 : decode cX0_canSell 67 = .ok (.getfield 7, 3) := by decide +kernel
theorem dX0_canSell_70 : decode cX0_canSell 70 = .ok (.getfield 161, 3) := by decide +kernel
theorem dX0_canSell_73 : decode cX0_canSell 73 = .ok (.iload_n 2, 1) := by decide +kernel
theorem dX0_canSell_74 : decode cX0_canSell 74 = .ok (.invokevirtual 69, 3) := by decide +kernel
theorem dX0_canSell_77 : decode cX0_canSell 77 = .ok (.if_icmp .gt 7, 3) := by decide +kernel
theorem dX0_canSell_80 : decode cX0_canSell 80 = .ok (.iconst 1, 1) := by decide +kernel
theorem dX0_canSell_81 : decode cX0_canSell 81 = .ok (.goto 4, 3) := by decide +kernel
theorem dX0_canSell_84 : decode cX0_canSell 84 = .ok (.iconst 0, 1) := by decide +kernel
theorem dX0_canSell_85 : decode cX0_canSell 85 = .ok (.ireturn, 1) := by decide +kernel
theorem dX0_sell_0 : decode cX0_sell 0 = .ok (.aload_n 0, 1) := by decide +kernel
theorem dX0_sell_1 : decode cX0_sell 1 = .ok (.getfield 13, 3) := by decide +kernel
theorem dX0_sell_4 : decode cX0_sell 4 = .ok (.getfield 126, 3) := by decide +kernel
theorem dX0_sell_7 : decode cX0_sell 7 = .ok (.iload_n 1, 1) := by decide +kernel
theorem dX0_sell_8 : decode cX0_sell 8 = .ok (.invokevirtual 69, 3) := by decide +kernel
theorem dX0_sell_11 : decode cX0_sell 11 = .ok (.istore 4, 2) := by decide +kernel
theorem dX0_sell_13 : decode cX0_sell 13 = .ok (.aload_n 0, 1) := by decide +kernel
theorem dX0_sell_14 : decode cX0_sell 14 = .ok (.iload_n 1, 1) := by decide +kernel
theorem dX0_sell_15 : decode cX0_sell 15 = .ok (.iload_n 3, 1) := by decide +kernel
theorem dX0_sell_16 : decode cX0_sell 16 = .ok (.invokevirtual 150, 3) := by decide +kernel
theorem dX0_sell_19 : decode cX0_sell 19 = .ok (.istore 5, 2) := by decide +kernel
theorem dX0_sell_21 : decode cX0_sell 21 = .ok (.iload 5, 2) := by decide +kernel
theorem dX0_sell_23 : decode cX0_sell 23 = .ok (.aload_n 0, 1) := by decide +kernel
theorem dX0_sell_24 : decode cX0_sell 24 = .ok (.getfield 13, 3) := by decide +kernel
theorem dX0_sell_27 : decode cX0_sell 27 = .ok (.getfield 123, 3) := by decide +kernel
theorem dX0_sell_30 : decode cX0_sell 30 = .ok (.iload_n 2, 1) := by decide +kernel
theorem dX0_sell_31 : decode cX0_sell 31 = .ok (.invokevirtual 69, 3) := by decide +kernel
theorem dX0_sell_34 : decode cX0_sell 34 = .ok (.invokestatic 164, 3) := by decide +kernel
theorem dX0_sell_37 : decode cX0_sell 37 = .ok (.istore 6, 2) := by decide +kernel
theorem dX0_sell_39 : decode cX0_sell 39 = .ok (.aload_n 0, 1) := by decide +kernel
theorem dX0_sell_40 : decode cX0_sell 40 = .ok (.getfield 13, 3) := by decide +kernel
theorem dX0_sell_43 : decode cX0_sell 43 = .ok (.iload_n 2, 1) := by decide +kernel
theorem dX0_sell_44 : decode cX0_sell 44 = .ok (.iload 4, 2) := by decide +kernel
theorem dX0_sell_46 : decode cX0_sell 46 = .ok (.iload 6, 2) := by decide +kernel
theorem dX0_sell_48 : decode cX0_sell 48 = .ok (.invokevirtual 167, 3) := by decide +kernel
theorem dX0_sell_51 : decode cX0_sell 51 = .ok (.aload_n 0, 1) := by decide +kernel
theorem dX0_sell_52 : decode cX0_sell 52 = .ok (.getfield 13, 3) := by decide +kernel
theorem dX0_sell_55 : decode cX0_sell 55 = .ok (.getfield 45, 3) := by decide +kernel
theorem dX0_sell_58 : decode cX0_sell 58 = .ok (.iload_n 2, 1) := by decide +kernel
theorem dX0_sell_59 : decode cX0_sell 59 = .ok (.iload 4, 2) := by decide +kernel
theorem dX0_sell_61 : decode cX0_sell 61 = .ok (.iload 5, 2) := by decide +kernel
theorem dX0_sell_63 : decode cX0_sell 63 = .ok (.iload 6, 2) := by decide +kernel
theorem dX0_sell_65 : decode cX0_sell 65 = .ok (.isub, 1) := by decide +kernel
theorem dX0_sell_66 : decode cX0_sell 66 = .ok (.invokevirtual 170, 3) := by decide +kernel
theorem dX0_sell_69 : decode cX0_sell 69 = .ok (.aload_n 0, 1) := by decide +kernel
theorem dX0_sell_70 : decode cX0_sell 70 = .ok (.getfield 13, 3) := by decide +kernel
theorem dX0_sell_73 : decode cX0_sell 73 = .ok (.getfield 126, 3) := by decide +kernel
theorem dX0_sell_76 : decode cX0_sell 76 = .ok (.iload_n 1, 1) := by decide +kernel
theorem dX0_sell_77 : decode cX0_sell 77 = .ok (.iload_n 2, 1) := by decide +kernel
theorem dX0_sell_78 : decode cX0_sell 78 = .ok (.invokevirtual 173, 3) := by decide +kernel
theorem dX0_sell_81 : decode cX0_sell 81 = .ok (.aload_n 0, 1) := by decide +kernel
theorem dX0_sell_82 : decode cX0_sell 82 = .ok (.getfield 13, 3) := by decide +kernel
theorem dX0_sell_85 : decode cX0_sell 85 = .ok (.dup, 1) := by decide +kernel
theorem dX0_sell_86 : decode cX0_sell 86 = .ok (.getfield 176, 3) := by decide +kernel
theorem dX0_sell_89 : decode cX0_sell 89 = .ok (.iconst 1, 1) := by decide +kernel
theorem dX0_sell_90 : decode cX0_sell 90 = .ok (.iadd, 1) := by decide +kernel
theorem dX0_sell_91 : decode cX0_sell 91 = .ok (.putfield 176, 3) := by decide +kernel
theorem dX0_sell_94 : decode cX0_sell 94 = .ok (.return_, 1) := by decide +kernel
theorem dX0_price_0 : decode cX0_price 0 = .ok (.iconst 0, 1) := by decide +kernel
theorem dX0_price_1 : decode cX0_price 1 = .ok (.sipush 999, 3) := by decide +kernel
theorem dX0_price_4 : decode cX0_price 4 = .ok (.iload_n 2, 1) := by decide +kernel
theorem dX0_price_5 : decode cX0_price 5 = .ok (.invokestatic 164, 3) := by decide +kernel
theorem dX0_price_8 : decode cX0_price 8 = .ok (.invokestatic 153, 3) := by decide +kernel
theorem dX0_price_11 : decode cX0_price 11 = .ok (.istore_n 3, 1) := by decide +kernel
theorem dX0_price_12 : decode cX0_price 12 = .ok (.iload_n 3, 1) := by decide +kernel
theorem dX0_price_13 : decode cX0_price 13 = .ok (.aload_n 0, 1) := by decide +kernel
theorem dX0_price_14 : decode cX0_price 14 = .ok (.getfield 13, 3) := by decide +kernel
theorem dX0_price_17 : decode cX0_price 17 = .ok (.getfield 179, 3) := by decide +kernel
theorem dX0_price_20 : decode cX0_price 20 = .ok (.iload_n 1, 1) := by decide +kernel
theorem dX0_price_21 : decode cX0_price 21 = .ok (.invokevirtual 69, 3) := by decide +kernel
theorem dX0_price_24 : decode cX0_price 24 = .ok (.imul, 1) := by decide +kernel
theorem dX0_price_25 : decode cX0_price 25 = .ok (.bipush 100, 2) := by decide +kernel
theorem dX0_price_27 : decode cX0_price 27 = .ok (.idiv, 1) := by decide +kernel
theorem dX0_price_28 : decode cX0_price 28 = .ok (.ireturn, 1) := by decide +kernel
theorem dX0_due_0 : decode cX0_due 0 = .ok (.aload_n 0, 1) := by decide +kernel
theorem dX0_due_1 : decode cX0_due 1 = .ok (.getfield 13, 3) := by decide +kernel
theorem dX0_due_4 : decode cX0_due 4 = .ok (.getfield 45, 3) := by decide +kernel
theorem dX0_due_7 : decode cX0_due 7 = .ok (.iload_n 1, 1) := by decide +kernel
theorem dX0_due_8 : decode cX0_due 8 = .ok (.iload_n 2, 1) := by decide +kernel
theorem dX0_due_9 : decode cX0_due 9 = .ok (.invokevirtual 182, 3) := by decide +kernel
theorem dX0_due_12 : decode cX0_due 12 = .ok (.istore 4, 2) := by decide +kernel
theorem dX0_due_14 : decode cX0_due 14 = .ok (.iload_n 3, 1) := by decide +kernel
theorem dX0_due_15 : decode cX0_due 15 = .ok (.iload 4, 2) := by decide +kernel
theorem dX0_due_17 : decode cX0_due 17 = .ok (.aload_n 0, 1) := by decide +kernel
theorem dX0_due_18 : decode cX0_due 18 = .ok (.getfield 13, 3) := by decide +kernel
theorem dX0_due_21 : decode cX0_due 21 = .ok (.getfield 123, 3) := by decide +kernel
theorem dX0_due_24 : decode cX0_due 24 = .ok (.iload_n 1, 1) := by decide +kernel
theorem dX0_due_25 : decode cX0_due 25 = .ok (.invokevirtual 69, 3) := by decide +kernel
theorem dX0_due_28 : decode cX0_due 28 = .ok (.invokestatic 164, 3) := by decide +kernel
theorem dX0_due_31 : decode cX0_due 31 = .ok (.invokestatic 164, 3) := by decide +kernel
theorem dX0_due_34 : decode cX0_due 34 = .ok (.ireturn, 1) := by decide +kernel
theorem dX0_payBack_0 : decode cX0_payBack 0 = .ok (.aload_n 0, 1) := by decide +kernel
theorem dX0_payBack_1 : decode cX0_payBack 1 = .ok (.iload_n 1, 1) := by decide +kernel
theorem dX0_payBack_2 : decode cX0_payBack 2 = .ok (.iload_n 2, 1) := by decide +kernel
theorem dX0_payBack_3 : decode cX0_payBack 3 = .ok (.iload_n 3, 1) := by decide +kernel
theorem dX0_payBack_4 : decode cX0_payBack 4 = .ok (.invokevirtual 102, 3) := by decide +kernel
theorem dX0_payBack_7 : decode cX0_payBack 7 = .ok (.istore 4, 2) := by decide +kernel
theorem dX0_payBack_9 : decode cX0_payBack 9 = .ok (.aload_n 0, 1) := by decide +kernel
theorem dX0_payBack_10 : decode cX0_payBack 10 = .ok (.getfield 13, 3) := by decide +kernel
theorem dX0_payBack_13 : decode cX0_payBack 13 = .ok (.iload_n 1, 1) := by decide +kernel
theorem dX0_payBack_14 : decode cX0_payBack 14 = .ok (.iload_n 2, 1) := by decide +kernel
theorem dX0_payBack_15 : decode cX0_payBack 15 = .ok (.iload 4, 2) := by decide +kernel
theorem dX0_payBack_17 : decode cX0_payBack 17 = .ok (.invokevirtual 167, 3) := by decide +kernel
theorem dX0_payBack_20 : decode cX0_payBack 20 = .ok (.aload_n 0, 1) := by decide +kernel
theorem dX0_payBack_21 : decode cX0_payBack 21 = .ok (.getfield 13, 3) := by decide +kernel
theorem dX0_payBack_24 : decode cX0_payBack 24 = .ok (.getfield 45, 3) := by decide +kernel
theorem dX0_payBack_27 : decode cX0_payBack 27 = .ok (.iload_n 1, 1) := by decide +kernel
theorem dX0_payBack_28 : decode cX0_payBack 28 = .ok (.iload_n 2, 1) := by decide +kernel
theorem dX0_payBack_29 : decode cX0_payBack 29 = .ok (.iload 4, 2) := by decide +kernel
theorem dX0_payBack_31 : decode cX0_payBack 31 = .ok (.ineg, 1) := by decide +kernel
theorem dX0_payBack_32 : decode cX0_payBack 32 = .ok (.invokevirtual 170, 3) := by decide +kernel
theorem dX0_payBack_35 : decode cX0_payBack 35 = .ok (.aload_n 0, 1) := by decide +kernel
theorem dX0_payBack_36 : decode cX0_payBack 36 = .ok (.getfield 13, 3) := by decide +kernel
theorem dX0_payBack_39 : decode cX0_payBack 39 = .ok (.dup, 1) := by decide +kernel
theorem dX0_payBack_40 : decode cX0_payBack 40 = .ok (.getfield 185, 3) := by decide +kernel
theorem dX0_payBack_43 : decode cX0_payBack 43 = .ok (.iconst 1, 1) := by decide +kernel
theorem dX0_payBack_44 : decode cX0_payBack 44 = .ok (.iadd, 1) := by decide +kernel
theorem dX0_payBack_45 : decode cX0_payBack 45 = .ok (.putfield 185, 3) := by decide +kernel
theorem dX0_payBack_48 : decode cX0_payBack 48 = .ok (.return_, 1) := by decide +kernel
theorem dX1_init_0 : decode cX1_init 0 = .ok (.aload_n 0, 1) := by decide +kernel
theorem dX1_init_1 : decode cX1_init 1 = .ok (.invokespecial 3, 3) := by decide +kernel
theorem dX1_init_4 : decode cX1_init 4 = .ok (.aload_n 0, 1) := by decide +kernel
theorem dX1_init_5 : decode cX1_init 5 = .ok (.new 9, 3) := by decide +kernel
theorem dX1_init_8 : decode cX1_init 8 = .ok (.dup, 1) := by decide +kernel
theorem dX1_init_9 : decode cX1_init 9 = .ok (.bipush 36, 2) := by decide +kernel
theorem dX1_init_11 : decode cX1_init 11 = .ok (.invokespecial 13, 3) := by decide +kernel
