theorem dX12_carry_136 : decode cX12_carry 136 = .ok (.iaload, 1) := by decide +kernel
theorem dX12_carry_137 : decode cX12_carry 137 = .ok (.iastore, 1) := by decide +kernel
theorem dX12_carry_138 : decode cX12_carry 138 = .ok (.aload_n 3, 1) := by decide +kernel
theorem dX12_carry_139 : decode cX12_carry 139 = .ok (.iconst 4, 1) := by decide +kernel
theorem dX12_carry_140 : decode cX12_carry 140 = .ok (.aload_n 3, 1) := by decide +kernel
theorem dX12_carry_141 : decode cX12_carry 141 = .ok (.iconst 1, 1) := by decide +kernel
theorem dX12_carry_142 : decode cX12_carry 142 = .ok (.iaload, 1) := by decide +kernel
theorem dX12_carry_143 : decode cX12_carry 143 = .ok (.aload_n 3, 1) := by decide +kernel
theorem dX12_carry_144 : decode cX12_carry 144 = .ok (.iconst 1, 1) := by decide +kernel
theorem dX12_carry_145 : decode cX12_carry 145 = .ok (.iaload, 1) := by decide +kernel
theorem dX12_carry_146 : decode cX12_carry 146 = .ok (.aload_n 0, 1) := by decide +kernel
theorem dX12_carry_147 : decode cX12_carry 147 = .ok (.getfield 18, 3) := by decide +kernel
theorem dX12_carry_150 : decode cX12_carry 150 = .ok (.aload_n 1, 1) := by decide +kernel
theorem dX12_carry_151 : decode cX12_carry 151 = .ok (.iconst 2, 1) := by decide +kernel
theorem dX12_carry_152 : decode cX12_carry 152 = .ok (.iaload, 1) := by decide +kernel
theorem dX12_carry_153 : decode cX12_carry 153 = .ok (.aaload, 1) := by decide +kernel
theorem dX12_carry_154 : decode cX12_carry 154 = .ok (.iconst 1, 1) := by decide +kernel
theorem dX12_carry_155 : decode cX12_carry 155 = .ok (.iaload, 1) := by decide +kernel
theorem dX12_carry_156 : decode cX12_carry 156 = .ok (.imul, 1) := by decide +kernel
theorem dX12_carry_157 : decode cX12_carry 157 = .ok (.bipush 100, 2) := by decide +kernel
theorem dX12_carry_159 : decode cX12_carry 159 = .ok (.idiv, 1) := by decide +kernel
theorem dX12_carry_160 : decode cX12_carry 160 = .ok (.isub, 1) := by decide +kernel
theorem dX12_carry_161 : decode cX12_carry 161 = .ok (.iastore, 1) := by decide +kernel
theorem dX12_carry_162 : decode cX12_carry 162 = .ok (.aload_n 3, 1) := by decide +kernel
theorem dX12_carry_163 : decode cX12_carry 163 = .ok (.iconst 5, 1) := by decide +kernel
theorem dX12_carry_164 : decode cX12_carry 164 = .ok (.aload_n 0, 1) := by decide +kernel
theorem dX12_carry_165 : decode cX12_carry 165 = .ok (.getfield 37, 3) := by decide +kernel
theorem dX12_carry_168 : decode cX12_carry 168 = .ok (.iastore, 1) := by decide +kernel
theorem dX12_carry_169 : decode cX12_carry 169 = .ok (.iconst 1, 1) := by decide +kernel
theorem dX12_carry_170 : decode cX12_carry 170 = .ok (.ireturn, 1) := by decide +kernel
theorem dX12_carry_171 : decode cX12_carry 171 = .ok (.aload_n 0, 1) := by decide +kernel
theorem dX12_carry_172 : decode cX12_carry 172 = .ok (.getfield 22, 3) := by decide +kernel
theorem dX12_carry_175 : decode cX12_carry 175 = .ok (.aload_n 1, 1) := by decide +kernel
theorem dX12_carry_176 : decode cX12_carry 176 = .ok (.iconst 2, 1) := by decide +kernel
theorem dX12_carry_177 : decode cX12_carry 177 = .ok (.iaload, 1) := by decide +kernel
theorem dX12_carry_178 : decode cX12_carry 178 = .ok (.aaload, 1) := by decide +kernel
theorem dX12_carry_179 : decode cX12_carry 179 = .ok (.astore 5, 2) := by decide +kernel
theorem dX12_carry_181 : decode cX12_carry 181 = .ok (.iload_n 2, 1) := by decide +kernel
theorem dX12_carry_182 : decode cX12_carry 182 = .ok (.aload 5, 2) := by decide +kernel
theorem dX12_carry_184 : decode cX12_carry 184 = .ok (.iconst 0, 1) := by decide +kernel
theorem dX12_carry_185 : decode cX12_carry 185 = .ok (.iaload, 1) := by decide +kernel
theorem dX12_carry_186 : decode cX12_carry 186 = .ok (.if_icmp .ge 7, 3) := by decide +kernel
theorem dX12_carry_189 : decode cX12_carry 189 = .ok (.iload_n 2, 1) := by decide +kernel
theorem dX12_carry_190 : decode cX12_carry 190 = .ok (.goto 7, 3) := by decide +kernel
theorem dX12_carry_193 : decode cX12_carry 193 = .ok (.aload 5, 2) := by decide +kernel
theorem dX12_carry_195 : decode cX12_carry 195 = .ok (.iconst 0, 1) := by decide +kernel
theorem dX12_carry_196 : decode cX12_carry 196 = .ok (.iaload, 1) := by decide +kernel
theorem dX12_carry_197 : decode cX12_carry 197 = .ok (.istore 6, 2) := by decide +kernel
theorem dX12_carry_199 : decode cX12_carry 199 = .ok (.aload 5, 2) := by decide +kernel
theorem dX12_carry_201 : decode cX12_carry 201 = .ok (.iconst 0, 1) := by decide +kernel
theorem dX12_carry_202 : decode cX12_carry 202 = .ok (.dup2, 1) := by decide +kernel
theorem dX12_carry_203 : decode cX12_carry 203 = .ok (.iaload, 1) := by decide +kernel
theorem dX12_carry_204 : decode cX12_carry 204 = .ok (.iload 6, 2) := by decide +kernel
theorem dX12_carry_206 : decode cX12_carry 206 = .ok (.isub, 1) := by decide +kernel
theorem dX12_carry_207 : decode cX12_carry 207 = .ok (.iastore, 1) := by decide +kernel
theorem dX12_carry_208 : decode cX12_carry 208 = .ok (.aload 4, 2) := by decide +kernel
theorem dX12_carry_210 : decode cX12_carry 210 = .ok (.iconst 0, 1) := by decide +kernel
theorem dX12_carry_211 : decode cX12_carry 211 = .ok (.dup2, 1) := by decide +kernel
theorem dX12_carry_212 : decode cX12_carry 212 = .ok (.iaload, 1) := by decide +kernel
theorem dX12_carry_213 : decode cX12_carry 213 = .ok (.iload 6, 2) := by decide +kernel
theorem dX12_carry_215 : decode cX12_carry 215 = .ok (.iadd, 1) := by decide +kernel
theorem dX12_carry_216 : decode cX12_carry 216 = .ok (.iastore, 1) := by decide +kernel
theorem dX12_carry_217 : decode cX12_carry 217 = .ok (.aload_n 0, 1) := by decide +kernel
theorem dX12_carry_218 : decode cX12_carry 218 = .ok (.getfield 25, 3) := by decide +kernel
theorem dX12_carry_221 : decode cX12_carry 221 = .ok (.aload_n 1, 1) := by decide +kernel
theorem dX12_carry_222 : decode cX12_carry 222 = .ok (.iconst 2, 1) := by decide +kernel
theorem dX12_carry_223 : decode cX12_carry 223 = .ok (.iaload, 1) := by decide +kernel
theorem dX12_carry_224 : decode cX12_carry 224 = .ok (.aaload, 1) := by decide +kernel
theorem dX12_carry_225 : decode cX12_carry 225 = .ok (.aload_n 3, 1) := by decide +kernel
theorem dX12_carry_226 : decode cX12_carry 226 = .ok (.iconst 2, 1) := by decide +kernel
theorem dX12_carry_227 : decode cX12_carry 227 = .ok (.iaload, 1) := by decide +kernel
theorem dX12_carry_228 : decode cX12_carry 228 = .ok (.dup2, 1) := by decide +kernel
theorem dX12_carry_229 : decode cX12_carry 229 = .ok (.iaload, 1) := by decide +kernel
theorem dX12_carry_230 : decode cX12_carry 230 = .ok (.iload_n 2, 1) := by decide +kernel
theorem dX12_carry_231 : decode cX12_carry 231 = .ok (.iload 6, 2) := by decide +kernel
theorem dX12_carry_233 : decode cX12_carry 233 = .ok (.isub, 1) := by decide +kernel
theorem dX12_carry_234 : decode cX12_carry 234 = .ok (.iadd, 1) := by decide +kernel
theorem dX12_carry_235 : decode cX12_carry 235 = .ok (.iastore, 1) := by decide +kernel
theorem dX12_carry_236 : decode cX12_carry 236 = .ok (.aload_n 3, 1) := by decide +kernel
theorem dX12_carry_237 : decode cX12_carry 237 = .ok (.iconst 2, 1) := by decide +kernel
theorem dX12_carry_238 : decode cX12_carry 238 = .ok (.aload_n 1, 1) := by decide +kernel
theorem dX12_carry_239 : decode cX12_carry 239 = .ok (.iconst 2, 1) := by decide +kernel
theorem dX12_carry_240 : decode cX12_carry 240 = .ok (.iaload, 1) := by decide +kernel
theorem dX12_carry_241 : decode cX12_carry 241 = .ok (.iastore, 1) := by decide +kernel
theorem dX12_carry_242 : decode cX12_carry 242 = .ok (.iconst 1, 1) := by decide +kernel
theorem dX12_carry_243 : decode cX12_carry 243 = .ok (.ireturn, 1) := by decide +kernel
theorem dX12_lose_0 : decode cX12_lose 0 = .ok (.aload_n 0, 1) := by decide +kernel
theorem dX12_lose_1 : decode cX12_lose 1 = .ok (.getfield 28, 3) := by decide +kernel
theorem dX12_lose_4 : decode cX12_lose 4 = .ok (.astore_n 1, 1) := by decide +kernel
theorem dX12_lose_5 : decode cX12_lose 5 = .ok (.aload_n 1, 1) := by decide +kernel
theorem dX12_lose_6 : decode cX12_lose 6 = .ok (.arraylength, 1) := by decide +kernel
theorem dX12_lose_7 : decode cX12_lose 7 = .ok (.istore_n 2, 1) := by decide +kernel
theorem dX12_lose_8 : decode cX12_lose 8 = .ok (.iconst 0, 1) := by decide +kernel
theorem dX12_lose_9 : decode cX12_lose 9 = .ok (.istore_n 3, 1) := by decide +kernel
theorem dX12_lose_10 : decode cX12_lose 10 = .ok (.iload_n 3, 1) := by decide +kernel
theorem dX12_lose_11 : decode cX12_lose 11 = .ok (.iload_n 2, 1) := by decide +kernel
theorem dX12_lose_12 : decode cX12_lose 12 = .ok (.if_icmp .ge 44, 3) := by decide +kernel
theorem dX12_lose_15 : decode cX12_lose 15 = .ok (.aload_n 1, 1) := by decide +kernel
theorem dX12_lose_16 : decode cX12_lose 16 = .ok (.iload_n 3, 1) := by decide +kernel
theorem dX12_lose_17 : decode cX12_lose 17 = .ok (.aaload, 1) := by decide +kernel
theorem dX12_lose_18 : decode cX12_lose 18 = .ok (.astore 4, 2) := by decide +kernel
theorem dX12_lose_20 : decode cX12_lose 20 = .ok (.aload 4, 2) := by decide +kernel
theorem dX12_lose_22 : decode cX12_lose 22 = .ok (.iconst 1, 1) := by decide +kernel
theorem dX12_lose_23 : decode cX12_lose 23 = .ok (.dup2, 1) := by decide +kernel
theorem dX12_lose_24 : decode cX12_lose 24 = .ok (.iaload, 1) := by decide +kernel
theorem dX12_lose_25 : decode cX12_lose 25 = .ok (.aload 4, 2) := by decide +kernel
theorem dX12_lose_27 : decode cX12_lose 27 = .ok (.iconst 1, 1) := by decide +kernel
theorem dX12_lose_28 : decode cX12_lose 28 = .ok (.iaload, 1) := by decide +kernel
theorem dX12_lose_29 : decode cX12_lose 29 = .ok (.aload_n 0, 1) := by decide +kernel
theorem dX12_lose_30 : decode cX12_lose 30 = .ok (.getfield 13, 3) := by decide +kernel
theorem dX12_lose_33 : decode cX12_lose 33 = .ok (.aload 4, 2) := by decide +kernel
theorem dX12_lose_35 : decode cX12_lose 35 = .ok (.iconst 0, 1) := by decide +kernel
theorem dX12_lose_36 : decode cX12_lose 36 = .ok (.iaload, 1) := by decide +kernel
theorem dX12_lose_37 : decode cX12_lose 37 = .ok (.iaload, 1) := by decide +kernel
theorem dX12_lose_38 : decode cX12_lose 38 = .ok (.imul, 1) := by decide +kernel
theorem dX12_lose_39 : decode cX12_lose 39 = .ok (.aload_n 0, 1) := by decide +kernel
theorem dX12_lose_40 : decode cX12_lose 40 = .ok (.getfield 7, 3) := by decide +kernel
theorem dX12_lose_43 : decode cX12_lose 43 = .ok (.imul, 1) := by decide +kernel
theorem dX12_lose_44 : decode cX12_lose 44 = .ok (.sipush 1000, 3) := by decide +kernel
theorem dX12_lose_47 : decode cX12_lose 47 = .ok (.idiv, 1) := by decide +kernel
theorem dX12_lose_48 : decode cX12_lose 48 = .ok (.isub, 1) := by decide +kernel
theorem dX12_lose_49 : decode cX12_lose 49 = .ok (.iastore, 1) := by decide +kernel
theorem dX12_lose_50 : decode cX12_lose 50 = .ok (.iinc 3 1, 3) := by decide +kernel
theorem dX12_lose_53 : decode cX12_lose 53 = .ok (.goto (-43), 3) := by decide +kernel
theorem dX12_lose_56 : decode cX12_lose 56 = .ok (.return_, 1) := by decide +kernel
theorem dX12_pass_0 : decode cX12_pass 0 = .ok (.aload_n 0, 1) := by decide +kernel
theorem dX12_pass_1 : decode cX12_pass 1 = .ok (.invokevirtual 68, 3) := by decide +kernel
theorem dX12_pass_4 : decode cX12_pass 4 = .ok (.iconst 0, 1) := by decide +kernel
theorem dX12_pass_5 : decode cX12_pass 5 = .ok (.istore_n 1, 1) := by decide +kernel
theorem dX12_pass_6 : decode cX12_pass 6 = .ok (.aload_n 0, 1) := by decide +kernel
theorem dX12_pass_7 : decode cX12_pass 7 = .ok (.getfield 31, 3) := by decide +kernel
theorem dX12_pass_10 : decode cX12_pass 10 = .ok (.astore_n 2, 1) := by decide +kernel
theorem dX12_pass_11 : decode cX12_pass 11 = .ok (.aload_n 2, 1) := by decide +kernel
theorem dX12_pass_12 : decode cX12_pass 12 = .ok (.arraylength, 1) := by decide +kernel
theorem dX12_pass_13 : decode cX12_pass 13 = .ok (.istore_n 3, 1) := by decide +kernel
theorem dX12_pass_14 : decode cX12_pass 14 = .ok (.iconst 0, 1) := by decide +kernel
theorem dX12_pass_15 : decode cX12_pass 15 = .ok (.istore 4, 2) := by decide +kernel
theorem dX12_pass_17 : decode cX12_pass 17 = .ok (.iload 4, 2) := by decide +kernel
theorem dX12_pass_19 : decode cX12_pass 19 = .ok (.iload_n 3, 1) := by decide +kernel
theorem dX12_pass_20 : decode cX12_pass 20 = .ok (.if_icmp .ge 27, 3) := by decide +kernel
theorem dX12_pass_23 : decode cX12_pass 23 = .ok (.aload_n 2, 1) := by decide +kernel
theorem dX12_pass_24 : decode cX12_pass 24 = .ok (.iload 4, 2) := by decide +kernel
theorem dX12_pass_26 : decode cX12_pass 26 = .ok (.aaload, 1) := by decide +kernel
theorem dX12_pass_27 : decode cX12_pass 27 = .ok (.astore 5, 2) := by decide +kernel
theorem dX12_pass_29 : decode cX12_pass 29 = .ok (.aload_n 0, 1) := by decide +kernel
theorem dX12_pass_30 : decode cX12_pass 30 = .ok (.aload 5, 2) := by decide +kernel
theorem dX12_pass_32 : decode cX12_pass 32 = .ok (.invokevirtual 71, 3) := by decide +kernel
theorem dX12_pass_35 : decode cX12_pass 35 = .ok (.ifCond .eq 6, 3) := by decide +kernel
theorem dX12_pass_38 : decode cX12_pass 38 = .ok (.iinc 1 1, 3) := by decide +kernel
theorem dX12_pass_41 : decode cX12_pass 41 = .ok (.iinc 4 1, 3) := by decide +kernel
theorem dX12_pass_44 : decode cX12_pass 44 = .ok (.goto (-27), 3) := by decide +kernel
theorem dX12_pass_47 : decode cX12_pass 47 = .ok (.aload_n 0, 1) := by decide +kernel
theorem dX12_pass_48 : decode cX12_pass 48 = .ok (.getfield 25, 3) := by decide +kernel
theorem dX12_pass_51 : decode cX12_pass 51 = .ok (.astore_n 2, 1) := by decide +kernel
theorem dX12_pass_52 : decode cX12_pass 52 = .ok (.aload_n 2, 1) := by decide +kernel
theorem dX12_pass_53 : decode cX12_pass 53 = .ok (.arraylength, 1) := by decide +kernel
theorem dX12_pass_54 : decode cX12_pass 54 = .ok (.istore_n 3, 1) := by decide +kernel
theorem dX12_pass_55 : decode cX12_pass 55 = .ok (.iconst 0, 1) := by decide +kernel
theorem dX12_pass_56 : decode cX12_pass 56 = .ok (.istore 4, 2) := by decide +kernel
theorem dX12_pass_58 : decode cX12_pass 58 = .ok (.iload 4, 2) := by decide +kernel
theorem dX12_pass_60 : decode cX12_pass 60 = .ok (.iload_n 3, 1) := by decide +kernel
theorem dX12_pass_61 : decode cX12_pass 61 = .ok (.if_icmp .ge 90, 3) := by decide +kernel
theorem dX12_pass_64 : decode cX12_pass 64 = .ok (.aload_n 2, 1) := by decide +kernel
theorem dX12_pass_65 : decode cX12_pass 65 = .ok (.iload 4, 2) := by decide +kernel
theorem dX12_pass_67 : decode cX12_pass 67 = .ok (.aaload, 1) := by decide +kernel
theorem dX12_pass_68 : decode cX12_pass 68 = .ok (.astore 5, 2) := by decide +kernel
theorem dX12_pass_70 : decode cX12_pass 70 = .ok (.iconst 0, 1) := by decide +kernel
theorem dX12_pass_71 : decode cX12_pass 71 = .ok (.istore 6, 2) := by decide +kernel
theorem dX12_pass_73 : decode cX12_pass 73 = .ok (.iload 6, 2) := by decide +kernel
theorem dX12_pass_75 : decode cX12_pass 75 = .ok (.aload 5, 2) := by decide +kernel
theorem dX12_pass_77 : decode cX12_pass 77 = .ok (.arraylength, 1) := by decide +kernel
theorem dX12_pass_78 : decode cX12_pass 78 = .ok (.if_icmp .ge 67, 3) := by decide +kernel
theorem dX12_pass_81 : decode cX12_pass 81 = .ok (.aload 5, 2) := by decide +kernel
theorem dX12_pass_83 : decode cX12_pass 83 = .ok (.iload 6, 2) := by decide +kernel
theorem dX12_pass_85 : decode cX12_pass 85 = .ok (.iaload, 1) := by decide +kernel
theorem dX12_pass_86 : decode cX12_pass 86 = .ok (.ifCond .eq 53, 3) := by decide +kernel
theorem dX12_pass_89 : decode cX12_pass 89 = .ok (.aload_n 0, 1) := by decide +kernel
theorem dX12_pass_90 : decode cX12_pass 90 = .ok (.getfield 37, 3) := by decide +kernel
theorem dX12_pass_93 : decode cX12_pass 93 = .ok (.bipush 7, 2) := by decide +kernel
theorem dX12_pass_95 : decode cX12_pass 95 = .ok (.irem, 1) := by decide +kernel
theorem dX12_pass_96 : decode cX12_pass 96 = .ok (.bipush 6, 2) := by decide +kernel
theorem dX12_pass_98 : decode cX12_pass 98 = .ok (.if_icmp .ge 6, 3) := by decide +kernel
theorem dX12_pass_101 : decode cX12_pass 101 = .ok (.goto 38, 3) := by decide +kernel
theorem dX12_pass_104 : decode cX12_pass 104 = .ok (.aload 5, 2) := by decide +kernel
theorem dX12_pass_106 : decode cX12_pass 106 = .ok (.iload 6, 2) := by decide +kernel
theorem dX12_pass_108 : decode cX12_pass 108 = .ok (.dup2, 1) := by decide +kernel
theorem dX12_pass_109 : decode cX12_pass 109 = .ok (.iaload, 1) := by decide +kernel
theorem dX12_pass_110 : decode cX12_pass 110 = .ok (.aload 5, 2) := by decide +kernel
theorem dX12_pass_112 : decode cX12_pass 112 = .ok (.iload 6, 2) := by decide +kernel
theorem dX12_pass_114 : decode cX12_pass 114 = .ok (.iaload, 1) := by decide +kernel
theorem dX12_pass_115 : decode cX12_pass 115 = .ok (.bipush 20, 2) := by decide +kernel
theorem dX12_pass_117 : decode cX12_pass 117 = .ok (.idiv, 1) := by decide +kernel
theorem dX12_pass_118 : decode cX12_pass 118 = .ok (.iconst 1, 1) := by decide +kernel
theorem dX12_pass_119 : decode cX12_pass 119 = .ok (.iadd, 1) := by decide +kernel
theorem dX12_pass_120 : decode cX12_pass 120 = .ok (.iadd, 1) := by decide +kernel
theorem dX12_pass_121 : decode cX12_pass 121 = .ok (.iastore, 1) := by decide +kernel
theorem dX12_pass_122 : decode cX12_pass 122 = .ok (.aload 5, 2) := by decide +kernel
theorem dX12_pass_124 : decode cX12_pass 124 = .ok (.iload 6, 2) := by decide +kernel
theorem dX12_pass_126 : decode cX12_pass 126 = .ok (.iaload, 1) := by decide +kernel
theorem dX12_pass_127 : decode cX12_pass 127 = .ok (.ldc 74, 2) := by decide +kernel
theorem dX12_pass_129 : decode cX12_pass 129 = .ok (.if_icmp .le 10, 3) := by decide +kernel
theorem dX12_pass_132 : decode cX12_pass 132 = .ok (.aload 5, 2) := by decide +kernel
theorem dX12_pass_134 : decode cX12_pass 134 = .ok (.iload 6, 2) := by decide +kernel
theorem dX12_pass_136 : decode cX12_pass 136 = .ok (.ldc 74, 2) := by decide +kernel
theorem dX12_pass_138 : decode cX12_pass 138 = .ok (.iastore, 1) := by decide +kernel
theorem dX12_pass_139 : decode cX12_pass 139 = .ok (.iinc 6 1, 3) := by decide +kernel
theorem dX12_pass_142 : decode cX12_pass 142 = .ok (.goto (-69), 3) := by decide +kernel
theorem dX12_pass_145 : decode cX12_pass 145 = .ok (.iinc 4 1, 3) := by decide +kernel
theorem dX12_pass_148 : decode cX12_pass 148 = .ok (.goto (-90), 3) := by decide +kernel
theorem dX12_pass_151 : decode cX12_pass 151 = .ok (.aload_n 0, 1) := by decide +kernel
theorem dX12_pass_152 : decode cX12_pass 152 = .ok (.dup, 1) := by decide +kernel
theorem dX12_pass_153 : decode cX12_pass 153 = .ok (.getfield 37, 3) := by decide +kernel
theorem dX12_pass_156 : decode cX12_pass 156 = .ok (.iconst 1, 1) := by decide +kernel
theorem dX12_pass_157 : decode cX12_pass 157 = .ok (.iadd, 1) := by decide +kernel
theorem dX12_pass_158 : decode cX12_pass 158 = .ok (.putfield 37, 3) := by decide +kernel
theorem dX12_pass_161 : decode cX12_pass 161 = .ok (.iload_n 1, 1) := by decide +kernel
theorem dX12_pass_162 : decode cX12_pass 162 = .ok (.ireturn, 1) := by decide +kernel
theorem dX12_weight_0 : decode cX12_weight 0 = .ok (.iconst 0, 1) := by decide +kernel
theorem dX12_weight_1 : decode cX12_weight 1 = .ok (.istore_n 1, 1) := by decide +kernel
theorem dX12_weight_2 : decode cX12_weight 2 = .ok (.aload_n 0, 1) := by decide +kernel
theorem dX12_weight_3 : decode cX12_weight 3 = .ok (.getfield 28, 3) := by decide +kernel
theorem dX12_weight_6 : decode cX12_weight 6 = .ok (.astore_n 2, 1) := by decide +kernel
theorem dX12_weight_7 : decode cX12_weight 7 = .ok (.aload_n 2, 1) := by decide +kernel
theorem dX12_weight_8 : decode cX12_weight 8 = .ok (.arraylength, 1) := by decide +kernel
theorem dX12_weight_9 : decode cX12_weight 9 = .ok (.istore_n 3, 1) := by decide +kernel
theorem dX12_weight_10 : decode cX12_weight 10 = .ok (.iconst 0, 1) := by decide +kernel
theorem dX12_weight_11 : decode cX12_weight 11 = .ok (.istore 4, 2) := by decide +kernel
theorem dX12_weight_13 : decode cX12_weight 13 = .ok (.iload 4, 2) := by decide +kernel
theorem dX12_weight_15 : decode cX12_weight 15 = .ok (.iload_n 3, 1) := by decide +kernel
theorem dX12_weight_16 : decode cX12_weight 16 = .ok (.if_icmp .ge 22, 3) := by decide +kernel
theorem dX12_weight_19 : decode cX12_weight 19 = .ok (.aload_n 2, 1) := by decide +kernel
theorem dX12_weight_20 : decode cX12_weight 20 = .ok (.iload 4, 2) := by decide +kernel
theorem dX12_weight_22 : decode cX12_weight 22 = .ok (.aaload, 1) := by decide +kernel
theorem dX12_weight_23 : decode cX12_weight 23 = .ok (.astore 5, 2) := by decide +kernel
theorem dX12_weight_25 : decode cX12_weight 25 = .ok (.iload_n 1, 1) := by decide +kernel
theorem dX12_weight_26 : decode cX12_weight 26 = .ok (.aload 5, 2) := by decide +kernel
theorem dX12_weight_28 : decode cX12_weight 28 = .ok (.iconst 1, 1) := by decide +kernel
theorem dX12_weight_29 : decode cX12_weight 29 = .ok (.iaload, 1) := by decide +kernel
theorem dX12_weight_30 : decode cX12_weight 30 = .ok (.iadd, 1) := by decide +kernel
theorem dX12_weight_31 : decode cX12_weight 31 = .ok (.istore_n 1, 1) := by decide +kernel
theorem dX12_weight_32 : decode cX12_weight 32 = .ok (.iinc 4 1, 3) := by decide +kernel
theorem dX12_weight_35 : decode cX12_weight 35 = .ok (.goto (-22), 3) := by decide +kernel
theorem dX12_weight_38 : decode cX12_weight 38 = .ok (.iload_n 1, 1) := by decide +kernel
theorem dX12_weight_39 : decode cX12_weight 39 = .ok (.ireturn, 1) := by decide +kernel
theorem dX12_chain_0 : decode cX12_chain 0 = .ok (.iload_n 1, 1) := by decide +kernel
theorem dX12_chain_1 : decode cX12_chain 1 = .ok (.iload_n 2, 1) := by decide +kernel
theorem dX12_chain_2 : decode cX12_chain 2 = .ok (.if_icmp .ne 5, 3) := by decide +kernel
theorem dX12_chain_5 : decode cX12_chain 5 = .ok (.iconst 0, 1) := by decide +kernel
theorem dX12_chain_6 : decode cX12_chain 6 = .ok (.ireturn, 1) := by decide +kernel
theorem dX12_chain_7 : decode cX12_chain 7 = .ok (.aload_n 0, 1) := by decide +kernel
theorem dX12_chain_8 : decode cX12_chain 8 = .ok (.getfield 22, 3) := by decide +kernel
theorem dX12_chain_11 : decode cX12_chain 11 = .ok (.arraylength, 1) := by decide +kernel
theorem dX12_chain_12 : decode cX12_chain 12 = .ok (.newarray .boolean, 2) := by decide +kernel
theorem dX12_chain_14 : decode cX12_chain 14 = .ok (.astore_n 3, 1) := by decide +kernel
theorem dX12_chain_15 : decode cX12_chain 15 = .ok (.aload_n 3, 1) := by decide +kernel
theorem dX12_chain_16 : decode cX12_chain 16 = .ok (.iload_n 1, 1) := by decide +kernel
theorem dX12_chain_17 : decode cX12_chain 17 = .ok (.iconst 1, 1) := by decide +kernel
theorem dX12_chain_18 : decode cX12_chain 18 = .ok (.bastore, 1) := by decide +kernel
theorem dX12_chain_19 : decode cX12_chain 19 = .ok (.iconst 1, 1) := by decide +kernel
theorem dX12_chain_20 : decode cX12_chain 20 = .ok (.istore 4, 2) := by decide +kernel
theorem dX12_chain_22 : decode cX12_chain 22 = .ok (.iload 4, 2) := by decide +kernel
theorem dX12_chain_24 : decode cX12_chain 24 = .ok (.aload_n 0, 1) := by decide +kernel
theorem dX12_chain_25 : decode cX12_chain 25 = .ok (.getfield 22, 3) := by decide +kernel
theorem dX12_chain_28 : decode cX12_chain 28 = .ok (.arraylength, 1) := by decide +kernel
theorem dX12_chain_29 : decode cX12_chain 29 = .ok (.if_icmp .ge 96, 3) := by decide +kernel
theorem dX12_chain_32 : decode cX12_chain 32 = .ok (.aload_n 3, 1) := by decide +kernel
theorem dX12_chain_33 : decode cX12_chain 33 = .ok (.invokevirtual 75, 3) := by decide +kernel
theorem dX12_chain_36 : decode cX12_chain 36 = .ok (.checkcast 76, 3) := by decide +kernel
theorem dX12_chain_39 : decode cX12_chain 39 = .ok (.astore 5, 2) := by decide +kernel
theorem dX12_chain_41 : decode cX12_chain 41 = .ok (.iconst 0, 1) := by decide +kernel
theorem dX12_chain_42 : decode cX12_chain 42 = .ok (.istore 6, 2) := by decide +kernel
theorem dX12_chain_44 : decode cX12_chain 44 = .ok (.iload 6, 2) := by decide +kernel
theorem dX12_chain_46 : decode cX12_chain 46 = .ok (.aload_n 3, 1) := by decide +kernel
theorem dX12_chain_47 : decode cX12_chain 47 = .ok (.arraylength, 1) := by decide +kernel
theorem dX12_chain_48 : decode cX12_chain 48 = .ok (.if_icmp .ge 58, 3) := by decide +kernel
theorem dX12_chain_51 : decode cX12_chain 51 = .ok (.iconst 0, 1) := by decide +kernel
theorem dX12_chain_52 : decode cX12_chain 52 = .ok (.istore 7, 2) := by decide +kernel
theorem dX12_chain_54 : decode cX12_chain 54 = .ok (.iload 7, 2) := by decide +kernel
theorem dX12_chain_56 : decode cX12_chain 56 = .ok (.aload_n 3, 1) := by decide +kernel
theorem dX12_chain_57 : decode cX12_chain 57 = .ok (.arraylength, 1) := by decide +kernel
theorem dX12_chain_58 : decode cX12_chain 58 = .ok (.if_icmp .ge 42, 3) := by decide +kernel
theorem dX12_chain_61 : decode cX12_chain 61 = .ok (.aload 5, 2) := by decide +kernel
theorem dX12_chain_63 : decode cX12_chain 63 = .ok (.iload 7, 2) := by decide +kernel
theorem dX12_chain_65 : decode cX12_chain 65 = .ok (.dup2, 1) := by decide +kernel
theorem dX12_chain_66 : decode cX12_chain 66 = .ok (.baload, 1) := by decide +kernel
theorem dX12_chain_67 : decode cX12_chain 67 = .ok (.aload_n 3, 1) := by decide +kernel
theorem dX12_chain_68 : decode cX12_chain 68 = .ok (.iload 6, 2) := by decide +kernel
theorem dX12_chain_70 : decode cX12_chain 70 = .ok (.baload, 1) := by decide +kernel
theorem dX12_chain_71 : decode cX12_chain 71 = .ok (.ifCond .eq 20, 3) := by decide +kernel
theorem dX12_chain_74 : decode cX12_chain 74 = .ok (.aload_n 0, 1) := by decide +kernel
theorem dX12_chain_75 : decode cX12_chain 75 = .ok (.getfield 25, 3) := by decide +kernel
theorem dX12_chain_78 : decode cX12_chain 78 = .ok (.iload 6, 2) := by decide +kernel
theorem dX12_chain_80 : decode cX12_chain 80 = .ok (.aaload, 1) := by decide +kernel
theorem dX12_chain_81 : decode cX12_chain 81 = .ok (.iload 7, 2) := by decide +kernel
theorem dX12_chain_83 : decode cX12_chain 83 = .ok (.iaload, 1) := by decide +kernel
theorem dX12_chain_84 : decode cX12_chain 84 = .ok (.ifCond .le 7, 3) := by decide +kernel
theorem dX12_chain_87 : decode cX12_chain 87 = .ok (.iconst 1, 1) := by decide +kernel
theorem dX12_chain_88 : decode cX12_chain 88 = .ok (.goto 4, 3) := by decide +kernel
theorem dX12_chain_91 : decode cX12_chain 91 = .ok (.iconst 0, 1) := by decide +kernel
theorem dX12_chain_92 : decode cX12_chain 92 = .ok (.ior, 1) := by decide +kernel
theorem dX12_chain_93 : decode cX12_chain 93 = .ok (.bastore, 1) := by decide +kernel
theorem dX12_chain_94 : decode cX12_chain 94 = .ok (.iinc 7 1, 3) := by decide +kernel
theorem dX12_chain_97 : decode cX12_chain 97 = .ok (.goto (-43), 3) := by decide +kernel
theorem dX12_chain_100 : decode cX12_chain 100 = .ok (.iinc 6 1, 3) := by decide +kernel
theorem dX12_chain_103 : decode cX12_chain 103 = .ok (.goto (-59), 3) := by decide +kernel
theorem dX12_chain_106 : decode cX12_chain 106 = .ok (.aload 5, 2) := by decide +kernel
theorem dX12_chain_108 : decode cX12_chain 108 = .ok (.iload_n 2, 1) := by decide +kernel
theorem dX12_chain_109 : decode cX12_chain 109 = .ok (.baload, 1) := by decide +kernel
theorem dX12_chain_110 : decode cX12_chain 110 = .ok (.ifCond .eq 6, 3) := by decide +kernel
theorem dX12_chain_113 : decode cX12_chain 113 = .ok (.iload 4, 2) := by decide +kernel
theorem dX12_chain_115 : decode cX12_chain 115 = .ok (.ireturn, 1) := by decide +kernel
theorem dX12_chain_116 : decode cX12_chain 116 = .ok (.aload 5, 2) := by decide +kernel
theorem dX12_chain_118 : decode cX12_chain 118 = .ok (.astore_n 3, 1) := by decide +kernel
theorem dX12_chain_119 : decode cX12_chain 119 = .ok (.iinc 4 1, 3) := by decide +kernel
theorem dX12_chain_122 : decode cX12_chain 122 = .ok (.goto (-100), 3) := by decide +kernel
theorem dX12_chain_125 : decode cX12_chain 125 = .ok (.iconst (-1), 1) := by decide +kernel
theorem dX12_chain_126 : decode cX12_chain 126 = .ok (.ireturn, 1) := by decide +kernel
theorem dX12_back_0 : decode cX12_back 0 = .ok (.iconst 0, 1) := by decide +kernel
theorem dX12_back_1 : decode cX12_back 1 = .ok (.istore 5, 2) := by decide +kernel
theorem dX12_back_3 : decode cX12_back 3 = .ok (.iconst 0, 1) := by decide +kernel
theorem dX12_back_4 : decode cX12_back 4 = .ok (.istore 6, 2) := by decide +kernel
theorem dX12_back_6 : decode cX12_back 6 = .ok (.iload 6, 2) := by decide +kernel
theorem dX12_back_8 : decode cX12_back 8 = .ok (.aload_n 0, 1) := by decide +kernel
theorem dX12_back_9 : decode cX12_back 9 = .ok (.getfield 22, 3) := by decide +kernel
theorem dX12_back_12 : decode cX12_back 12 = .ok (.arraylength, 1) := by decide +kernel
theorem dX12_back_13 : decode cX12_back 13 = .ok (.if_icmp .ge 94, 3) := by decide +kernel
theorem dX12_back_16 : decode cX12_back 16 = .ok (.iload_n 3, 1) := by decide +kernel
theorem dX12_back_17 : decode cX12_back 17 = .ok (.aload_n 0, 1) := by decide +kernel
theorem dX12_back_18 : decode cX12_back 18 = .ok (.getfield 25, 3) := by decide +kernel
theorem dX12_back_21 : decode cX12_back 21 = .ok (.iload_n 2, 1) := by decide +kernel
theorem dX12_back_22 : decode cX12_back 22 = .ok (.aaload, 1) := by decide +kernel
theorem dX12_back_23 : decode cX12_back 23 = .ok (.iload 6, 2) := by decide +kernel
theorem dX12_back_25 : decode cX12_back 25 = .ok (.iaload, 1) := by decide +kernel
theorem dX12_back_26 : decode cX12_back 26 = .ok (.invokestatic 40, 3) := by decide +kernel
theorem dX12_back_29 : decode cX12_back 29 = .ok (.istore 7, 2) := by decide +kernel
theorem dX12_back_31 : decode cX12_back 31 = .ok (.iload 7, 2) := by decide +kernel
theorem dX12_back_33 : decode cX12_back 33 = .ok (.ifCond .eq 68, 3) := by decide +kernel
theorem dX12_back_36 : decode cX12_back 36 = .ok (.iload 6, 2) := by decide +kernel
theorem dX12_back_38 : decode cX12_back 38 = .ok (.iload_n 1, 1) := by decide +kernel
theorem dX12_back_39 : decode cX12_back 39 = .ok (.if_icmp .eq 14, 3) := by decide +kernel
theorem dX12_back_42 : decode cX12_back 42 = .ok (.aload 4, 2) := by decide +kernel
theorem dX12_back_44 : decode cX12_back 44 = .ok (.iload 6, 2) := by decide +kernel
theorem dX12_back_46 : decode cX12_back 46 = .ok (.baload, 1) := by decide +kernel
theorem dX12_back_47 : decode cX12_back 47 = .ok (.ifCond .eq 6, 3) := by decide +kernel
theorem dX12_back_50 : decode cX12_back 50 = .ok (.goto 51, 3) := by decide +kernel
theorem dX12_back_53 : decode cX12_back 53 = .ok (.iload 6, 2) := by decide +kernel
theorem dX12_back_55 : decode cX12_back 55 = .ok (.iload_n 1, 1) := by decide +kernel
theorem dX12_back_56 : decode cX12_back 56 = .ok (.if_icmp .ne 15, 3) := by decide +kernel
theorem dX12_back_59 : decode cX12_back 59 = .ok (.iload 5, 2) := by decide +kernel
theorem dX12_back_61 : decode cX12_back 61 = .ok (.iload 7, 2) := by decide +kernel
theorem dX12_back_63 : decode cX12_back 63 = .ok (.invokestatic 46, 3) := by decide +kernel
theorem dX12_back_66 : decode cX12_back 66 = .ok (.istore 5, 2) := by decide +kernel
theorem dX12_back_68 : decode cX12_back 68 = .ok (.goto 33, 3) := by decide +kernel
theorem dX12_back_71 : decode cX12_back 71 = .ok (.aload 4, 2) := by decide +kernel
theorem dX12_back_73 : decode cX12_back 73 = .ok (.iload 6, 2) := by decide +kernel
theorem dX12_back_75 : decode cX12_back 75 = .ok (.iconst 1, 1) := by decide +kernel
theorem dX12_back_76 : decode cX12_back 76 = .ok (.bastore, 1) := by decide +kernel
theorem dX12_back_77 : decode cX12_back 77 = .ok (.iload 5, 2) := by decide +kernel
theorem dX12_back_79 : decode cX12_back 79 = .ok (.aload_n 0, 1) := by decide +kernel
theorem dX12_back_80 : decode cX12_back 80 = .ok (.iload_n 1, 1) := by decide +kernel
theorem dX12_back_81 : decode cX12_back 81 = .ok (.iload 6, 2) := by decide +kernel
theorem dX12_back_83 : decode cX12_back 83 = .ok (.iload 7, 2) := by decide +kernel
theorem dX12_back_85 : decode cX12_back 85 = .ok (.aload 4, 2) := by decide +kernel
theorem dX12_back_87 : decode cX12_back 87 = .ok (.invokevirtual 81, 3) := by decide +kernel
theorem dX12_back_90 : decode cX12_back 90 = .ok (.invokestatic 46, 3) := by decide +kernel
theorem dX12_back_93 : decode cX12_back 93 = .ok (.istore 5, 2) := by decide +kernel
theorem dX12_back_95 : decode cX12_back 95 = .ok (.aload 4, 2) := by decide +kernel
theorem dX12_back_97 : decode cX12_back 97 = .ok (.iload 6, 2) := by decide +kernel
theorem dX12_back_99 : decode cX12_back 99 = .ok (.iconst 0, 1) := by decide +kernel
theorem dX12_back_100 : decode cX12_back 100 = .ok (.bastore, 1) := by decide +kernel
theorem dX12_back_101 : decode cX12_back 101 = .ok (.iinc 6 1, 3) := by decide +kernel
theorem dX12_back_104 : decode cX12_back 104 = .ok (.goto (-98), 3) := by decide +kernel
theorem dX12_back_107 : decode cX12_back 107 = .ok (.iload 5, 2) := by decide +kernel
theorem dX12_back_109 : decode cX12_back 109 = .ok (.ireturn, 1) := by decide +kernel
theorem dX12_ring_0 : decode cX12_ring 0 = .ok (.aload_n 0, 1) := by decide +kernel
theorem dX12_ring_1 : decode cX12_ring 1 = .ok (.getfield 22, 3) := by decide +kernel
theorem dX12_ring_4 : decode cX12_ring 4 = .ok (.arraylength, 1) := by decide +kernel
theorem dX12_ring_5 : decode cX12_ring 5 = .ok (.newarray .boolean, 2) := by decide +kernel
theorem dX12_ring_7 : decode cX12_ring 7 = .ok (.astore_n 2, 1) := by decide +kernel
theorem dX12_ring_8 : decode cX12_ring 8 = .ok (.aload_n 2, 1) := by decide +kernel
theorem dX12_ring_9 : decode cX12_ring 9 = .ok (.iload_n 1, 1) := by decide +kernel
theorem dX12_ring_10 : decode cX12_ring 10 = .ok (.iconst 1, 1) := by decide +kernel
theorem dX12_ring_11 : decode cX12_ring 11 = .ok (.bastore, 1) := by decide +kernel
theorem dX12_ring_12 : decode cX12_ring 12 = .ok (.aload_n 0, 1) := by decide +kernel
theorem dX12_ring_13 : decode cX12_ring 13 = .ok (.iload_n 1, 1) := by decide +kernel
theorem dX12_ring_14 : decode cX12_ring 14 = .ok (.iload_n 1, 1) := by decide +kernel
theorem dX12_ring_15 : decode cX12_ring 15 = .ok (.ldc 87, 2) := by decide +kernel
theorem dX12_ring_17 : decode cX12_ring 17 = .ok (.aload_n 2, 1) := by decide +kernel
theorem dX12_ring_18 : decode cX12_ring 18 = .ok (.invokevirtual 81, 3) := by decide +kernel
theorem dX12_ring_21 : decode cX12_ring 21 = .ok (.ireturn, 1) := by decide +kernel
theorem dX12_counts_0 : decode cX12_counts 0 = .ok (.bipush 14, 2) := by decide +kernel
theorem dX12_counts_2 : decode cX12_counts 2 = .ok (.newarray .int, 2) := by decide +kernel
theorem dX12_counts_4 : decode cX12_counts 4 = .ok (.dup, 1) := by decide +kernel
theorem dX12_counts_5 : decode cX12_counts 5 = .ok (.iconst 0, 1) := by decide +kernel
theorem dX12_counts_6 : decode cX12_counts 6 = .ok (.aload_n 0, 1) := by decide +kernel
theorem dX12_counts_7 : decode cX12_counts 7 = .ok (.getfield 37, 3) := by decide +kernel
theorem dX12_counts_10 : decode cX12_counts 10 = .ok (.iastore, 1) := by decide +kernel
theorem dX12_counts_11 : decode cX12_counts 11 = .ok (.dup, 1) := by decide +kernel
theorem dX12_counts_12 : decode cX12_counts 12 = .ok (.iconst 1, 1) := by decide +kernel
theorem dX12_counts_13 : decode cX12_counts 13 = .ok (.aload_n 0, 1) := by decide +kernel
theorem dX12_counts_14 : decode cX12_counts 14 = .ok (.getfield 7, 3) := by decide +kernel
theorem dX12_counts_17 : decode cX12_counts 17 = .ok (.iastore, 1) := by decide +kernel
theorem dX12_counts_18 : decode cX12_counts 18 = .ok (.dup, 1) := by decide +kernel
theorem dX12_counts_19 : decode cX12_counts 19 = .ok (.iconst 2, 1) := by decide +kernel
theorem dX12_counts_20 : decode cX12_counts 20 = .ok (.aload_n 0, 1) := by decide +kernel
theorem dX12_counts_21 : decode cX12_counts 21 = .ok (.getfield 13, 3) := by decide +kernel
theorem dX12_counts_24 : decode cX12_counts 24 = .ok (.arraylength, 1) := by decide +kernel
theorem dX12_counts_25 : decode cX12_counts 25 = .ok (.iastore, 1) := by decide +kernel
theorem dX12_counts_26 : decode cX12_counts 26 = .ok (.dup, 1) := by decide +kernel
theorem dX12_counts_27 : decode cX12_counts 27 = .ok (.iconst 3, 1) := by decide +kernel
theorem dX12_counts_28 : decode cX12_counts 28 = .ok (.aload_n 0, 1) := by decide +kernel
theorem dX12_counts_29 : decode cX12_counts 29 = .ok (.getfield 18, 3) := by decide +kernel
theorem dX12_counts_32 : decode cX12_counts 32 = .ok (.arraylength, 1) := by decide +kernel
theorem dX12_counts_33 : decode cX12_counts 33 = .ok (.iastore, 1) := by decide +kernel
theorem dX12_counts_34 : decode cX12_counts 34 = .ok (.dup, 1) := by decide +kernel
theorem dX12_counts_35 : decode cX12_counts 35 = .ok (.iconst 4, 1) := by decide +kernel
theorem dX12_counts_36 : decode cX12_counts 36 = .ok (.aload_n 0, 1) := by decide +kernel
theorem dX12_counts_37 : decode cX12_counts 37 = .ok (.getfield 22, 3) := by decide +kernel
theorem dX12_counts_40 : decode cX12_counts 40 = .ok (.arraylength, 1) := by decide +kernel
theorem dX12_counts_41 : decode cX12_counts 41 = .ok (.iastore, 1) := by decide +kernel
theorem dX12_counts_42 : decode cX12_counts 42 = .ok (.dup, 1) := by decide +kernel
theorem dX12_counts_43 : decode cX12_counts 43 = .ok (.iconst 5, 1) := by decide +kernel
theorem dX12_counts_44 : decode cX12_counts 44 = .ok (.aload_n 0, 1) := by decide +kernel
theorem dX12_counts_45 : decode cX12_counts 45 = .ok (.getfield 28, 3) := by decide +kernel
theorem dX12_counts_48 : decode cX12_counts 48 = .ok (.arraylength, 1) := by decide +kernel
theorem dX12_counts_49 : decode cX12_counts 49 = .ok (.iastore, 1) := by decide +kernel
theorem dX12_counts_50 : decode cX12_counts 50 = .ok (.dup, 1) := by decide +kernel
theorem dX12_counts_51 : decode cX12_counts 51 = .ok (.bipush 6, 2) := by decide +kernel
theorem dX12_counts_53 : decode cX12_counts 53 = .ok (.aload_n 0, 1) := by decide +kernel
theorem dX12_counts_54 : decode cX12_counts 54 = .ok (.getfield 31, 3) := by decide +kernel
theorem dX12_counts_57 : decode cX12_counts 57 = .ok (.arraylength, 1) := by decide +kernel
theorem dX12_counts_58 : decode cX12_counts 58 = .ok (.iastore, 1) := by decide +kernel
theorem dX12_counts_59 : decode cX12_counts 59 = .ok (.dup, 1) := by decide +kernel
theorem dX12_counts_60 : decode cX12_counts 60 = .ok (.bipush 7, 2) := by decide +kernel
theorem dX12_counts_62 : decode cX12_counts 62 = .ok (.aload_n 0, 1) := by decide +kernel
theorem dX12_counts_63 : decode cX12_counts 63 = .ok (.invokevirtual 88, 3) := by decide +kernel
theorem dX12_counts_66 : decode cX12_counts 66 = .ok (.iastore, 1) := by decide +kernel
theorem dX12_counts_67 : decode cX12_counts 67 = .ok (.dup, 1) := by decide +kernel
theorem dX12_counts_68 : decode cX12_counts 68 = .ok (.bipush 8, 2) := by decide +kernel
theorem dX12_counts_70 : decode cX12_counts 70 = .ok (.iconst 0, 1) := by decide +kernel
theorem dX12_counts_71 : decode cX12_counts 71 = .ok (.iastore, 1) := by decide +kernel
theorem dX12_counts_72 : decode cX12_counts 72 = .ok (.dup, 1) := by decide +kernel
theorem dX12_counts_73 : decode cX12_counts 73 = .ok (.bipush 9, 2) := by decide +kernel
theorem dX12_counts_75 : decode cX12_counts 75 = .ok (.iconst 0, 1) := by decide +kernel
theorem dX12_counts_76 : decode cX12_counts 76 = .ok (.iastore, 1) := by decide +kernel
theorem dX12_counts_77 : decode cX12_counts 77 = .ok (.dup, 1) := by decide +kernel
theorem dX12_counts_78 : decode cX12_counts 78 = .ok (.bipush 10, 2) := by decide +kernel
theorem dX12_counts_80 : decode cX12_counts 80 = .ok (.aload_n 0, 1) := by decide +kernel
theorem dX12_counts_81 : decode cX12_counts 81 = .ok (.getfield 34, 3) := by decide +kernel
theorem dX12_counts_84 : decode cX12_counts 84 = .ok (.iconst 1, 1) := by decide +kernel
theorem dX12_counts_85 : decode cX12_counts 85 = .ok (.iaload, 1) := by decide +kernel
theorem dX12_counts_86 : decode cX12_counts 86 = .ok (.iastore, 1) := by decide +kernel
theorem dX12_counts_87 : decode cX12_counts 87 = .ok (.dup, 1) := by decide +kernel
theorem dX12_counts_88 : decode cX12_counts 88 = .ok (.bipush 11, 2) := by decide +kernel
theorem dX12_counts_90 : decode cX12_counts 90 = .ok (.aload_n 0, 1) := by decide +kernel
theorem dX12_counts_91 : decode cX12_counts 91 = .ok (.getfield 34, 3) := by decide +kernel
theorem dX12_counts_94 : decode cX12_counts 94 = .ok (.iconst 0, 1) := by decide +kernel
theorem dX12_counts_95 : decode cX12_counts 95 = .ok (.iaload, 1) := by decide +kernel
theorem dX12_counts_96 : decode cX12_counts 96 = .ok (.iastore, 1) := by decide +kernel
theorem dX12_counts_97 : decode cX12_counts 97 = .ok (.dup, 1) := by decide +kernel
theorem dX12_counts_98 : decode cX12_counts 98 = .ok (.bipush 12, 2) := by decide +kernel
theorem dX12_counts_100 : decode cX12_counts 100 = .ok (.aload_n 0, 1) := by decide +kernel
theorem dX12_counts_101 : decode cX12_counts 101 = .ok (.getfield 34, 3) := by decide +kernel
theorem dX12_counts_104 : decode cX12_counts 104 = .ok (.iconst 2, 1) := by decide +kernel
theorem dX12_counts_105 : decode cX12_counts 105 = .ok (.iaload, 1) := by decide +kernel
theorem dX12_counts_106 : decode cX12_counts 106 = .ok (.iastore, 1) := by decide +kernel
theorem dX12_counts_107 : decode cX12_counts 107 = .ok (.dup, 1) := by decide +kernel
theorem dX12_counts_108 : decode cX12_counts 108 = .ok (.bipush 13, 2) := by decide +kernel
theorem dX12_counts_110 : decode cX12_counts 110 = .ok (.iconst 0, 1) := by decide +kernel
theorem dX12_counts_111 : decode cX12_counts 111 = .ok (.iastore, 1) := by decide +kernel
theorem dX12_counts_112 : decode cX12_counts 112 = .ok (.astore_n 1, 1) := by decide +kernel
theorem dX12_counts_113 : decode cX12_counts 113 = .ok (.iconst 0, 1) := by decide +kernel
theorem dX12_counts_114 : decode cX12_counts 114 = .ok (.istore_n 2, 1) := by decide +kernel
theorem dX12_counts_115 : decode cX12_counts 115 = .ok (.iload_n 2, 1) := by decide +kernel
theorem dX12_counts_116 : decode cX12_counts 116 = .ok (.aload_n 0, 1) := by decide +kernel
theorem dX12_counts_117 : decode cX12_counts 117 = .ok (.getfield 22, 3) := by decide +kernel
theorem dX12_counts_120 : decode cX12_counts 120 = .ok (.arraylength, 1) := by decide +kernel
theorem dX12_counts_121 : decode cX12_counts 121 = .ok (.if_icmp .ge 36, 3) := by decide +kernel
theorem dX12_counts_124 : decode cX12_counts 124 = .ok (.aload_n 1, 1) := by decide +kernel
theorem dX12_counts_125 : decode cX12_counts 125 = .ok (.bipush 8, 2) := by decide +kernel
theorem dX12_counts_127 : decode cX12_counts 127 = .ok (.dup2, 1) := by decide +kernel
theorem dX12_counts_128 : decode cX12_counts 128 = .ok (.iaload, 1) := by decide +kernel
theorem dX12_counts_129 : decode cX12_counts 129 = .ok (.aload_n 0, 1) := by decide +kernel
theorem dX12_counts_130 : decode cX12_counts 130 = .ok (.iload_n 2, 1) := by decide +kernel
theorem dX12_counts_131 : decode cX12_counts 131 = .ok (.invokevirtual 49, 3) := by decide +kernel
theorem dX12_counts_134 : decode cX12_counts 134 = .ok (.iadd, 1) := by decide +kernel
theorem dX12_counts_135 : decode cX12_counts 135 = .ok (.iastore, 1) := by decide +kernel
theorem dX12_counts_136 : decode cX12_counts 136 = .ok (.aload_n 1, 1) := by decide +kernel
theorem dX12_counts_137 : decode cX12_counts 137 = .ok (.bipush 9, 2) := by decide +kernel
theorem dX12_counts_139 : decode cX12_counts 139 = .ok (.dup2, 1) := by decide +kernel
theorem dX12_counts_140 : decode cX12_counts 140 = .ok (.iaload, 1) := by decide +kernel
theorem dX12_counts_141 : decode cX12_counts 141 = .ok (.aload_n 0, 1) := by decide +kernel
theorem dX12_counts_142 : decode cX12_counts 142 = .ok (.getfield 22, 3) := by decide +kernel
theorem dX12_counts_145 : decode cX12_counts 145 = .ok (.iload_n 2, 1) := by decide +kernel
theorem dX12_counts_146 : decode cX12_counts 146 = .ok (.aaload, 1) := by decide +kernel
theorem dX12_counts_147 : decode cX12_counts 147 = .ok (.iconst 0, 1) := by decide +kernel
theorem dX12_counts_148 : decode cX12_counts 148 = .ok (.iaload, 1) := by decide +kernel
theorem dX12_counts_149 : decode cX12_counts 149 = .ok (.iadd, 1) := by decide +kernel
theorem dX12_counts_150 : decode cX12_counts 150 = .ok (.iastore, 1) := by decide +kernel
theorem dX12_counts_151 : decode cX12_counts 151 = .ok (.iinc 2 1, 3) := by decide +kernel
theorem dX12_counts_154 : decode cX12_counts 154 = .ok (.goto (-39), 3) := by decide +kernel
theorem dX12_counts_157 : decode cX12_counts 157 = .ok (.aload_n 1, 1) := by decide +kernel
theorem dX12_counts_158 : decode cX12_counts 158 = .ok (.areturn, 1) := by decide +kernel
theorem dX12_isSame_0 : decode cX12_isSame 0 = .ok (.aload_n 0, 1) := by decide +kernel
theorem dX12_isSame_1 : decode cX12_isSame 1 = .ok (.getfield 18, 3) := by decide +kernel
theorem dX12_isSame_4 : decode cX12_isSame 4 = .ok (.arraylength, 1) := by decide +kernel
theorem dX12_isSame_5 : decode cX12_isSame 5 = .ok (.newarray .int, 2) := by decide +kernel
theorem dX12_isSame_7 : decode cX12_isSame 7 = .ok (.astore_n 2, 1) := by decide +kernel
theorem dX12_isSame_8 : decode cX12_isSame 8 = .ok (.iconst 0, 1) := by decide +kernel
theorem dX12_isSame_9 : decode cX12_isSame 9 = .ok (.istore_n 3, 1) := by decide +kernel
theorem dX12_isSame_10 : decode cX12_isSame 10 = .ok (.iload_n 3, 1) := by decide +kernel
theorem dX12_isSame_11 : decode cX12_isSame 11 = .ok (.aload_n 0, 1) := by decide +kernel
theorem dX12_isSame_12 : decode cX12_isSame 12 = .ok (.getfield 28, 3) := by decide +kernel
theorem dX12_isSame_15 : decode cX12_isSame 15 = .ok (.arraylength, 1) := by decide +kernel
theorem dX12_isSame_16 : decode cX12_isSame 16 = .ok (.if_icmp .ge 154, 3) := by decide +kernel
theorem dX12_isSame_19 : decode cX12_isSame 19 = .ok (.aload_n 0, 1) := by decide +kernel
theorem dX12_isSame_20 : decode cX12_isSame 20 = .ok (.getfield 28, 3) := by decide +kernel
theorem dX12_isSame_23 : decode cX12_isSame 23 = .ok (.iload_n 3, 1) := by decide +kernel
theorem dX12_isSame_24 : decode cX12_isSame 24 = .ok (.aaload, 1) := by decide +kernel
theorem dX12_isSame_25 : decode cX12_isSame 25 = .ok (.astore 4, 2) := by decide +kernel
theorem dX12_isSame_27 : decode cX12_isSame 27 = .ok (.bipush 7, 2) := by decide +kernel
theorem dX12_isSame_29 : decode cX12_isSame 29 = .ok (.newarray .int, 2) := by decide +kernel
theorem dX12_isSame_31 : decode cX12_isSame 31 = .ok (.dup, 1) := by decide +kernel
theorem dX12_isSame_32 : decode cX12_isSame 32 = .ok (.iconst 0, 1) := by decide +kernel
theorem dX12_isSame_33 : decode cX12_isSame 33 = .ok (.aload 4, 2) := by decide +kernel
theorem dX12_isSame_35 : decode cX12_isSame 35 = .ok (.iconst 0, 1) := by decide +kernel
theorem dX12_isSame_36 : decode cX12_isSame 36 = .ok (.iaload, 1) := by decide +kernel
theorem dX12_isSame_37 : decode cX12_isSame 37 = .ok (.iastore, 1) := by decide +kernel
theorem dX12_isSame_38 : decode cX12_isSame 38 = .ok (.dup, 1) := by decide +kernel
theorem dX12_isSame_39 : decode cX12_isSame 39 = .ok (.iconst 1, 1) := by decide +kernel
theorem dX12_isSame_40 : decode cX12_isSame 40 = .ok (.aload 4, 2) := by decide +kernel
theorem dX12_isSame_42 : decode cX12_isSame 42 = .ok (.iconst 1, 1) := by decide +kernel
theorem dX12_isSame_43 : decode cX12_isSame 43 = .ok (.iaload, 1) := by decide +kernel
theorem dX12_isSame_44 : decode cX12_isSame 44 = .ok (.iastore, 1) := by decide +kernel
theorem dX12_isSame_45 : decode cX12_isSame 45 = .ok (.dup, 1) := by decide +kernel
theorem dX12_isSame_46 : decode cX12_isSame 46 = .ok (.iconst 2, 1) := by decide +kernel
theorem dX12_isSame_47 : decode cX12_isSame 47 = .ok (.aload 4, 2) := by decide +kernel
theorem dX12_isSame_49 : decode cX12_isSame 49 = .ok (.iconst 2, 1) := by decide +kernel
theorem dX12_isSame_50 : decode cX12_isSame 50 = .ok (.iaload, 1) := by decide +kernel
theorem dX12_isSame_51 : decode cX12_isSame 51 = .ok (.iastore, 1) := by decide +kernel
theorem dX12_isSame_52 : decode cX12_isSame 52 = .ok (.dup, 1) := by decide +kernel
theorem dX12_isSame_53 : decode cX12_isSame 53 = .ok (.iconst 3, 1) := by decide +kernel
theorem dX12_isSame_54 : decode cX12_isSame 54 = .ok (.aload 4, 2) := by decide +kernel
theorem dX12_isSame_56 : decode cX12_isSame 56 = .ok (.iconst 3, 1) := by decide +kernel
theorem dX12_isSame_57 : decode cX12_isSame 57 = .ok (.iaload, 1) := by decide +kernel
theorem dX12_isSame_58 : decode cX12_isSame 58 = .ok (.iastore, 1) := by decide +kernel
theorem dX12_isSame_59 : decode cX12_isSame 59 = .ok (.dup, 1) := by decide +kernel
theorem dX12_isSame_60 : decode cX12_isSame 60 = .ok (.iconst 4, 1) := by decide +kernel
theorem dX12_isSame_61 : decode cX12_isSame 61 = .ok (.aload 4, 2) := by decide +kernel
theorem dX12_isSame_63 : decode cX12_isSame 63 = .ok (.iconst 3, 1) := by decide +kernel
theorem dX12_isSame_64 : decode cX12_isSame 64 = .ok (.iaload, 1) := by decide +kernel
theorem dX12_isSame_65 : decode cX12_isSame 65 = .ok (.ifCond .ge 7, 3) := by decide +kernel
theorem dX12_isSame_68 : decode cX12_isSame 68 = .ok (.iconst 0, 1) := by decide +kernel
theorem dX12_isSame_69 : decode cX12_isSame 69 = .ok (.goto 7, 3) := by decide +kernel
theorem dX12_isSame_72 : decode cX12_isSame 72 = .ok (.aload 4, 2) := by decide +kernel
theorem dX12_isSame_74 : decode cX12_isSame 74 = .ok (.iconst 4, 1) := by decide +kernel
theorem dX12_isSame_75 : decode cX12_isSame 75 = .ok (.iaload, 1) := by decide +kernel
theorem dX12_isSame_76 : decode cX12_isSame 76 = .ok (.iastore, 1) := by decide +kernel
theorem dX12_isSame_77 : decode cX12_isSame 77 = .ok (.dup, 1) := by decide +kernel
theorem dX12_isSame_78 : decode cX12_isSame 78 = .ok (.iconst 5, 1) := by decide +kernel
theorem dX12_isSame_79 : decode cX12_isSame 79 = .ok (.aload_n 0, 1) := by decide +kernel
theorem dX12_isSame_80 : decode cX12_isSame 80 = .ok (.aload 4, 2) := by decide +kernel
theorem dX12_isSame_82 : decode cX12_isSame 82 = .ok (.invokevirtual 53, 3) := by decide +kernel
theorem dX12_isSame_85 : decode cX12_isSame 85 = .ok (.iastore, 1) := by decide +kernel
theorem dX12_isSame_86 : decode cX12_isSame 86 = .ok (.dup, 1) := by decide +kernel
theorem dX12_isSame_87 : decode cX12_isSame 87 = .ok (.bipush 6, 2) := by decide +kernel
theorem dX12_isSame_89 : decode cX12_isSame 89 = .ok (.aload 4, 2) := by decide +kernel
theorem dX12_isSame_91 : decode cX12_isSame 91 = .ok (.iconst 3, 1) := by decide +kernel
theorem dX12_isSame_92 : decode cX12_isSame 92 = .ok (.iaload, 1) := by decide +kernel
theorem dX12_isSame_93 : decode cX12_isSame 93 = .ok (.ifCond .lt 17, 3) := by decide +kernel
theorem dX12_isSame_96 : decode cX12_isSame 96 = .ok (.aload_n 0, 1) := by decide +kernel
theorem dX12_isSame_97 : decode cX12_isSame 97 = .ok (.aload 4, 2) := by decide +kernel
theorem dX12_isSame_99 : decode cX12_isSame 99 = .ok (.invokevirtual 53, 3) := by decide +kernel
theorem dX12_isSame_102 : decode cX12_isSame 102 = .ok (.iconst 5, 1) := by decide +kernel
theorem dX12_isSame_103 : decode cX12_isSame 103 = .ok (.if_icmp .gt 7, 3) := by decide +kernel
theorem dX12_isSame_106 : decode cX12_isSame 106 = .ok (.iconst 1, 1) := by decide +kernel
theorem dX12_isSame_107 : decode cX12_isSame 107 = .ok (.goto 4, 3) := by decide +kernel
theorem dX12_isSame_110 : decode cX12_isSame 110 = .ok (.iconst 0, 1) := by decide +kernel
theorem dX12_isSame_111 : decode cX12_isSame 111 = .ok (.iastore, 1) := by decide +kernel
theorem dX12_isSame_112 : decode cX12_isSame 112 = .ok (.astore 5, 2) := by decide +kernel
theorem dX12_isSame_114 : decode cX12_isSame 114 = .ok (.iconst 0, 1) := by decide +kernel
theorem dX12_isSame_115 : decode cX12_isSame 115 = .ok (.istore 6, 2) := by decide +kernel
theorem dX12_isSame_117 : decode cX12_isSame 117 = .ok (.iload 6, 2) := by decide +kernel
theorem dX12_isSame_119 : decode cX12_isSame 119 = .ok (.bipush 7, 2) := by decide +kernel
theorem dX12_isSame_121 : decode cX12_isSame 121 = .ok (.if_icmp .ge 26, 3) := by decide +kernel
theorem dX12_isSame_124 : decode cX12_isSame 124 = .ok (.aload_n 1, 1) := by decide +kernel
theorem dX12_isSame_125 : decode cX12_isSame 125 = .ok (.iload_n 3, 1) := by decide +kernel
theorem dX12_isSame_126 : decode cX12_isSame 126 = .ok (.iload 6, 2) := by decide +kernel
theorem dX12_isSame_128 : decode cX12_isSame 128 = .ok (.invokevirtual 98, 3) := by decide +kernel
theorem dX12_isSame_131 : decode cX12_isSame 131 = .ok (.aload 5, 2) := by decide +kernel
theorem dX12_isSame_133 : decode cX12_isSame 133 = .ok (.iload 6, 2) := by decide +kernel
theorem dX12_isSame_135 : decode cX12_isSame 135 = .ok (.iaload, 1) := by decide +kernel
theorem dX12_isSame_136 : decode cX12_isSame 136 = .ok (.if_icmp .eq 5, 3) := by decide +kernel
theorem dX12_isSame_139 : decode cX12_isSame 139 = .ok (.iconst 0, 1) := by decide +kernel
theorem dX12_isSame_140 : decode cX12_isSame 140 = .ok (.ireturn, 1) := by decide +kernel
theorem dX12_isSame_141 : decode cX12_isSame 141 = .ok (.iinc 6 1, 3) := by decide +kernel
theorem dX12_isSame_144 : decode cX12_isSame 144 = .ok (.goto (-27), 3) := by decide +kernel
theorem dX12_isSame_147 : decode cX12_isSame 147 = .ok (.aload 4, 2) := by decide +kernel
theorem dX12_isSame_149 : decode cX12_isSame 149 = .ok (.iconst 3, 1) := by decide +kernel
theorem dX12_isSame_150 : decode cX12_isSame 150 = .ok (.iaload, 1) := by decide +kernel
theorem dX12_isSame_151 : decode cX12_isSame 151 = .ok (.ifCond .lt 13, 3) := by decide +kernel
theorem dX12_isSame_154 : decode cX12_isSame 154 = .ok (.aload_n 2, 1) := by decide +kernel
theorem dX12_isSame_155 : decode cX12_isSame 155 = .ok (.aload 4, 2) := by decide +kernel
theorem dX12_isSame_157 : decode cX12_isSame 157 = .ok (.iconst 3, 1) := by decide +kernel
theorem dX12_isSame_158 : decode cX12_isSame 158 = .ok (.iaload, 1) := by decide +kernel
theorem dX12_isSame_159 : decode cX12_isSame 159 = .ok (.dup2, 1) := by decide +kernel
theorem dX12_isSame_160 : decode cX12_isSame 160 = .ok (.iaload, 1) := by decide +kernel
theorem dX12_isSame_161 : decode cX12_isSame 161 = .ok (.iconst 1, 1) := by decide +kernel
theorem dX12_isSame_162 : decode cX12_isSame 162 = .ok (.iadd, 1) := by decide +kernel
theorem dX12_isSame_163 : decode cX12_isSame 163 = .ok (.iastore, 1) := by decide +kernel
theorem dX12_isSame_164 : decode cX12_isSame 164 = .ok (.iinc 3 1, 3) := by decide +kernel
theorem dX12_isSame_167 : decode cX12_isSame 167 = .ok (.goto (-157), 3) := by decide +kernel
theorem dX12_isSame_170 : decode cX12_isSame 170 = .ok (.iconst 0, 1) := by decide +kernel
theorem dX12_isSame_171 : decode cX12_isSame 171 = .ok (.istore_n 3, 1) := by decide +kernel
theorem dX12_isSame_172 : decode cX12_isSame 172 = .ok (.iload_n 3, 1) := by decide +kernel
theorem dX12_isSame_173 : decode cX12_isSame 173 = .ok (.aload_n 0, 1) := by decide +kernel
theorem dX12_isSame_174 : decode cX12_isSame 174 = .ok (.getfield 22, 3) := by decide +kernel
theorem dX12_isSame_177 : decode cX12_isSame 177 = .ok (.arraylength, 1) := by decide +kernel
theorem dX12_isSame_178 : decode cX12_isSame 178 = .ok (.if_icmp .ge 247, 3) := by decide +kernel
theorem dX12_isSame_181 : decode cX12_isSame 181 = .ok (.iconst 0, 1) := by decide +kernel
theorem dX12_isSame_182 : decode cX12_isSame 182 = .ok (.istore 4, 2) := by decide +kernel
theorem dX12_isSame_184 : decode cX12_isSame 184 = .ok (.iconst 0, 1) := by decide +kernel
theorem dX12_isSame_185 : decode cX12_isSame 185 = .ok (.istore 5, 2) := by decide +kernel
theorem dX12_isSame_187 : decode cX12_isSame 187 = .ok (.aload_n 0, 1) := by decide +kernel
theorem dX12_isSame_188 : decode cX12_isSame 188 = .ok (.getfield 28, 3) := by decide +kernel
theorem dX12_isSame_191 : decode cX12_isSame 191 = .ok (.astore 6, 2) := by decide +kernel
theorem dX12_isSame_193 : decode cX12_isSame 193 = .ok (.aload 6, 2) := by decide +kernel
theorem dX12_isSame_195 : decode cX12_isSame 195 = .ok (.arraylength, 1) := by decide +kernel
theorem dX12_isSame_196 : decode cX12_isSame 196 = .ok (.istore 7, 2) := by decide +kernel
theorem dX12_isSame_198 : decode cX12_isSame 198 = .ok (.iconst 0, 1) := by decide +kernel
theorem dX12_isSame_199 : decode cX12_isSame 199 = .ok (.istore 8, 2) := by decide +kernel
theorem dX12_isSame_201 : decode cX12_isSame 201 = .ok (.iload 8, 2) := by decide +kernel
theorem dX12_isSame_203 : decode cX12_isSame 203 = .ok (.iload 7, 2) := by decide +kernel
theorem dX12_isSame_205 : decode cX12_isSame 205 = .ok (.if_icmp .ge 55, 3) := by decide +kernel
theorem dX12_isSame_208 : decode cX12_isSame 208 = .ok (.aload 6, 2) := by decide +kernel
theorem dX12_isSame_210 : decode cX12_isSame 210 = .ok (.iload 8, 2) := by decide +kernel
theorem dX12_isSame_212 : decode cX12_isSame 212 = .ok (.aaload, 1) := by decide +kernel
theorem dX12_isSame_213 : decode cX12_isSame 213 = .ok (.astore 9, 2) := by decide +kernel
theorem dX12_isSame_215 : decode cX12_isSame 215 = .ok (.iload 4, 2) := by decide +kernel
theorem dX12_isSame_217 : decode cX12_isSame 217 = .ok (.aload 9, 2) := by decide +kernel
theorem dX12_isSame_219 : decode cX12_isSame 219 = .ok (.iconst 2, 1) := by decide +kernel
theorem dX12_isSame_220 : decode cX12_isSame 220 = .ok (.iaload, 1) := by decide +kernel
theorem dX12_isSame_221 : decode cX12_isSame 221 = .ok (.iload_n 3, 1) := by decide +kernel
theorem dX12_isSame_222 : decode cX12_isSame 222 = .ok (.if_icmp .ne 7, 3) := by decide +kernel
theorem dX12_isSame_225 : decode cX12_isSame 225 = .ok (.iconst 1, 1) := by decide +kernel
theorem dX12_isSame_226 : decode cX12_isSame 226 = .ok (.goto 4, 3) := by decide +kernel
theorem dX12_isSame_229 : decode cX12_isSame 229 = .ok (.iconst 0, 1) := by decide +kernel
theorem dX12_isSame_230 : decode cX12_isSame 230 = .ok (.iadd, 1) := by decide +kernel
theorem dX12_isSame_231 : decode cX12_isSame 231 = .ok (.istore 4, 2) := by decide +kernel
theorem dX12_isSame_233 : decode cX12_isSame 233 = .ok (.iload 5, 2) := by decide +kernel
theorem dX12_isSame_235 : decode cX12_isSame 235 = .ok (.aload 9, 2) := by decide +kernel
theorem dX12_isSame_237 : decode cX12_isSame 237 = .ok (.iconst 2, 1) := by decide +kernel
theorem dX12_isSame_238 : decode cX12_isSame 238 = .ok (.iaload, 1) := by decide +kernel
theorem dX12_isSame_239 : decode cX12_isSame 239 = .ok (.iload_n 3, 1) := by decide +kernel
theorem dX12_isSame_240 : decode cX12_isSame 240 = .ok (.if_icmp .ne 10, 3) := by decide +kernel
theorem dX12_isSame_243 : decode cX12_isSame 243 = .ok (.aload 9, 2) := by decide +kernel
theorem dX12_isSame_245 : decode cX12_isSame 245 = .ok (.iconst 1, 1) := by decide +kernel
theorem dX12_isSame_246 : decode cX12_isSame 246 = .ok (.iaload, 1) := by decide +kernel
theorem dX12_isSame_247 : decode cX12_isSame 247 = .ok (.goto 4, 3) := by decide +kernel
theorem dX12_isSame_250 : decode cX12_isSame 250 = .ok (.iconst 0, 1) := by decide +kernel
theorem dX12_isSame_251 : decode cX12_isSame 251 = .ok (.iadd, 1) := by decide +kernel
theorem dX12_isSame_252 : decode cX12_isSame 252 = .ok (.istore 5, 2) := by decide +kernel
theorem dX12_isSame_254 : decode cX12_isSame 254 = .ok (.iinc 8 1, 3) := by decide +kernel
theorem dX12_isSame_257 : decode cX12_isSame 257 = .ok (.goto (-56), 3) := by decide +kernel
theorem dX12_isSame_260 : decode cX12_isSame 260 = .ok (.bipush 6, 2) := by decide +kernel
theorem dX12_isSame_262 : decode cX12_isSame 262 = .ok (.newarray .int, 2) := by decide +kernel
theorem dX12_isSame_264 : decode cX12_isSame 264 = .ok (.dup, 1) := by decide +kernel
theorem dX12_isSame_265 : decode cX12_isSame 265 = .ok (.iconst 0, 1) := by decide +kernel
theorem dX12_isSame_266 : decode cX12_isSame 266 = .ok (.aload_n 0, 1) := by decide +kernel
theorem dX12_isSame_267 : decode cX12_isSame 267 = .ok (.getfield 22, 3) := by decide +kernel
theorem dX12_isSame_270 : decode cX12_isSame 270 = .ok (.iload_n 3, 1) := by decide +kernel
theorem dX12_isSame_271 : decode cX12_isSame 271 = .ok (.aaload, 1) := by decide +kernel
theorem dX12_isSame_272 : decode cX12_isSame 272 = .ok (.iconst 0, 1) := by decide +kernel
theorem dX12_isSame_273 : decode cX12_isSame 273 = .ok (.iaload, 1) := by decide +kernel
theorem dX12_isSame_274 : decode cX12_isSame 274 = .ok (.iastore, 1) := by decide +kernel
theorem dX12_isSame_275 : decode cX12_isSame 275 = .ok (.dup, 1) := by decide +kernel
theorem dX12_isSame_276 : decode cX12_isSame 276 = .ok (.iconst 1, 1) := by decide +kernel
theorem dX12_isSame_277 : decode cX12_isSame 277 = .ok (.aload_n 0, 1) := by decide +kernel
theorem dX12_isSame_278 : decode cX12_isSame 278 = .ok (.getfield 22, 3) := by decide +kernel
theorem dX12_isSame_281 : decode cX12_isSame 281 = .ok (.iload_n 3, 1) := by decide +kernel
theorem dX12_isSame_282 : decode cX12_isSame 282 = .ok (.aaload, 1) := by decide +kernel
theorem dX12_isSame_283 : decode cX12_isSame 283 = .ok (.iconst 1, 1) := by decide +kernel
theorem dX12_isSame_284 : decode cX12_isSame 284 = .ok (.iaload, 1) := by decide +kernel
theorem dX12_isSame_285 : decode cX12_isSame 285 = .ok (.iastore, 1) := by decide +kernel
theorem dX12_isSame_286 : decode cX12_isSame 286 = .ok (.dup, 1) := by decide +kernel
theorem dX12_isSame_287 : decode cX12_isSame 287 = .ok (.iconst 2, 1) := by decide +kernel
theorem dX12_isSame_288 : decode cX12_isSame 288 = .ok (.aload_n 0, 1) := by decide +kernel
theorem dX12_isSame_289 : decode cX12_isSame 289 = .ok (.iload_n 3, 1) := by decide +kernel
theorem dX12_isSame_290 : decode cX12_isSame 290 = .ok (.invokevirtual 49, 3) := by decide +kernel
theorem dX12_isSame_293 : decode cX12_isSame 293 = .ok (.iastore, 1) := by decide +kernel
theorem dX12_isSame_294 : decode cX12_isSame 294 = .ok (.dup, 1) := by decide +kernel
theorem dX12_isSame_295 : decode cX12_isSame 295 = .ok (.iconst 3, 1) := by decide +kernel
theorem dX12_isSame_296 : decode cX12_isSame 296 = .ok (.aload_n 0, 1) := by decide +kernel
theorem dX12_isSame_297 : decode cX12_isSame 297 = .ok (.iload_n 3, 1) := by decide +kernel
theorem dX12_isSame_298 : decode cX12_isSame 298 = .ok (.invokevirtual 103, 3) := by decide +kernel
theorem dX12_isSame_301 : decode cX12_isSame 301 = .ok (.iastore, 1) := by decide +kernel
theorem dX12_isSame_302 : decode cX12_isSame 302 = .ok (.dup, 1) := by decide +kernel
theorem dX12_isSame_303 : decode cX12_isSame 303 = .ok (.iconst 4, 1) := by decide +kernel
theorem dX12_isSame_304 : decode cX12_isSame 304 = .ok (.iload 4, 2) := by decide +kernel
theorem dX12_isSame_306 : decode cX12_isSame 306 = .ok (.iastore, 1) := by decide +kernel
theorem dX12_isSame_307 : decode cX12_isSame 307 = .ok (.dup, 1) := by decide +kernel
theorem dX12_isSame_308 : decode cX12_isSame 308 = .ok (.iconst 5, 1) := by decide +kernel
theorem dX12_isSame_309 : decode cX12_isSame 309 = .ok (.iload 5, 2) := by decide +kernel
theorem dX12_isSame_311 : decode cX12_isSame 311 = .ok (.iastore, 1) := by decide +kernel
theorem dX12_isSame_312 : decode cX12_isSame 312 = .ok (.astore 6, 2) := by decide +kernel
theorem dX12_isSame_314 : decode cX12_isSame 314 = .ok (.iconst 0, 1) := by decide +kernel
theorem dX12_isSame_315 : decode cX12_isSame 315 = .ok (.istore 7, 2) := by decide +kernel
theorem dX12_isSame_317 : decode cX12_isSame 317 = .ok (.iload 7, 2) := by decide +kernel
theorem dX12_isSame_319 : decode cX12_isSame 319 = .ok (.bipush 6, 2) := by decide +kernel
theorem dX12_isSame_321 : decode cX12_isSame 321 = .ok (.if_icmp .ge 26, 3) := by decide +kernel
theorem dX12_isSame_324 : decode cX12_isSame 324 = .ok (.aload_n 1, 1) := by decide +kernel
theorem dX12_isSame_325 : decode cX12_isSame 325 = .ok (.iload_n 3, 1) := by decide +kernel
theorem dX12_isSame_326 : decode cX12_isSame 326 = .ok (.iload 7, 2) := by decide +kernel
theorem dX12_isSame_328 : decode cX12_isSame 328 = .ok (.invokevirtual 106, 3) := by decide +kernel
theorem dX12_isSame_331 : decode cX12_isSame 331 = .ok (.aload 6, 2) := by decide +kernel
theorem dX12_isSame_333 : decode cX12_isSame 333 = .ok (.iload 7, 2) := by decide +kernel
theorem dX12_isSame_335 : decode cX12_isSame 335 = .ok (.iaload, 1) := by decide +kernel
theorem dX12_isSame_336 : decode cX12_isSame 336 = .ok (.if_icmp .eq 5, 3) := by decide +kernel
theorem dX12_isSame_339 : decode cX12_isSame 339 = .ok (.iconst 0, 1) := by decide +kernel
theorem dX12_isSame_340 : decode cX12_isSame 340 = .ok (.ireturn, 1) := by decide +kernel
theorem dX12_isSame_341 : decode cX12_isSame 341 = .ok (.iinc 7 1, 3) := by decide +kernel
theorem dX12_isSame_344 : decode cX12_isSame 344 = .ok (.goto (-27), 3) := by decide +kernel
theorem dX12_isSame_347 : decode cX12_isSame 347 = .ok (.iconst 0, 1) := by decide +kernel
theorem dX12_isSame_348 : decode cX12_isSame 348 = .ok (.istore 7, 2) := by decide +kernel
theorem dX12_isSame_350 : decode cX12_isSame 350 = .ok (.iload 7, 2) := by decide +kernel
theorem dX12_isSame_352 : decode cX12_isSame 352 = .ok (.aload_n 0, 1) := by decide +kernel
theorem dX12_isSame_353 : decode cX12_isSame 353 = .ok (.getfield 22, 3) := by decide +kernel
theorem dX12_isSame_356 : decode cX12_isSame 356 = .ok (.arraylength, 1) := by decide +kernel
theorem dX12_isSame_357 : decode cX12_isSame 357 = .ok (.if_icmp .ge 47, 3) := by decide +kernel
theorem dX12_isSame_360 : decode cX12_isSame 360 = .ok (.aload_n 1, 1) := by decide +kernel
theorem dX12_isSame_361 : decode cX12_isSame 361 = .ok (.iload_n 3, 1) := by decide +kernel
theorem dX12_isSame_362 : decode cX12_isSame 362 = .ok (.iload 7, 2) := by decide +kernel
theorem dX12_isSame_364 : decode cX12_isSame 364 = .ok (.invokevirtual 109, 3) := by decide +kernel
theorem dX12_isSame_367 : decode cX12_isSame 367 = .ok (.aload_n 0, 1) := by decide +kernel
theorem dX12_isSame_368 : decode cX12_isSame 368 = .ok (.getfield 25, 3) := by decide +kernel
theorem dX12_isSame_371 : decode cX12_isSame 371 = .ok (.iload_n 3, 1) := by decide +kernel
theorem dX12_isSame_372 : decode cX12_isSame 372 = .ok (.aaload, 1) := by decide +kernel
theorem dX12_isSame_373 : decode cX12_isSame 373 = .ok (.iload 7, 2) := by decide +kernel
theorem dX12_isSame_375 : decode cX12_isSame 375 = .ok (.iaload, 1) := by decide +kernel
theorem dX12_isSame_376 : decode cX12_isSame 376 = .ok (.if_icmp .ne 20, 3) := by decide +kernel
theorem dX12_isSame_379 : decode cX12_isSame 379 = .ok (.aload_n 1, 1) := by decide +kernel
theorem dX12_isSame_380 : decode cX12_isSame 380 = .ok (.iload_n 3, 1) := by decide +kernel
theorem dX12_isSame_381 : decode cX12_isSame 381 = .ok (.iload 7, 2) := by decide +kernel
theorem dX12_isSame_383 : decode cX12_isSame 383 = .ok (.invokevirtual 111, 3) := by decide +kernel
theorem dX12_isSame_386 : decode cX12_isSame 386 = .ok (.aload_n 0, 1) := by decide +kernel
theorem dX12_isSame_387 : decode cX12_isSame 387 = .ok (.iload_n 3, 1) := by decide +kernel
theorem dX12_isSame_388 : decode cX12_isSame 388 = .ok (.iload 7, 2) := by decide +kernel
theorem dX12_isSame_390 : decode cX12_isSame 390 = .ok (.invokevirtual 114, 3) := by decide +kernel
theorem dX12_isSame_393 : decode cX12_isSame 393 = .ok (.if_icmp .eq 5, 3) := by decide +kernel
theorem dX12_isSame_396 : decode cX12_isSame 396 = .ok (.iconst 0, 1) := by decide +kernel
theorem dX12_isSame_397 : decode cX12_isSame 397 = .ok (.ireturn, 1) := by decide +kernel
theorem dX12_isSame_398 : decode cX12_isSame 398 = .ok (.iinc 7 1, 3) := by decide +kernel
theorem dX12_isSame_401 : decode cX12_isSame 401 = .ok (.goto (-51), 3) := by decide +kernel
theorem dX12_isSame_404 : decode cX12_isSame 404 = .ok (.aload_n 1, 1) := by decide +kernel
theorem dX12_isSame_405 : decode cX12_isSame 405 = .ok (.iload_n 3, 1) := by decide +kernel
theorem dX12_isSame_406 : decode cX12_isSame 406 = .ok (.invokevirtual 115, 3) := by decide +kernel
theorem dX12_isSame_409 : decode cX12_isSame 409 = .ok (.aload_n 0, 1) := by decide +kernel
theorem dX12_isSame_410 : decode cX12_isSame 410 = .ok (.iload_n 3, 1) := by decide +kernel
theorem dX12_isSame_411 : decode cX12_isSame 411 = .ok (.invokevirtual 118, 3) := by decide +kernel
theorem dX12_isSame_414 : decode cX12_isSame 414 = .ok (.if_icmp .eq 5, 3) := by decide +kernel
theorem dX12_isSame_417 : decode cX12_isSame 417 = .ok (.iconst 0, 1) := by decide +kernel
theorem dX12_isSame_418 : decode cX12_isSame 418 = .ok (.ireturn, 1) := by decide +kernel
theorem dX12_isSame_419 : decode cX12_isSame 419 = .ok (.iinc 3 1, 3) := by decide +kernel
theorem dX12_isSame_422 : decode cX12_isSame 422 = .ok (.goto (-250), 3) := by decide +kernel
theorem dX12_isSame_425 : decode cX12_isSame 425 = .ok (.iconst 0, 1) := by decide +kernel
theorem dX12_isSame_426 : decode cX12_isSame 426 = .ok (.istore_n 3, 1) := by decide +kernel
theorem dX12_isSame_427 : decode cX12_isSame 427 = .ok (.iload_n 3, 1) := by decide +kernel
theorem dX12_isSame_428 : decode cX12_isSame 428 = .ok (.aload_n 0, 1) := by decide +kernel
theorem dX12_isSame_429 : decode cX12_isSame 429 = .ok (.getfield 18, 3) := by decide +kernel
theorem dX12_isSame_432 : decode cX12_isSame 432 = .ok (.arraylength, 1) := by decide +kernel
theorem dX12_isSame_433 : decode cX12_isSame 433 = .ok (.if_icmp .ge 59, 3) := by decide +kernel
theorem dX12_isSame_436 : decode cX12_isSame 436 = .ok (.iconst 0, 1) := by decide +kernel
theorem dX12_isSame_437 : decode cX12_isSame 437 = .ok (.istore 4, 2) := by decide +kernel
theorem dX12_isSame_439 : decode cX12_isSame 439 = .ok (.iload 4, 2) := by decide +kernel
theorem dX12_isSame_441 : decode cX12_isSame 441 = .ok (.iconst 3, 1) := by decide +kernel
theorem dX12_isSame_442 : decode cX12_isSame 442 = .ok (.if_icmp .ge 30, 3) := by decide +kernel
theorem dX12_isSame_445 : decode cX12_isSame 445 = .ok (.aload_n 1, 1) := by decide +kernel
theorem dX12_isSame_446 : decode cX12_isSame 446 = .ok (.iload_n 3, 1) := by decide +kernel
theorem dX12_isSame_447 : decode cX12_isSame 447 = .ok (.iload 4, 2) := by decide +kernel
theorem dX12_isSame_449 : decode cX12_isSame 449 = .ok (.invokevirtual 119, 3) := by decide +kernel
theorem dX12_isSame_452 : decode cX12_isSame 452 = .ok (.aload_n 0, 1) := by decide +kernel
theorem dX12_isSame_453 : decode cX12_isSame 453 = .ok (.getfield 18, 3) := by decide +kernel
theorem dX12_isSame_456 : decode cX12_isSame 456 = .ok (.iload_n 3, 1) := by decide +kernel
theorem dX12_isSame_457 : decode cX12_isSame 457 = .ok (.aaload, 1) := by decide +kernel
theorem dX12_isSame_458 : decode cX12_isSame 458 = .ok (.iload 4, 2) := by decide +kernel
theorem dX12_isSame_460 : decode cX12_isSame 460 = .ok (.iaload, 1) := by decide +kernel
theorem dX12_isSame_461 : decode cX12_isSame 461 = .ok (.if_icmp .eq 5, 3) := by decide +kernel
theorem dX12_isSame_464 : decode cX12_isSame 464 = .ok (.iconst 0, 1) := by decide +kernel
theorem dX12_isSame_465 : decode cX12_isSame 465 = .ok (.ireturn, 1) := by decide +kernel
theorem dX12_isSame_466 : decode cX12_isSame 466 = .ok (.iinc 4 1, 3) := by decide +kernel
theorem dX12_isSame_469 : decode cX12_isSame 469 = .ok (.goto (-30), 3) := by decide +kernel
theorem dX12_isSame_472 : decode cX12_isSame 472 = .ok (.aload_n 1, 1) := by decide +kernel
theorem dX12_isSame_473 : decode cX12_isSame 473 = .ok (.iload_n 3, 1) := by decide +kernel
theorem dX12_isSame_474 : decode cX12_isSame 474 = .ok (.iconst 3, 1) := by decide +kernel
theorem dX12_isSame_475 : decode cX12_isSame 475 = .ok (.invokevirtual 119, 3) := by decide +kernel
theorem dX12_isSame_478 : decode cX12_isSame 478 = .ok (.aload_n 2, 1) := by decide +kernel
theorem dX12_isSame_479 : decode cX12_isSame 479 = .ok (.iload_n 3, 1) := by decide +kernel
theorem dX12_isSame_480 : decode cX12_isSame 480 = .ok (.iaload, 1) := by decide +kernel
theorem dX12_isSame_481 : decode cX12_isSame 481 = .ok (.if_icmp .eq 5, 3) := by decide +kernel
theorem dX12_isSame_484 : decode cX12_isSame 484 = .ok (.iconst 0, 1) := by decide +kernel
theorem dX12_isSame_485 : decode cX12_isSame 485 = .ok (.ireturn, 1) := by decide +kernel
theorem dX12_isSame_486 : decode cX12_isSame 486 = .ok (.iinc 3 1, 3) := by decide +kernel
theorem dX12_isSame_489 : decode cX12_isSame 489 = .ok (.goto (-62), 3) := by decide +kernel
theorem dX12_isSame_492 : decode cX12_isSame 492 = .ok (.iconst 0, 1) := by decide +kernel
theorem dX12_isSame_493 : decode cX12_isSame 493 = .ok (.istore_n 3, 1) := by decide +kernel
theorem dX12_isSame_494 : decode cX12_isSame 494 = .ok (.iload_n 3, 1) := by decide +kernel
theorem dX12_isSame_495 : decode cX12_isSame 495 = .ok (.aload_n 0, 1) := by decide +kernel
theorem dX12_isSame_496 : decode cX12_isSame 496 = .ok (.getfield 31, 3) := by decide +kernel
theorem dX12_isSame_499 : decode cX12_isSame 499 = .ok (.arraylength, 1) := by decide +kernel
theorem dX12_isSame_500 : decode cX12_isSame 500 = .ok (.if_icmp .ge 112, 3) := by decide +kernel
theorem dX12_isSame_503 : decode cX12_isSame 503 = .ok (.iconst 5, 1) := by decide +kernel
theorem dX12_isSame_504 : decode cX12_isSame 504 = .ok (.newarray .int, 2) := by decide +kernel
theorem dX12_isSame_506 : decode cX12_isSame 506 = .ok (.dup, 1) := by decide +kernel
theorem dX12_isSame_507 : decode cX12_isSame 507 = .ok (.iconst 0, 1) := by decide +kernel
theorem dX12_isSame_508 : decode cX12_isSame 508 = .ok (.aload_n 0, 1) := by decide +kernel
theorem dX12_isSame_509 : decode cX12_isSame 509 = .ok (.getfield 31, 3) := by decide +kernel
theorem dX12_isSame_512 : decode cX12_isSame 512 = .ok (.iload_n 3, 1) := by decide +kernel
theorem dX12_isSame_513 : decode cX12_isSame 513 = .ok (.aaload, 1) := by decide +kernel
theorem dX12_isSame_514 : decode cX12_isSame 514 = .ok (.iconst 0, 1) := by decide +kernel
theorem dX12_isSame_515 : decode cX12_isSame 515 = .ok (.iaload, 1) := by decide +kernel
theorem dX12_isSame_516 : decode cX12_isSame 516 = .ok (.iastore, 1) := by decide +kernel
theorem dX12_isSame_517 : decode cX12_isSame 517 = .ok (.dup, 1) := by decide +kernel
theorem dX12_isSame_518 : decode cX12_isSame 518 = .ok (.iconst 1, 1) := by decide +kernel
theorem dX12_isSame_519 : decode cX12_isSame 519 = .ok (.aload_n 0, 1) := by decide +kernel
theorem dX12_isSame_520 : decode cX12_isSame 520 = .ok (.getfield 31, 3) := by decide +kernel
theorem dX12_isSame_523 : decode cX12_isSame 523 = .ok (.iload_n 3, 1) := by decide +kernel
theorem dX12_isSame_524 : decode cX12_isSame 524 = .ok (.aaload, 1) := by decide +kernel
theorem dX12_isSame_525 : decode cX12_isSame 525 = .ok (.iconst 1, 1) := by decide +kernel
theorem dX12_isSame_526 : decode cX12_isSame 526 = .ok (.iaload, 1) := by decide +kernel
theorem dX12_isSame_527 : decode cX12_isSame 527 = .ok (.iastore, 1) := by decide +kernel
theorem dX12_isSame_528 : decode cX12_isSame 528 = .ok (.dup, 1) := by decide +kernel
theorem dX12_isSame_529 : decode cX12_isSame 529 = .ok (.iconst 2, 1) := by decide +kernel
theorem dX12_isSame_530 : decode cX12_isSame 530 = .ok (.aload_n 0, 1) := by decide +kernel
theorem dX12_isSame_531 : decode cX12_isSame 531 = .ok (.getfield 31, 3) := by decide +kernel
theorem dX12_isSame_534 : decode cX12_isSame 534 = .ok (.iload_n 3, 1) := by decide +kernel
theorem dX12_isSame_535 : decode cX12_isSame 535 = .ok (.aaload, 1) := by decide +kernel
theorem dX12_isSame_536 : decode cX12_isSame 536 = .ok (.iconst 2, 1) := by decide +kernel
theorem dX12_isSame_537 : decode cX12_isSame 537 = .ok (.iaload, 1) := by decide +kernel
theorem dX12_isSame_538 : decode cX12_isSame 538 = .ok (.iastore, 1) := by decide +kernel
theorem dX12_isSame_539 : decode cX12_isSame 539 = .ok (.dup, 1) := by decide +kernel
theorem dX12_isSame_540 : decode cX12_isSame 540 = .ok (.iconst 3, 1) := by decide +kernel
theorem dX12_isSame_541 : decode cX12_isSame 541 = .ok (.aload_n 0, 1) := by decide +kernel
theorem dX12_isSame_542 : decode cX12_isSame 542 = .ok (.aload_n 0, 1) := by decide +kernel
theorem dX12_isSame_543 : decode cX12_isSame 543 = .ok (.getfield 31, 3) := by decide +kernel
theorem dX12_isSame_546 : decode cX12_isSame 546 = .ok (.iload_n 3, 1) := by decide +kernel
theorem dX12_isSame_547 : decode cX12_isSame 547 = .ok (.aaload, 1) := by decide +kernel
theorem dX12_isSame_548 : decode cX12_isSame 548 = .ok (.invokevirtual 65, 3) := by decide +kernel
theorem dX12_isSame_551 : decode cX12_isSame 551 = .ok (.ifCond .ge 7, 3) := by decide +kernel
theorem dX12_isSame_554 : decode cX12_isSame 554 = .ok (.iconst 0, 1) := by decide +kernel
theorem dX12_isSame_555 : decode cX12_isSame 555 = .ok (.goto 4, 3) := by decide +kernel
theorem dX12_isSame_558 : decode cX12_isSame 558 = .ok (.iconst 1, 1) := by decide +kernel
theorem dX12_isSame_559 : decode cX12_isSame 559 = .ok (.iastore, 1) := by decide +kernel
theorem dX12_isSame_560 : decode cX12_isSame 560 = .ok (.dup, 1) := by decide +kernel
theorem dX12_isSame_561 : decode cX12_isSame 561 = .ok (.iconst 4, 1) := by decide +kernel
theorem dX12_isSame_562 : decode cX12_isSame 562 = .ok (.aload_n 0, 1) := by decide +kernel
theorem dX12_isSame_563 : decode cX12_isSame 563 = .ok (.getfield 31, 3) := by decide +kernel
theorem dX12_isSame_566 : decode cX12_isSame 566 = .ok (.iload_n 3, 1) := by decide +kernel
theorem dX12_isSame_567 : decode cX12_isSame 567 = .ok (.aaload, 1) := by decide +kernel
theorem dX12_isSame_568 : decode cX12_isSame 568 = .ok (.bipush 11, 2) := by decide +kernel
theorem dX12_isSame_570 : decode cX12_isSame 570 = .ok (.iaload, 1) := by decide +kernel
theorem dX12_isSame_571 : decode cX12_isSame 571 = .ok (.iastore, 1) := by decide +kernel
theorem dX12_isSame_572 : decode cX12_isSame 572 = .ok (.astore 4, 2) := by decide +kernel
theorem dX12_isSame_574 : decode cX12_isSame 574 = .ok (.iconst 0, 1) := by decide +kernel
theorem dX12_isSame_575 : decode cX12_isSame 575 = .ok (.istore 5, 2) := by decide +kernel
theorem dX12_isSame_577 : decode cX12_isSame 577 = .ok (.iload 5, 2) := by decide +kernel
theorem dX12_isSame_579 : decode cX12_isSame 579 = .ok (.iconst 5, 1) := by decide +kernel
theorem dX12_isSame_580 : decode cX12_isSame 580 = .ok (.if_icmp .ge 26, 3) := by decide +kernel
theorem dX12_isSame_583 : decode cX12_isSame 583 = .ok (.aload_n 1, 1) := by decide +kernel
theorem dX12_isSame_584 : decode cX12_isSame 584 = .ok (.iload_n 3, 1) := by decide +kernel
theorem dX12_isSame_585 : decode cX12_isSame 585 = .ok (.iload 5, 2) := by decide +kernel
theorem dX12_isSame_587 : decode cX12_isSame 587 = .ok (.invokevirtual 122, 3) := by decide +kernel
theorem dX12_isSame_590 : decode cX12_isSame 590 = .ok (.aload 4, 2) := by decide +kernel
theorem dX12_isSame_592 : decode cX12_isSame 592 = .ok (.iload 5, 2) := by decide +kernel
theorem dX12_isSame_594 : decode cX12_isSame 594 = .ok (.iaload, 1) := by decide +kernel
theorem dX12_isSame_595 : decode cX12_isSame 595 = .ok (.if_icmp .eq 5, 3) := by decide +kernel
theorem dX12_isSame_598 : decode cX12_isSame 598 = .ok (.iconst 0, 1) := by decide +kernel
theorem dX12_isSame_599 : decode cX12_isSame 599 = .ok (.ireturn, 1) := by decide +kernel
theorem dX12_isSame_600 : decode cX12_isSame 600 = .ok (.iinc 5 1, 3) := by decide +kernel
theorem dX12_isSame_603 : decode cX12_isSame 603 = .ok (.goto (-26), 3) := by decide +kernel
theorem dX12_isSame_606 : decode cX12_isSame 606 = .ok (.iinc 3 1, 3) := by decide +kernel
theorem dX12_isSame_609 : decode cX12_isSame 609 = .ok (.goto (-115), 3) := by decide +kernel
theorem dX12_isSame_612 : decode cX12_isSame 612 = .ok (.aload_n 0, 1) := by decide +kernel
theorem dX12_isSame_613 : decode cX12_isSame 613 = .ok (.invokevirtual 125, 3) := by decide +kernel
theorem dX12_isSame_616 : decode cX12_isSame 616 = .ok (.astore_n 3, 1) := by decide +kernel
theorem dX12_isSame_617 : decode cX12_isSame 617 = .ok (.iconst 0, 1) := by decide +kernel
theorem dX12_isSame_618 : decode cX12_isSame 618 = .ok (.istore 4, 2) := by decide +kernel
theorem dX12_isSame_620 : decode cX12_isSame 620 = .ok (.iload 4, 2) := by decide +kernel
theorem dX12_isSame_622 : decode cX12_isSame 622 = .ok (.bipush 14, 2) := by decide +kernel
theorem dX12_isSame_624 : decode cX12_isSame 624 = .ok (.if_icmp .ge 24, 3) := by decide +kernel
theorem dX12_isSame_627 : decode cX12_isSame 627 = .ok (.aload_n 1, 1) := by decide +kernel
theorem dX12_isSame_628 : decode cX12_isSame 628 = .ok (.iload 4, 2) := by decide +kernel
theorem dX12_isSame_630 : decode cX12_isSame 630 = .ok (.invokevirtual 129, 3) := by decide +kernel
theorem dX12_isSame_633 : decode cX12_isSame 633 = .ok (.aload_n 3, 1) := by decide +kernel
theorem dX12_isSame_634 : decode cX12_isSame 634 = .ok (.iload 4, 2) := by decide +kernel
theorem dX12_isSame_636 : decode cX12_isSame 636 = .ok (.iaload, 1) := by decide +kernel
theorem dX12_isSame_637 : decode cX12_isSame 637 = .ok (.if_icmp .eq 5, 3) := by decide +kernel
theorem dX12_isSame_640 : decode cX12_isSame 640 = .ok (.iconst 0, 1) := by decide +kernel
theorem dX12_isSame_641 : decode cX12_isSame 641 = .ok (.ireturn, 1) := by decide +kernel
theorem dX12_isSame_642 : decode cX12_isSame 642 = .ok (.iinc 4 1, 3) := by decide +kernel
theorem dX12_isSame_645 : decode cX12_isSame 645 = .ok (.goto (-25), 3) := by decide +kernel
theorem dX12_isSame_648 : decode cX12_isSame 648 = .ok (.aload_n 1, 1) := by decide +kernel
theorem dX12_isSame_649 : decode cX12_isSame 649 = .ok (.invokevirtual 132, 3) := by decide +kernel
theorem dX12_isSame_652 : decode cX12_isSame 652 = .ok (.aload_n 0, 1) := by decide +kernel
theorem dX12_isSame_653 : decode cX12_isSame 653 = .ok (.getfield 28, 3) := by decide +kernel
theorem dX12_isSame_656 : decode cX12_isSame 656 = .ok (.arraylength, 1) := by decide +kernel
theorem dX12_isSame_657 : decode cX12_isSame 657 = .ok (.ifCond .ne 7, 3) := by decide +kernel
theorem dX12_isSame_660 : decode cX12_isSame 660 = .ok (.dconst 0, 1) := by decide +kernel
theorem dX12_isSame_661 : decode cX12_isSame 661 = .ok (.goto 15, 3) := by decide +kernel
theorem dX12_isSame_664 : decode cX12_isSame 664 = .ok (.aload_n 0, 1) := by decide +kernel
theorem dX12_isSame_665 : decode cX12_isSame 665 = .ok (.invokevirtual 88, 3) := by decide +kernel
theorem dX12_isSame_668 : decode cX12_isSame 668 = .ok (.i2d, 1) := by decide +kernel
theorem dX12_isSame_669 : decode cX12_isSame 669 = .ok (.aload_n 0, 1) := by decide +kernel
theorem dX12_isSame_670 : decode cX12_isSame 670 = .ok (.getfield 28, 3) := by decide +kernel
theorem dX12_isSame_673 : decode cX12_isSame 673 = .ok (.arraylength, 1) := by decide +kernel
theorem dX12_isSame_674 : decode cX12_isSame 674 = .ok (.i2d, 1) := by decide +kernel
theorem dX12_isSame_675 : decode cX12_isSame 675 = .ok (.ddiv, 1) := by decide +kernel
theorem dX12_isSame_676 : decode cX12_isSame 676 = .ok (.dcmp .l, 1) := by decide +kernel
theorem dX12_isSame_677 : decode cX12_isSame 677 = .ok (.ifCond .ne 7, 3) := by decide +kernel
theorem dX12_isSame_680 : decode cX12_isSame 680 = .ok (.iconst 1, 1) := by decide +kernel
theorem dX12_isSame_681 : decode cX12_isSame 681 = .ok (.goto 4, 3) := by decide +kernel
theorem dX12_isSame_684 : decode cX12_isSame 684 = .ok (.iconst 0, 1) := by decide +kernel
theorem dX12_isSame_685 : decode cX12_isSame 685 = .ok (.ireturn, 1) := by decide +kernel
theorem dX2_joinsTests_0 : decode cX2_joinsTests 0 = .ok (.iload_n 0, 1) := by decide +kernel
theorem dX2_joinsTests_1 : decode cX2_joinsTests 1 = .ok (.bipush 28, 2) := by decide +kernel
theorem dX2_joinsTests_3 : decode cX2_joinsTests 3 = .ok (.if_icmp .eq 9, 3) := by decide +kernel
theorem dX2_joinsTests_6 : decode cX2_joinsTests 6 = .ok (.iload_n 0, 1) := by decide +kernel
theorem dX2_joinsTests_7 : decode cX2_joinsTests 7 = .ok (.bipush 29, 2) := by decide +kernel
theorem dX2_joinsTests_9 : decode cX2_joinsTests 9 = .ok (.if_icmp .ne 7, 3) := by decide +kernel
theorem dX2_joinsTests_12 : decode cX2_joinsTests 12 = .ok (.iconst 1, 1) := by decide +kernel
theorem dX2_joinsTests_13 : decode cX2_joinsTests 13 = .ok (.goto 4, 3) := by decide +kernel
theorem dX2_joinsTests_16 : decode cX2_joinsTests 16 = .ok (.iconst 0, 1) := by decide +kernel
theorem dX2_joinsTests_17 : decode cX2_joinsTests 17 = .ok (.ireturn, 1) := by decide +kernel
theorem dX2_compares_0 : decode cX2_compares 0 = .ok (.iload_n 0, 1) := by decide +kernel
theorem dX2_compares_1 : decode cX2_compares 1 = .ok (.bipush 42, 2) := by decide +kernel
theorem dX2_compares_3 : decode cX2_compares 3 = .ok (.if_icmp .lt 13, 3) := by decide +kernel
theorem dX2_compares_6 : decode cX2_compares 6 = .ok (.iload_n 0, 1) := by decide +kernel
theorem dX2_compares_7 : decode cX2_compares 7 = .ok (.bipush 46, 2) := by decide +kernel
theorem dX2_compares_9 : decode cX2_compares 9 = .ok (.if_icmp .gt 7, 3) := by decide +kernel
theorem dX2_compares_12 : decode cX2_compares 12 = .ok (.iconst 1, 1) := by decide +kernel
theorem dX2_compares_13 : decode cX2_compares 13 = .ok (.goto 4, 3) := by decide +kernel
theorem dX2_compares_16 : decode cX2_compares 16 = .ok (.iconst 0, 1) := by decide +kernel
theorem dX2_compares_17 : decode cX2_compares 17 = .ok (.ireturn, 1) := by decide +kernel
theorem dX2_joinsSums_0 : decode cX2_joinsSums 0 = .ok (.iload_n 0, 1) := by decide +kernel
theorem dX2_joinsSums_1 : decode cX2_joinsSums 1 = .ok (.bipush 38, 2) := by decide +kernel
theorem dX2_joinsSums_3 : decode cX2_joinsSums 3 = .ok (.if_icmp .lt 9, 3) := by decide +kernel
theorem dX2_joinsSums_6 : decode cX2_joinsSums 6 = .ok (.iload_n 0, 1) := by decide +kernel
theorem dX2_joinsSums_7 : decode cX2_joinsSums 7 = .ok (.bipush 41, 2) := by decide +kernel
theorem dX2_joinsSums_9 : decode cX2_joinsSums 9 = .ok (.if_icmp .le 15, 3) := by decide +kernel
theorem dX2_joinsSums_12 : decode cX2_joinsSums 12 = .ok (.iload_n 0, 1) := by decide +kernel
theorem dX2_joinsSums_13 : decode cX2_joinsSums 13 = .ok (.bipush 30, 2) := by decide +kernel
theorem dX2_joinsSums_15 : decode cX2_joinsSums 15 = .ok (.if_icmp .eq 9, 3) := by decide +kernel
theorem dX2_joinsSums_18 : decode cX2_joinsSums 18 = .ok (.iload_n 0, 1) := by decide +kernel
theorem dX2_joinsSums_19 : decode cX2_joinsSums 19 = .ok (.bipush 31, 2) := by decide +kernel
theorem dX2_joinsSums_21 : decode cX2_joinsSums 21 = .ok (.if_icmp .ne 7, 3) := by decide +kernel
theorem dX2_joinsSums_24 : decode cX2_joinsSums 24 = .ok (.iconst 1, 1) := by decide +kernel
theorem dX2_joinsSums_25 : decode cX2_joinsSums 25 = .ok (.goto 4, 3) := by decide +kernel
theorem dX2_joinsSums_28 : decode cX2_joinsSums 28 = .ok (.iconst 0, 1) := by decide +kernel
theorem dX2_joinsSums_29 : decode cX2_joinsSums 29 = .ok (.ireturn, 1) := by decide +kernel
theorem dX3_init_0 : decode cX3_init 0 = .ok (.aload_n 0, 1) := by decide +kernel
theorem dX3_init_1 : decode cX3_init 1 = .ok (.invokespecial 1, 3) := by decide +kernel
theorem dX3_init_4 : decode cX3_init 4 = .ok (.aload_n 0, 1) := by decide +kernel
theorem dX3_init_5 : decode cX3_init 5 = .ok (.iload_n 1, 1) := by decide +kernel
theorem dX3_init_6 : decode cX3_init 6 = .ok (.putfield 7, 3) := by decide +kernel
theorem dX3_init_9 : decode cX3_init 9 = .ok (.aload_n 0, 1) := by decide +kernel
theorem dX3_init_10 : decode cX3_init 10 = .ok (.new 13, 3) := by decide +kernel
theorem dX3_init_13 : decode cX3_init 13 = .ok (.dup, 1) := by decide +kernel
theorem dX3_init_14 : decode cX3_init 14 = .ok (.iload_n 1, 1) := by decide +kernel
theorem dX3_init_15 : decode cX3_init 15 = .ok (.invokespecial 15, 3) := by decide +kernel
theorem dX3_init_18 : decode cX3_init 18 = .ok (.putfield 18, 3) := by decide +kernel
theorem dX3_init_21 : decode cX3_init 21 = .ok (.aload_n 0, 1) := by decide +kernel
theorem dX3_init_22 : decode cX3_init 22 = .ok (.iconst 0, 1) := by decide +kernel
theorem dX3_init_23 : decode cX3_init 23 = .ok (.putfield 22, 3) := by decide +kernel
theorem dX3_init_26 : decode cX3_init 26 = .ok (.return_, 1) := by decide +kernel
theorem dX3_forget_0 : decode cX3_forget 0 = .ok (.aload_n 0, 1) := by decide +kernel
theorem dX3_forget_1 : decode cX3_forget 1 = .ok (.iconst 0, 1) := by decide +kernel
theorem dX3_forget_2 : decode cX3_forget 2 = .ok (.putfield 22, 3) := by decide +kernel
theorem dX3_forget_5 : decode cX3_forget 5 = .ok (.return_, 1) := by decide +kernel
theorem dX3_told_0 : decode cX3_told 0 = .ok (.aload_n 0, 1) := by decide +kernel
theorem dX3_told_1 : decode cX3_told 1 = .ok (.getfield 22, 3) := by decide +kernel
theorem dX3_told_4 : decode cX3_told 4 = .ok (.ireturn, 1) := by decide +kernel
theorem dX3_isFull_0 : decode cX3_isFull 0 = .ok (.aload_n 0, 1) := by decide +kernel
theorem dX3_isFull_1 : decode cX3_isFull 1 = .ok (.getfield 22, 3) := by decide +kernel
theorem dX3_isFull_4 : decode cX3_isFull 4 = .ok (.aload_n 0, 1) := by decide +kernel
theorem dX3_isFull_5 : decode cX3_isFull 5 = .ok (.getfield 7, 3) := by decide +kernel
theorem dX3_isFull_8 : decode cX3_isFull 8 = .ok (.if_icmp .lt 7, 3) := by decide +kernel
theorem dX3_isFull_11 : decode cX3_isFull 11 = .ok (.iconst 1, 1) := by decide +kernel
theorem dX3_isFull_12 : decode cX3_isFull 12 = .ok (.goto 4, 3) := by decide +kernel
theorem dX3_isFull_15 : decode cX3_isFull 15 = .ok (.iconst 0, 1) := by decide +kernel
theorem dX3_isFull_16 : decode cX3_isFull 16 = .ok (.ireturn, 1) := by decide +kernel
theorem dX3_find_0 : decode cX3_find 0 = .ok (.iconst 0, 1) := by decide +kernel
theorem dX3_find_1 : decode cX3_find 1 = .ok (.istore_n 2, 1) := by decide +kernel
theorem dX3_find_2 : decode cX3_find 2 = .ok (.iload_n 2, 1) := by decide +kernel
theorem dX3_find_3 : decode cX3_find 3 = .ok (.aload_n 0, 1) := by decide +kernel
theorem dX3_find_4 : decode cX3_find 4 = .ok (.getfield 22, 3) := by decide +kernel
theorem dX3_find_7 : decode cX3_find 7 = .ok (.if_icmp .ge 23, 3) := by decide +kernel
theorem dX3_find_10 : decode cX3_find 10 = .ok (.aload_n 0, 1) := by decide +kernel
theorem dX3_find_11 : decode cX3_find 11 = .ok (.getfield 18, 3) := by decide +kernel
theorem dX3_find_14 : decode cX3_find 14 = .ok (.iload_n 2, 1) := by decide +kernel
theorem dX3_find_15 : decode cX3_find 15 = .ok (.invokevirtual 25, 3) := by decide +kernel
theorem dX3_find_18 : decode cX3_find 18 = .ok (.iload_n 1, 1) := by decide +kernel
theorem dX3_find_19 : decode cX3_find 19 = .ok (.if_icmp .ne 5, 3) := by decide +kernel
theorem dX3_find_22 : decode cX3_find 22 = .ok (.iload_n 2, 1) := by decide +kernel
theorem dX3_find_23 : decode cX3_find 23 = .ok (.ireturn, 1) := by decide +kernel
theorem dX3_find_24 : decode cX3_find 24 = .ok (.iinc 2 1, 3) := by decide +kernel
theorem dX3_find_27 : decode cX3_find 27 = .ok (.goto (-25), 3) := by decide +kernel
theorem dX3_find_30 : decode cX3_find 30 = .ok (.iconst (-1), 1) := by decide +kernel
theorem dX3_find_31 : decode cX3_find 31 = .ok (.ireturn, 1) := by decide +kernel
theorem dX3_add_0 : decode cX3_add 0 = .ok (.aload_n 0, 1) := by decide +kernel
theorem dX3_add_1 : decode cX3_add 1 = .ok (.getfield 18, 3) := by decide +kernel
theorem dX3_add_4 : decode cX3_add 4 = .ok (.aload_n 0, 1) := by decide +kernel
theorem dX3_add_5 : decode cX3_add 5 = .ok (.getfield 22, 3) := by decide +kernel
theorem dX3_add_8 : decode cX3_add 8 = .ok (.iload_n 1, 1) := by decide +kernel
theorem dX3_add_9 : decode cX3_add 9 = .ok (.invokevirtual 29, 3) := by decide +kernel
theorem dX3_add_12 : decode cX3_add 12 = .ok (.aload_n 0, 1) := by decide +kernel
theorem dX3_add_13 : decode cX3_add 13 = .ok (.dup, 1) := by decide +kernel
theorem dX3_add_14 : decode cX3_add 14 = .ok (.getfield 22, 3) := by decide +kernel
theorem dX3_add_17 : decode cX3_add 17 = .ok (.iconst 1, 1) := by decide +kernel
theorem dX3_add_18 : decode cX3_add 18 = .ok (.iadd, 1) := by decide +kernel
theorem dX3_add_19 : decode cX3_add 19 = .ok (.putfield 22, 3) := by decide +kernel
theorem dX3_add_22 : decode cX3_add 22 = .ok (.aload_n 0, 1) := by decide +kernel
theorem dX3_add_23 : decode cX3_add 23 = .ok (.getfield 22, 3) := by decide +kernel
theorem dX3_add_26 : decode cX3_add 26 = .ok (.iconst 1, 1) := by decide +kernel
theorem dX3_add_27 : decode cX3_add 27 = .ok (.isub, 1) := by decide +kernel
theorem dX3_add_28 : decode cX3_add 28 = .ok (.ireturn, 1) := by decide +kernel
theorem dX4_init_0 : decode cX4_init 0 = .ok (.aload_n 0, 1) := by decide +kernel
theorem dX4_init_1 : decode cX4_init 1 = .ok (.invokespecial 1, 3) := by decide +kernel
theorem dX4_init_4 : decode cX4_init 4 = .ok (.aload_n 0, 1) := by decide +kernel
theorem dX4_init_5 : decode cX4_init 5 = .ok (.new 7, 3) := by decide +kernel
theorem dX4_init_8 : decode cX4_init 8 = .ok (.dup, 1) := by decide +kernel
theorem dX4_init_9 : decode cX4_init 9 = .ok (.iconst 4, 1) := by decide +kernel
theorem dX4_init_10 : decode cX4_init 10 = .ok (.invokespecial 11, 3) := by decide +kernel
theorem dX4_init_13 : decode cX4_init 13 = .ok (.putfield 14, 3) := by decide +kernel
theorem dX4_init_16 : decode cX4_init 16 = .ok (.aload_n 0, 1) := by decide +kernel
theorem dX4_init_17 : decode cX4_init 17 = .ok (.new 7, 3) := by decide +kernel
theorem dX4_init_20 : decode cX4_init 20 = .ok (.dup, 1) := by decide +kernel
theorem dX4_init_21 : decode cX4_init 21 = .ok (.iconst 4, 1) := by decide +kernel
theorem dX4_init_22 : decode cX4_init 22 = .ok (.invokespecial 11, 3) := by decide +kernel
theorem dX4_init_25 : decode cX4_init 25 = .ok (.putfield 18, 3) := by decide +kernel
theorem dX4_init_28 : decode cX4_init 28 = .ok (.aload_n 0, 1) := by decide +kernel
theorem dX4_init_29 : decode cX4_init 29 = .ok (.new 7, 3) := by decide +kernel
theorem dX4_init_32 : decode cX4_init 32 = .ok (.dup, 1) := by decide +kernel
theorem dX4_init_33 : decode cX4_init 33 = .ok (.iconst 4, 1) := by decide +kernel
theorem dX4_init_34 : decode cX4_init 34 = .ok (.invokespecial 11, 3) := by decide +kernel
theorem dX4_init_37 : decode cX4_init 37 = .ok (.putfield 21, 3) := by decide +kernel
theorem dX4_init_40 : decode cX4_init 40 = .ok (.aload_n 0, 1) := by decide +kernel
theorem dX4_init_41 : decode cX4_init 41 = .ok (.new 7, 3) := by decide +kernel
theorem dX4_init_44 : decode cX4_init 44 = .ok (.dup, 1) := by decide +kernel
theorem dX4_init_45 : decode cX4_init 45 = .ok (.bipush 6, 2) := by decide +kernel
theorem dX4_init_47 : decode cX4_init 47 = .ok (.invokespecial 11, 3) := by decide +kernel
theorem dX4_init_50 : decode cX4_init 50 = .ok (.putfield 24, 3) := by decide +kernel
theorem dX4_init_53 : decode cX4_init 53 = .ok (.aload_n 0, 1) := by decide +kernel
theorem dX4_init_54 : decode cX4_init 54 = .ok (.new 7, 3) := by decide +kernel
theorem dX4_init_57 : decode cX4_init 57 = .ok (.dup, 1) := by decide +kernel
theorem dX4_init_58 : decode cX4_init 58 = .ok (.bipush 6, 2) := by decide +kernel
theorem dX4_init_60 : decode cX4_init 60 = .ok (.invokespecial 11, 3) := by decide +kernel
theorem dX4_init_63 : decode cX4_init 63 = .ok (.putfield 27, 3) := by decide +kernel
theorem dX4_init_66 : decode cX4_init 66 = .ok (.aload_n 0, 1) := by decide +kernel
theorem dX4_init_67 : decode cX4_init 67 = .ok (.new 7, 3) := by decide +kernel
theorem dX4_init_70 : decode cX4_init 70 = .ok (.dup, 1) := by decide +kernel
theorem dX4_init_71 : decode cX4_init 71 = .ok (.bipush 10, 2) := by decide +kernel
theorem dX4_init_73 : decode cX4_init 73 = .ok (.invokespecial 11, 3) := by decide +kernel
theorem dX4_init_76 : decode cX4_init 76 = .ok (.putfield 30, 3) := by decide +kernel
theorem dX4_init_79 : decode cX4_init 79 = .ok (.aload_n 0, 1) := by decide +kernel
theorem dX4_init_80 : decode cX4_init 80 = .ok (.new 7, 3) := by decide +kernel
theorem dX4_init_83 : decode cX4_init 83 = .ok (.dup, 1) := by decide +kernel
theorem dX4_init_84 : decode cX4_init 84 = .ok (.bipush 10, 2) := by decide +kernel
theorem dX4_init_86 : decode cX4_init 86 = .ok (.invokespecial 11, 3) := by decide +kernel
theorem dX4_init_89 : decode cX4_init 89 = .ok (.putfield 33, 3) := by decide +kernel
theorem dX4_init_92 : decode cX4_init 92 = .ok (.aload_n 0, 1) := by decide +kernel
theorem dX4_init_93 : decode cX4_init 93 = .ok (.new 7, 3) := by decide +kernel
theorem dX4_init_96 : decode cX4_init 96 = .ok (.dup, 1) := by decide +kernel
theorem dX4_init_97 : decode cX4_init 97 = .ok (.bipush 10, 2) := by decide +kernel
theorem dX4_init_99 : decode cX4_init 99 = .ok (.invokespecial 11, 3) := by decide +kernel
theorem dX4_init_102 : decode cX4_init 102 = .ok (.putfield 36, 3) := by decide +kernel
theorem dX4_init_105 : decode cX4_init 105 = .ok (.aload_n 0, 1) := by decide +kernel
theorem dX4_init_106 : decode cX4_init 106 = .ok (.new 7, 3) := by decide +kernel
theorem dX4_init_109 : decode cX4_init 109 = .ok (.dup, 1) := by decide +kernel
theorem dX4_init_110 : decode cX4_init 110 = .ok (.bipush 24, 2) := by decide +kernel
theorem dX4_init_112 : decode cX4_init 112 = .ok (.invokespecial 11, 3) := by decide +kernel
theorem dX4_init_115 : decode cX4_init 115 = .ok (.putfield 39, 3) := by decide +kernel
theorem dX4_init_118 : decode cX4_init 118 = .ok (.aload_n 0, 1) := by decide +kernel
theorem dX4_init_119 : decode cX4_init 119 = .ok (.new 7, 3) := by decide +kernel
theorem dX4_init_122 : decode cX4_init 122 = .ok (.dup, 1) := by decide +kernel
theorem dX4_init_123 : decode cX4_init 123 = .ok (.bipush 24, 2) := by decide +kernel
theorem dX4_init_125 : decode cX4_init 125 = .ok (.invokespecial 11, 3) := by decide +kernel
theorem dX4_init_128 : decode cX4_init 128 = .ok (.putfield 42, 3) := by decide +kernel
theorem dX4_init_131 : decode cX4_init 131 = .ok (.aload_n 0, 1) := by decide +kernel
theorem dX4_init_132 : decode cX4_init 132 = .ok (.new 7, 3) := by decide +kernel
theorem dX4_init_135 : decode cX4_init 135 = .ok (.dup, 1) := by decide +kernel
theorem dX4_init_136 : decode cX4_init 136 = .ok (.bipush 24, 2) := by decide +kernel
theorem dX4_init_138 : decode cX4_init 138 = .ok (.invokespecial 11, 3) := by decide +kernel
theorem dX4_init_141 : decode cX4_init 141 = .ok (.putfield 45, 3) := by decide +kernel
theorem dX4_init_144 : decode cX4_init 144 = .ok (.aload_n 0, 1) := by decide +kernel
theorem dX4_init_145 : decode cX4_init 145 = .ok (.new 7, 3) := by decide +kernel
theorem dX4_init_148 : decode cX4_init 148 = .ok (.dup, 1) := by decide +kernel
theorem dX4_init_149 : decode cX4_init 149 = .ok (.bipush 24, 2) := by decide +kernel
theorem dX4_init_151 : decode cX4_init 151 = .ok (.invokespecial 11, 3) := by decide +kernel
theorem dX4_init_154 : decode cX4_init 154 = .ok (.putfield 48, 3) := by decide +kernel
theorem dX4_init_157 : decode cX4_init 157 = .ok (.aload_n 0, 1) := by decide +kernel
theorem dX4_init_158 : decode cX4_init 158 = .ok (.new 7, 3) := by decide +kernel
theorem dX4_init_161 : decode cX4_init 161 = .ok (.dup, 1) := by decide +kernel
theorem dX4_init_162 : decode cX4_init 162 = .ok (.bipush 24, 2) := by decide +kernel
theorem dX4_init_164 : decode cX4_init 164 = .ok (.invokespecial 11, 3) := by decide +kernel
theorem dX4_init_167 : decode cX4_init 167 = .ok (.putfield 51, 3) := by decide +kernel
theorem dX4_init_170 : decode cX4_init 170 = .ok (.aload_n 0, 1) := by decide +kernel
theorem dX4_init_171 : decode cX4_init 171 = .ok (.new 7, 3) := by decide +kernel
theorem dX4_init_174 : decode cX4_init 174 = .ok (.dup, 1) := by decide +kernel
theorem dX4_init_175 : decode cX4_init 175 = .ok (.bipush 24, 2) := by decide +kernel
theorem dX4_init_177 : decode cX4_init 177 = .ok (.invokespecial 11, 3) := by decide +kernel
theorem dX4_init_180 : decode cX4_init 180 = .ok (.putfield 54, 3) := by decide +kernel
theorem dX4_init_183 : decode cX4_init 183 = .ok (.aload_n 0, 1) := by decide +kernel
theorem dX4_init_184 : decode cX4_init 184 = .ok (.new 57, 3) := by decide +kernel
theorem dX4_init_187 : decode cX4_init 187 = .ok (.dup, 1) := by decide +kernel
theorem dX4_init_188 : decode cX4_init 188 = .ok (.invokespecial 59, 3) := by decide +kernel
theorem dX4_init_191 : decode cX4_init 191 = .ok (.putfield 60, 3) := by decide +kernel
theorem dX4_init_194 : decode cX4_init 194 = .ok (.return_, 1) := by decide +kernel
theorem dX4_copyFrom_0 : decode cX4_copyFrom 0 = .ok (.aload_n 0, 1) := by decide +kernel
theorem dX4_copyFrom_1 : decode cX4_copyFrom 1 = .ok (.aload_n 1, 1) := by decide +kernel
theorem dX4_copyFrom_2 : decode cX4_copyFrom 2 = .ok (.getfield 64, 3) := by decide +kernel
theorem dX4_copyFrom_5 : decode cX4_copyFrom 5 = .ok (.putfield 64, 3) := by decide +kernel
theorem dX4_copyFrom_8 : decode cX4_copyFrom 8 = .ok (.aload_n 0, 1) := by decide +kernel
theorem dX4_copyFrom_9 : decode cX4_copyFrom 9 = .ok (.aload_n 1, 1) := by decide +kernel
theorem dX4_copyFrom_10 : decode cX4_copyFrom 10 = .ok (.getfield 68, 3) := by decide +kernel
theorem dX4_copyFrom_13 : decode cX4_copyFrom 13 = .ok (.putfield 68, 3) := by decide +kernel
theorem dX4_copyFrom_16 : decode cX4_copyFrom 16 = .ok (.aload_n 0, 1) := by decide +kernel
theorem dX4_copyFrom_17 : decode cX4_copyFrom 17 = .ok (.aload_n 1, 1) := by decide +kernel
theorem dX4_copyFrom_18 : decode cX4_copyFrom 18 = .ok (.getfield 71, 3) := by decide +kernel
theorem dX4_copyFrom_21 : decode cX4_copyFrom 21 = .ok (.putfield 71, 3) := by decide +kernel
theorem dX4_copyFrom_24 : decode cX4_copyFrom 24 = .ok (.aload_n 0, 1) := by decide +kernel
theorem dX4_copyFrom_25 : decode cX4_copyFrom 25 = .ok (.aload_n 1, 1) := by decide +kernel
theorem dX4_copyFrom_26 : decode cX4_copyFrom 26 = .ok (.getfield 74, 3) := by decide +kernel
theorem dX4_copyFrom_29 : decode cX4_copyFrom 29 = .ok (.putfield 74, 3) := by decide +kernel
theorem dX4_copyFrom_32 : decode cX4_copyFrom 32 = .ok (.aload_n 0, 1) := by decide +kernel
theorem dX4_copyFrom_33 : decode cX4_copyFrom 33 = .ok (.aload_n 1, 1) := by decide +kernel
theorem dX4_copyFrom_34 : decode cX4_copyFrom 34 = .ok (.getfield 77, 3) := by decide +kernel
theorem dX4_copyFrom_37 : decode cX4_copyFrom 37 = .ok (.putfield 77, 3) := by decide +kernel
theorem dX4_copyFrom_40 : decode cX4_copyFrom 40 = .ok (.aload_n 0, 1) := by decide +kernel
theorem dX4_copyFrom_41 : decode cX4_copyFrom 41 = .ok (.getfield 14, 3) := by decide +kernel
theorem dX4_copyFrom_44 : decode cX4_copyFrom 44 = .ok (.aload_n 1, 1) := by decide +kernel
theorem dX4_copyFrom_45 : decode cX4_copyFrom 45 = .ok (.getfield 14, 3) := by decide +kernel
theorem dX4_copyFrom_48 : decode cX4_copyFrom 48 = .ok (.invokevirtual 80, 3) := by decide +kernel
theorem dX4_copyFrom_51 : decode cX4_copyFrom 51 = .ok (.aload_n 0, 1) := by decide +kernel
theorem dX4_copyFrom_52 : decode cX4_copyFrom 52 = .ok (.getfield 18, 3) := by decide +kernel
theorem dX4_copyFrom_55 : decode cX4_copyFrom 55 = .ok (.aload_n 1, 1) := by decide +kernel
theorem dX4_copyFrom_56 : decode cX4_copyFrom 56 = .ok (.getfield 18, 3) := by decide +kernel
theorem dX4_copyFrom_59 : decode cX4_copyFrom 59 = .ok (.invokevirtual 80, 3) := by decide +kernel
theorem dX4_copyFrom_62 : decode cX4_copyFrom 62 = .ok (.aload_n 0, 1) := by decide +kernel
theorem dX4_copyFrom_63 : decode cX4_copyFrom 63 = .ok (.getfield 21, 3) := by decide +kernel
theorem dX4_copyFrom_66 : decode cX4_copyFrom 66 = .ok (.aload_n 1, 1) := by decide +kernel
theorem dX4_copyFrom_67 : decode cX4_copyFrom 67 = .ok (.getfield 21, 3) := by decide +kernel
theorem dX4_copyFrom_70 : decode cX4_copyFrom 70 = .ok (.invokevirtual 80, 3) := by decide +kernel
theorem dX4_copyFrom_73 : decode cX4_copyFrom 73 = .ok (.aload_n 0, 1) := by decide +kernel
theorem dX4_copyFrom_74 : decode cX4_copyFrom 74 = .ok (.getfield 24, 3) := by decide +kernel
theorem dX4_copyFrom_77 : decode cX4_copyFrom 77 = .ok (.aload_n 1, 1) := by decide +kernel
theorem dX4_copyFrom_78 : decode cX4_copyFrom 78 = .ok (.getfield 24, 3) := by decide +kernel
theorem dX4_copyFrom_81 : decode cX4_copyFrom 81 = .ok (.invokevirtual 80, 3) := by decide +kernel
theorem dX4_copyFrom_84 : decode cX4_copyFrom 84 = .ok (.aload_n 0, 1) := by decide +kernel
theorem dX4_copyFrom_85 : decode cX4_copyFrom 85 = .ok (.getfield 27, 3) := by decide +kernel
theorem dX4_copyFrom_88 : decode cX4_copyFrom 88 = .ok (.aload_n 1, 1) := by decide +kernel
theorem dX4_copyFrom_89 : decode cX4_copyFrom 89 = .ok (.getfield 27, 3) := by decide +kernel
theorem dX4_copyFrom_92 : decode cX4_copyFrom 92 = .ok (.invokevirtual 80, 3) := by decide +kernel
theorem dX4_copyFrom_95 : decode cX4_copyFrom 95 = .ok (.aload_n 0, 1) := by decide +kernel
theorem dX4_copyFrom_96 : decode cX4_copyFrom 96 = .ok (.getfield 30, 3) := by decide +kernel
theorem dX4_copyFrom_99 : decode cX4_copyFrom 99 = .ok (.aload_n 1, 1) := by decide +kernel
theorem dX4_copyFrom_100 : decode cX4_copyFrom 100 = .ok (.getfield 30, 3) := by decide +kernel
theorem dX4_copyFrom_103 : decode cX4_copyFrom 103 = .ok (.invokevirtual 80, 3) := by decide +kernel
theorem dX4_copyFrom_106 : decode cX4_copyFrom 106 = .ok (.aload_n 0, 1) := by decide +kernel
theorem dX4_copyFrom_107 : decode cX4_copyFrom 107 = .ok (.getfield 33, 3) := by decide +kernel
theorem dX4_copyFrom_110 : decode cX4_copyFrom 110 = .ok (.aload_n 1, 1) := by decide +kernel
theorem dX4_copyFrom_111 : decode cX4_copyFrom 111 = .ok (.getfield 33, 3) := by decide +kernel
theorem dX4_copyFrom_114 : decode cX4_copyFrom 114 = .ok (.invokevirtual 80, 3) := by decide +kernel
theorem dX4_copyFrom_117 : decode cX4_copyFrom 117 = .ok (.aload_n 0, 1) := by decide +kernel
theorem dX4_copyFrom_118 : decode cX4_copyFrom 118 = .ok (.getfield 36, 3) := by decide +kernel
theorem dX4_copyFrom_121 : decode cX4_copyFrom 121 = .ok (.aload_n 1, 1) := by decide +kernel
theorem dX4_copyFrom_122 : decode cX4_copyFrom 122 = .ok (.getfield 36, 3) := by decide +kernel
theorem dX4_copyFrom_125 : decode cX4_copyFrom 125 = .ok (.invokevirtual 80, 3) := by decide +kernel
theorem dX4_copyFrom_128 : decode cX4_copyFrom 128 = .ok (.aload_n 0, 1) := by decide +kernel
theorem dX4_copyFrom_129 : decode cX4_copyFrom 129 = .ok (.getfield 39, 3) := by decide +kernel
theorem dX4_copyFrom_132 : decode cX4_copyFrom 132 = .ok (.aload_n 1, 1) := by decide +kernel
theorem dX4_copyFrom_133 : decode cX4_copyFrom 133 = .ok (.getfield 39, 3) := by decide +kernel
theorem dX4_copyFrom_136 : decode cX4_copyFrom 136 = .ok (.invokevirtual 80, 3) := by decide +kernel
theorem dX4_copyFrom_139 : decode cX4_copyFrom 139 = .ok (.aload_n 0, 1) := by decide +kernel
theorem dX4_copyFrom_140 : decode cX4_copyFrom 140 = .ok (.getfield 42, 3) := by decide +kernel
theorem dX4_copyFrom_143 : decode cX4_copyFrom 143 = .ok (.aload_n 1, 1) := by decide +kernel
theorem dX4_copyFrom_144 : decode cX4_copyFrom 144 = .ok (.getfield 42, 3) := by decide +kernel
theorem dX4_copyFrom_147 : decode cX4_copyFrom 147 = .ok (.invokevirtual 80, 3) := by decide +kernel
theorem dX4_copyFrom_150 : decode cX4_copyFrom 150 = .ok (.aload_n 0, 1) := by decide +kernel
theorem dX4_copyFrom_151 : decode cX4_copyFrom 151 = .ok (.getfield 45, 3) := by decide +kernel
theorem dX4_copyFrom_154 : decode cX4_copyFrom 154 = .ok (.aload_n 1, 1) := by decide +kernel
theorem dX4_copyFrom_155 : decode cX4_copyFrom 155 = .ok (.getfield 45, 3) := by decide +kernel
theorem dX4_copyFrom_158 : decode cX4_copyFrom 158 = .ok (.invokevirtual 80, 3) := by decide +kernel
theorem dX4_copyFrom_161 : decode cX4_copyFrom 161 = .ok (.aload_n 0, 1) := by decide +kernel
theorem dX4_copyFrom_162 : decode cX4_copyFrom 162 = .ok (.getfield 48, 3) := by decide +kernel
theorem dX4_copyFrom_165 : decode cX4_copyFrom 165 = .ok (.aload_n 1, 1) := by decide +kernel
theorem dX4_copyFrom_166 : decode cX4_copyFrom 166 = .ok (.getfield 48, 3) := by decide +kernel
theorem dX4_copyFrom_169 : decode cX4_copyFrom 169 = .ok (.invokevirtual 80, 3) := by decide +kernel
theorem dX4_copyFrom_172 : decode cX4_copyFrom 172 = .ok (.aload_n 0, 1) := by decide +kernel
theorem dX4_copyFrom_173 : decode cX4_copyFrom 173 = .ok (.getfield 51, 3) := by decide +kernel
theorem dX4_copyFrom_176 : decode cX4_copyFrom 176 = .ok (.aload_n 1, 1) := by decide +kernel
theorem dX4_copyFrom_177 : decode cX4_copyFrom 177 = .ok (.getfield 51, 3) := by decide +kernel
theorem dX4_copyFrom_180 : decode cX4_copyFrom 180 = .ok (.invokevirtual 80, 3) := by decide +kernel
theorem dX4_copyFrom_183 : decode cX4_copyFrom 183 = .ok (.aload_n 0, 1) := by decide +kernel
theorem dX4_copyFrom_184 : decode cX4_copyFrom 184 = .ok (.getfield 54, 3) := by decide +kernel
theorem dX4_copyFrom_187 : decode cX4_copyFrom 187 = .ok (.aload_n 1, 1) := by decide +kernel
theorem dX4_copyFrom_188 : decode cX4_copyFrom 188 = .ok (.getfield 54, 3) := by decide +kernel
theorem dX4_copyFrom_191 : decode cX4_copyFrom 191 = .ok (.invokevirtual 80, 3) := by decide +kernel
theorem dX4_copyFrom_194 : decode cX4_copyFrom 194 = .ok (.aload_n 0, 1) := by decide +kernel
theorem dX4_copyFrom_195 : decode cX4_copyFrom 195 = .ok (.getfield 60, 3) := by decide +kernel
theorem dX4_copyFrom_198 : decode cX4_copyFrom 198 = .ok (.aload_n 1, 1) := by decide +kernel
theorem dX4_copyFrom_199 : decode cX4_copyFrom 199 = .ok (.getfield 60, 3) := by decide +kernel
theorem dX4_copyFrom_202 : decode cX4_copyFrom 202 = .ok (.invokevirtual 84, 3) := by decide +kernel
theorem dX4_copyFrom_205 : decode cX4_copyFrom 205 = .ok (.return_, 1) := by decide +kernel
theorem dX5_init_0 : decode cX5_init 0 = .ok (.aload_n 0, 1) := by decide +kernel
theorem dX5_init_1 : decode cX5_init 1 = .ok (.invokespecial 1, 3) := by decide +kernel
theorem dX5_init_4 : decode cX5_init 4 = .ok (.aload_n 0, 1) := by decide +kernel
theorem dX5_init_5 : decode cX5_init 5 = .ok (.aload_n 1, 1) := by decide +kernel
theorem dX5_init_6 : decode cX5_init 6 = .ok (.putfield 7, 3) := by decide +kernel
theorem dX5_init_9 : decode cX5_init 9 = .ok (.aload_n 0, 1) := by decide +kernel
theorem dX5_init_10 : decode cX5_init 10 = .ok (.new 13, 3) := by decide +kernel
theorem dX5_init_13 : decode cX5_init 13 = .ok (.dup, 1) := by decide +kernel
theorem dX5_init_14 : decode cX5_init 14 = .ok (.invokespecial 15, 3) := by decide +kernel
theorem dX5_init_17 : decode cX5_init 17 = .ok (.putfield 16, 3) := by decide +kernel
theorem dX5_init_20 : decode cX5_init 20 = .ok (.aload_n 0, 1) := by decide +kernel
theorem dX5_init_21 : decode cX5_init 21 = .ok (.new 20, 3) := by decide +kernel
theorem dX5_init_24 : decode cX5_init 24 = .ok (.dup, 1) := by decide +kernel
theorem dX5_init_25 : decode cX5_init 25 = .ok (.iconst 4, 1) := by decide +kernel
theorem dX5_init_26 : decode cX5_init 26 = .ok (.invokespecial 22, 3) := by decide +kernel
theorem dX5_init_29 : decode cX5_init 29 = .ok (.putfield 25, 3) := by decide +kernel
theorem dX5_init_32 : decode cX5_init 32 = .ok (.aload_n 0, 1) := by decide +kernel
theorem dX5_init_33 : decode cX5_init 33 = .ok (.new 20, 3) := by decide +kernel
theorem dX5_init_36 : decode cX5_init 36 = .ok (.dup, 1) := by decide +kernel
theorem dX5_init_37 : decode cX5_init 37 = .ok (.iconst 4, 1) := by decide +kernel
theorem dX5_init_38 : decode cX5_init 38 = .ok (.invokespecial 22, 3) := by decide +kernel
theorem dX5_init_41 : decode cX5_init 41 = .ok (.putfield 29, 3) := by decide +kernel
theorem dX5_init_44 : decode cX5_init 44 = .ok (.aload_n 0, 1) := by decide +kernel
theorem dX5_init_45 : decode cX5_init 45 = .ok (.new 20, 3) := by decide +kernel
theorem dX5_init_48 : decode cX5_init 48 = .ok (.dup, 1) := by decide +kernel
theorem dX5_init_49 : decode cX5_init 49 = .ok (.bipush 6, 2) := by decide +kernel
theorem dX5_init_51 : decode cX5_init 51 = .ok (.invokespecial 22, 3) := by decide +kernel
theorem dX5_init_54 : decode cX5_init 54 = .ok (.putfield 32, 3) := by decide +kernel
theorem dX5_init_57 : decode cX5_init 57 = .ok (.aload_n 0, 1) := by decide +kernel
theorem dX5_init_58 : decode cX5_init 58 = .ok (.new 20, 3) := by decide +kernel
theorem dX5_init_61 : decode cX5_init 61 = .ok (.dup, 1) := by decide +kernel
theorem dX5_init_62 : decode cX5_init 62 = .ok (.bipush 10, 2) := by decide +kernel
theorem dX5_init_64 : decode cX5_init 64 = .ok (.invokespecial 22, 3) := by decide +kernel
theorem dX5_init_67 : decode cX5_init 67 = .ok (.putfield 35, 3) := by decide +kernel
theorem dX5_init_70 : decode cX5_init 70 = .ok (.aload_n 0, 1) := by decide +kernel
theorem dX5_init_71 : decode cX5_init 71 = .ok (.iconst 0, 1) := by decide +kernel
theorem dX5_init_72 : decode cX5_init 72 = .ok (.putfield 38, 3) := by decide +kernel
theorem dX5_init_75 : decode cX5_init 75 = .ok (.aload_n 0, 1) := by decide +kernel
theorem dX5_init_76 : decode cX5_init 76 = .ok (.iconst 0, 1) := by decide +kernel
theorem dX5_init_77 : decode cX5_init 77 = .ok (.putfield 42, 3) := by decide +kernel
theorem dX5_init_80 : decode cX5_init 80 = .ok (.aload_n 0, 1) := by decide +kernel
theorem dX5_init_81 : decode cX5_init 81 = .ok (.iconst 0, 1) := by decide +kernel
theorem dX5_init_82 : decode cX5_init 82 = .ok (.putfield 45, 3) := by decide +kernel
theorem dX5_init_85 : decode cX5_init 85 = .ok (.return_, 1) := by decide +kernel
theorem dX5_faultPlace_0 : decode cX5_faultPlace 0 = .ok (.aload_n 0, 1) := by decide +kernel
theorem dX5_faultPlace_1 : decode cX5_faultPlace 1 = .ok (.getfield 42, 3) := by decide +kernel
theorem dX5_faultPlace_4 : decode cX5_faultPlace 4 = .ok (.ifCond .ne 7, 3) := by decide +kernel
theorem dX5_faultPlace_7 : decode cX5_faultPlace 7 = .ok (.iconst (-1), 1) := by decide +kernel
theorem dX5_faultPlace_8 : decode cX5_faultPlace 8 = .ok (.goto 17, 3) := by decide +kernel
theorem dX5_faultPlace_11 : decode cX5_faultPlace 11 = .ok (.aload_n 0, 1) := by decide +kernel
theorem dX5_faultPlace_12 : decode cX5_faultPlace 12 = .ok (.getfield 7, 3) := by decide +kernel
theorem dX5_faultPlace_15 : decode cX5_faultPlace 15 = .ok (.getfield 48, 3) := by decide +kernel
theorem dX5_faultPlace_18 : decode cX5_faultPlace 18 = .ok (.aload_n 0, 1) := by decide +kernel
theorem dX5_faultPlace_19 : decode cX5_faultPlace 19 = .ok (.getfield 45, 3) := by decide +kernel
theorem dX5_faultPlace_22 : decode cX5_faultPlace 22 = .ok (.invokevirtual 54, 3) := by decide +kernel
theorem dX5_faultPlace_25 : decode cX5_faultPlace 25 = .ok (.ireturn, 1) := by decide +kernel
theorem dX5_read_0 : decode cX5_read 0 = .ok (.aload_n 0, 1) := by decide +kernel
theorem dX5_read_1 : decode cX5_read 1 = .ok (.invokevirtual 60, 3) := by decide +kernel
theorem dX5_read_4 : decode cX5_read 4 = .ok (.iconst 0, 1) := by decide +kernel
theorem dX5_read_5 : decode cX5_read 5 = .ok (.istore_n 1, 1) := by decide +kernel
theorem dX5_read_6 : decode cX5_read 6 = .ok (.iload_n 1, 1) := by decide +kernel
theorem dX5_read_7 : decode cX5_read 7 = .ok (.sipush 400, 3) := by decide +kernel
theorem dX5_read_10 : decode cX5_read 10 = .ok (.if_icmp .ge 174, 3) := by decide +kernel
theorem dX5_read_13 : decode cX5_read 13 = .ok (.aload_n 0, 1) := by decide +kernel
theorem dX5_read_14 : decode cX5_read 14 = .ok (.getfield 42, 3) := by decide +kernel
theorem dX5_read_17 : decode cX5_read 17 = .ok (.iconst 1, 1) := by decide +kernel
theorem dX5_read_18 : decode cX5_read 18 = .ok (.if_icmp .eq 166, 3) := by decide +kernel
theorem dX5_read_21 : decode cX5_read 21 = .ok (.aload_n 0, 1) := by decide +kernel
theorem dX5_read_22 : decode cX5_read 22 = .ok (.invokevirtual 63, 3) := by decide +kernel
theorem dX5_read_25 : decode cX5_read 25 = .ok (.bipush 49, 2) := by decide +kernel
theorem dX5_read_27 : decode cX5_read 27 = .ok (.if_icmp .eq 157, 3) := by decide +kernel
theorem dX5_read_30 : decode cX5_read 30 = .ok (.aload_n 0, 1) := by decide +kernel
theorem dX5_read_31 : decode cX5_read 31 = .ok (.invokevirtual 63, 3) := by decide +kernel
theorem dX5_read_34 : decode cX5_read 34 = .ok (.tableswitch 134 0 16 #[82, 134, 89, 134, 134, 96, 134, 134, 103, 134, 134, 134, 110, 134, 118, 134, 126], 82) := by decide +kernel
theorem dX5_read_116 : decode cX5_read 116 = .ok (.aload_n 0, 1) := by decide +kernel
theorem dX5_read_117 : decode cX5_read 117 = .ok (.invokevirtual 69, 3) := by decide +kernel
theorem dX5_read_120 : decode cX5_read 120 = .ok (.goto 52, 3) := by decide +kernel
theorem dX5_read_123 : decode cX5_read 123 = .ok (.aload_n 0, 1) := by decide +kernel
theorem dX5_read_124 : decode cX5_read 124 = .ok (.invokevirtual 72, 3) := by decide +kernel
theorem dX5_read_127 : decode cX5_read 127 = .ok (.goto 45, 3) := by decide +kernel
theorem dX5_read_130 : decode cX5_read 130 = .ok (.aload_n 0, 1) := by decide +kernel
theorem dX5_read_131 : decode cX5_read 131 = .ok (.invokevirtual 75, 3) := by decide +kernel
theorem dX5_read_134 : decode cX5_read 134 = .ok (.goto 38, 3) := by decide +kernel
theorem dX5_read_137 : decode cX5_read 137 = .ok (.aload_n 0, 1) := by decide +kernel
theorem dX5_read_138 : decode cX5_read 138 = .ok (.invokevirtual 78, 3) := by decide +kernel
theorem dX5_read_141 : decode cX5_read 141 = .ok (.goto 31, 3) := by decide +kernel
theorem dX5_read_144 : decode cX5_read 144 = .ok (.aload_n 0, 1) := by decide +kernel
theorem dX5_read_145 : decode cX5_read 145 = .ok (.iconst 0, 1) := by decide +kernel
theorem dX5_read_146 : decode cX5_read 146 = .ok (.invokevirtual 81, 3) := by decide +kernel
theorem dX5_read_149 : decode cX5_read 149 = .ok (.goto 23, 3) := by decide +kernel
theorem dX5_read_152 : decode cX5_read 152 = .ok (.aload_n 0, 1) := by decide +kernel
theorem dX5_read_153 : decode cX5_read 153 = .ok (.iconst 1, 1) := by decide +kernel
theorem dX5_read_154 : decode cX5_read 154 = .ok (.invokevirtual 81, 3) := by decide +kernel
theorem dX5_read_157 : decode cX5_read 157 = .ok (.goto 15, 3) := by decide +kernel
theorem dX5_read_160 : decode cX5_read 160 = .ok (.aload_n 0, 1) := by decide +kernel
theorem dX5_read_161 : decode cX5_read 161 = .ok (.iconst 2, 1) := by decide +kernel
theorem dX5_read_162 : decode cX5_read 162 = .ok (.invokevirtual 81, 3) := by decide +kernel
theorem dX5_read_165 : decode cX5_read 165 = .ok (.goto 7, 3) := by decide +kernel
theorem dX5_read_168 : decode cX5_read 168 = .ok (.aload_n 0, 1) := by decide +kernel
theorem dX5_read_169 : decode cX5_read 169 = .ok (.invokevirtual 84, 3) := by decide +kernel
theorem dX5_read_172 : decode cX5_read 172 = .ok (.aload_n 0, 1) := by decide +kernel
theorem dX5_read_173 : decode cX5_read 173 = .ok (.bipush 36, 2) := by decide +kernel
theorem dX5_read_175 : decode cX5_read 175 = .ok (.invokevirtual 87, 3) := by decide +kernel
theorem dX5_read_178 : decode cX5_read 178 = .ok (.iinc 1 1, 3) := by decide +kernel
theorem dX5_read_181 : decode cX5_read 181 = .ok (.goto (-175), 3) := by decide +kernel
theorem dX5_read_184 : decode cX5_read 184 = .ok (.aload_n 0, 1) := by decide +kernel
theorem dX5_read_185 : decode cX5_read 185 = .ok (.getfield 16, 3) := by decide +kernel
theorem dX5_read_188 : decode cX5_read 188 = .ok (.aload_n 0, 1) := by decide +kernel
theorem dX5_read_189 : decode cX5_read 189 = .ok (.getfield 25, 3) := by decide +kernel
theorem dX5_read_192 : decode cX5_read 192 = .ok (.invokevirtual 90, 3) := by decide +kernel
theorem dX5_read_195 : decode cX5_read 195 = .ok (.putfield 93, 3) := by decide +kernel
theorem dX5_read_198 : decode cX5_read 198 = .ok (.aload_n 0, 1) := by decide +kernel
theorem dX5_read_199 : decode cX5_read 199 = .ok (.getfield 16, 3) := by decide +kernel
theorem dX5_read_202 : decode cX5_read 202 = .ok (.aload_n 0, 1) := by decide +kernel
theorem dX5_read_203 : decode cX5_read 203 = .ok (.getfield 29, 3) := by decide +kernel
theorem dX5_read_206 : decode cX5_read 206 = .ok (.invokevirtual 90, 3) := by decide +kernel
theorem dX5_read_209 : decode cX5_read 209 = .ok (.putfield 95, 3) := by decide +kernel
theorem dX5_read_212 : decode cX5_read 212 = .ok (.aload_n 0, 1) := by decide +kernel
theorem dX5_read_213 : decode cX5_read 213 = .ok (.getfield 16, 3) := by decide +kernel
theorem dX5_read_216 : decode cX5_read 216 = .ok (.aload_n 0, 1) := by decide +kernel
theorem dX5_read_217 : decode cX5_read 217 = .ok (.getfield 32, 3) := by decide +kernel
theorem dX5_read_220 : decode cX5_read 220 = .ok (.invokevirtual 90, 3) := by decide +kernel
theorem dX5_read_223 : decode cX5_read 223 = .ok (.putfield 97, 3) := by decide +kernel
theorem dX5_read_226 : decode cX5_read 226 = .ok (.aload_n 0, 1) := by decide +kernel
theorem dX5_read_227 : decode cX5_read 227 = .ok (.getfield 16, 3) := by decide +kernel
theorem dX5_read_230 : decode cX5_read 230 = .ok (.aload_n 0, 1) := by decide +kernel
theorem dX5_read_231 : decode cX5_read 231 = .ok (.getfield 35, 3) := by decide +kernel
theorem dX5_read_234 : decode cX5_read 234 = .ok (.invokevirtual 90, 3) := by decide +kernel
theorem dX5_read_237 : decode cX5_read 237 = .ok (.putfield 99, 3) := by decide +kernel
theorem dX5_read_240 : decode cX5_read 240 = .ok (.aload_n 0, 1) := by decide +kernel
theorem dX5_read_241 : decode cX5_read 241 = .ok (.getfield 42, 3) := by decide +kernel
theorem dX5_read_244 : decode cX5_read 244 = .ok (.ireturn, 1) := by decide +kernel
theorem dX5_begin_0 : decode cX5_begin 0 = .ok (.aload_n 0, 1) := by decide +kernel
theorem dX5_begin_1 : decode cX5_begin 1 = .ok (.iconst 0, 1) := by decide +kernel
theorem dX5_begin_2 : decode cX5_begin 2 = .ok (.putfield 38, 3) := by decide +kernel
theorem dX5_begin_5 : decode cX5_begin 5 = .ok (.aload_n 0, 1) := by decide +kernel
theorem dX5_begin_6 : decode cX5_begin 6 = .ok (.iconst 0, 1) := by decide +kernel
theorem dX5_begin_7 : decode cX5_begin 7 = .ok (.putfield 42, 3) := by decide +kernel
theorem dX5_begin_10 : decode cX5_begin 10 = .ok (.aload_n 0, 1) := by decide +kernel
theorem dX5_begin_11 : decode cX5_begin 11 = .ok (.iconst 0, 1) := by decide +kernel
theorem dX5_begin_12 : decode cX5_begin 12 = .ok (.putfield 45, 3) := by decide +kernel
theorem dX5_begin_15 : decode cX5_begin 15 = .ok (.aload_n 0, 1) := by decide +kernel
theorem dX5_begin_16 : decode cX5_begin 16 = .ok (.getfield 25, 3) := by decide +kernel
theorem dX5_begin_19 : decode cX5_begin 19 = .ok (.invokevirtual 101, 3) := by decide +kernel
theorem dX5_begin_22 : decode cX5_begin 22 = .ok (.aload_n 0, 1) := by decide +kernel
theorem dX5_begin_23 : decode cX5_begin 23 = .ok (.getfield 29, 3) := by decide +kernel
theorem dX5_begin_26 : decode cX5_begin 26 = .ok (.invokevirtual 101, 3) := by decide +kernel
theorem dX5_begin_29 : decode cX5_begin 29 = .ok (.aload_n 0, 1) := by decide +kernel
theorem dX5_begin_30 : decode cX5_begin 30 = .ok (.getfield 32, 3) := by decide +kernel
theorem dX5_begin_33 : decode cX5_begin 33 = .ok (.invokevirtual 101, 3) := by decide +kernel
theorem dX5_begin_36 : decode cX5_begin 36 = .ok (.aload_n 0, 1) := by decide +kernel
theorem dX5_begin_37 : decode cX5_begin 37 = .ok (.getfield 35, 3) := by decide +kernel
theorem dX5_begin_40 : decode cX5_begin 40 = .ok (.invokevirtual 101, 3) := by decide +kernel
theorem dX5_begin_43 : decode cX5_begin 43 = .ok (.aload_n 0, 1) := by decide +kernel
theorem dX5_begin_44 : decode cX5_begin 44 = .ok (.getfield 16, 3) := by decide +kernel
theorem dX5_begin_47 : decode cX5_begin 47 = .ok (.iconst 0, 1) := by decide +kernel
theorem dX5_begin_48 : decode cX5_begin 48 = .ok (.putfield 104, 3) := by decide +kernel
theorem dX5_begin_51 : decode cX5_begin 51 = .ok (.aload_n 0, 1) := by decide +kernel
theorem dX5_begin_52 : decode cX5_begin 52 = .ok (.getfield 16, 3) := by decide +kernel
theorem dX5_begin_55 : decode cX5_begin 55 = .ok (.getfield 107, 3) := by decide +kernel
theorem dX5_begin_58 : decode cX5_begin 58 = .ok (.iconst 0, 1) := by decide +kernel
theorem dX5_begin_59 : decode cX5_begin 59 = .ok (.putfield 111, 3) := by decide +kernel
theorem dX5_begin_62 : decode cX5_begin 62 = .ok (.return_, 1) := by decide +kernel
theorem dX5_spiceLine_0 : decode cX5_spiceLine 0 = .ok (.aload_n 0, 1) := by decide +kernel
theorem dX5_spiceLine_1 : decode cX5_spiceLine 1 = .ok (.iconst 0, 1) := by decide +kernel
theorem dX5_spiceLine_2 : decode cX5_spiceLine 2 = .ok (.invokevirtual 87, 3) := by decide +kernel
theorem dX5_spiceLine_5 : decode cX5_spiceLine 5 = .ok (.aload_n 0, 1) := by decide +kernel
theorem dX5_spiceLine_6 : decode cX5_spiceLine 6 = .ok (.aload_n 0, 1) := by decide +kernel
theorem dX5_spiceLine_7 : decode cX5_spiceLine 7 = .ok (.getfield 25, 3) := by decide +kernel
theorem dX5_spiceLine_10 : decode cX5_spiceLine 10 = .ok (.invokevirtual 115, 3) := by decide +kernel
theorem dX5_spiceLine_13 : decode cX5_spiceLine 13 = .ok (.istore_n 1, 1) := by decide +kernel
theorem dX5_spiceLine_14 : decode cX5_spiceLine 14 = .ok (.aload_n 0, 1) := by decide +kernel
theorem dX5_spiceLine_15 : decode cX5_spiceLine 15 = .ok (.iconst 1, 1) := by decide +kernel
theorem dX5_spiceLine_16 : decode cX5_spiceLine 16 = .ok (.invokevirtual 87, 3) := by decide +kernel
theorem dX5_spiceLine_19 : decode cX5_spiceLine 19 = .ok (.aload_n 0, 1) := by decide +kernel
theorem dX5_spiceLine_20 : decode cX5_spiceLine 20 = .ok (.getfield 16, 3) := by decide +kernel
theorem dX5_spiceLine_23 : decode cX5_spiceLine 23 = .ok (.getfield 119, 3) := by decide +kernel
theorem dX5_spiceLine_26 : decode cX5_spiceLine 26 = .ok (.iload_n 1, 1) := by decide +kernel
theorem dX5_spiceLine_27 : decode cX5_spiceLine 27 = .ok (.aload_n 0, 1) := by decide +kernel
theorem dX5_spiceLine_28 : decode cX5_spiceLine 28 = .ok (.iconst 0, 1) := by decide +kernel
theorem dX5_spiceLine_29 : decode cX5_spiceLine 29 = .ok (.bipush 9, 2) := by decide +kernel
theorem dX5_spiceLine_31 : decode cX5_spiceLine 31 = .ok (.invokevirtual 122, 3) := by decide +kernel
theorem dX5_spiceLine_34 : decode cX5_spiceLine 34 = .ok (.invokevirtual 126, 3) := by decide +kernel
theorem dX5_spiceLine_37 : decode cX5_spiceLine 37 = .ok (.return_, 1) := by decide +kernel
theorem dX5_guildLine_0 : decode cX5_guildLine 0 = .ok (.aload_n 0, 1) := by decide +kernel
theorem dX5_guildLine_1 : decode cX5_guildLine 1 = .ok (.iconst 2, 1) := by decide +kernel
theorem dX5_guildLine_2 : decode cX5_guildLine 2 = .ok (.invokevirtual 87, 3) := by decide +kernel
theorem dX5_guildLine_5 : decode cX5_guildLine 5 = .ok (.aload_n 0, 1) := by decide +kernel
theorem dX5_guildLine_6 : decode cX5_guildLine 6 = .ok (.aload_n 0, 1) := by decide +kernel
theorem dX5_guildLine_7 : decode cX5_guildLine 7 = .ok (.getfield 29, 3) := by decide +kernel
theorem dX5_guildLine_10 : decode cX5_guildLine 10 = .ok (.invokevirtual 115, 3) := by decide +kernel
theorem dX5_guildLine_13 : decode cX5_guildLine 13 = .ok (.istore_n 1, 1) := by decide +kernel
theorem dX5_guildLine_14 : decode cX5_guildLine 14 = .ok (.aload_n 0, 1) := by decide +kernel
theorem dX5_guildLine_15 : decode cX5_guildLine 15 = .ok (.iconst 3, 1) := by decide +kernel
theorem dX5_guildLine_16 : decode cX5_guildLine 16 = .ok (.invokevirtual 87, 3) := by decide +kernel
theorem dX5_guildLine_19 : decode cX5_guildLine 19 = .ok (.aload_n 0, 1) := by decide +kernel
theorem dX5_guildLine_20 : decode cX5_guildLine 20 = .ok (.getfield 16, 3) := by decide +kernel
theorem dX5_guildLine_23 : decode cX5_guildLine 23 = .ok (.getfield 130, 3) := by decide +kernel
theorem dX5_guildLine_26 : decode cX5_guildLine 26 = .ok (.iload_n 1, 1) := by decide +kernel
theorem dX5_guildLine_27 : decode cX5_guildLine 27 = .ok (.aload_n 0, 1) := by decide +kernel
theorem dX5_guildLine_28 : decode cX5_guildLine 28 = .ok (.iconst 0, 1) := by decide +kernel
theorem dX5_guildLine_29 : decode cX5_guildLine 29 = .ok (.bipush 99, 2) := by decide +kernel
theorem dX5_guildLine_31 : decode cX5_guildLine 31 = .ok (.invokevirtual 122, 3) := by decide +kernel
theorem dX5_guildLine_34 : decode cX5_guildLine 34 = .ok (.invokevirtual 126, 3) := by decide +kernel
theorem dX5_guildLine_37 : decode cX5_guildLine 37 = .ok (.aload_n 0, 1) := by decide +kernel
theorem dX5_guildLine_38 : decode cX5_guildLine 38 = .ok (.iconst 4, 1) := by decide +kernel
theorem dX5_guildLine_39 : decode cX5_guildLine 39 = .ok (.invokevirtual 87, 3) := by decide +kernel
theorem dX5_guildLine_42 : decode cX5_guildLine 42 = .ok (.aload_n 0, 1) := by decide +kernel
theorem dX5_guildLine_43 : decode cX5_guildLine 43 = .ok (.getfield 16, 3) := by decide +kernel
theorem dX5_guildLine_46 : decode cX5_guildLine 46 = .ok (.getfield 133, 3) := by decide +kernel
theorem dX5_guildLine_49 : decode cX5_guildLine 49 = .ok (.iload_n 1, 1) := by decide +kernel
theorem dX5_guildLine_50 : decode cX5_guildLine 50 = .ok (.aload_n 0, 1) := by decide +kernel
theorem dX5_guildLine_51 : decode cX5_guildLine 51 = .ok (.iconst 0, 1) := by decide +kernel
theorem dX5_guildLine_52 : decode cX5_guildLine 52 = .ok (.bipush 20, 2) := by decide +kernel
theorem dX5_guildLine_54 : decode cX5_guildLine 54 = .ok (.invokevirtual 122, 3) := by decide +kernel
theorem dX5_guildLine_57 : decode cX5_guildLine 57 = .ok (.invokevirtual 126, 3) := by decide +kernel
theorem dX5_guildLine_60 : decode cX5_guildLine 60 = .ok (.return_, 1) := by decide +kernel
theorem dX5_merchantLine_0 : decode cX5_merchantLine 0 = .ok (.aload_n 0, 1) := by decide +kernel
theorem dX5_merchantLine_1 : decode cX5_merchantLine 1 = .ok (.iconst 5, 1) := by decide +kernel
theorem dX5_merchantLine_2 : decode cX5_merchantLine 2 = .ok (.invokevirtual 87, 3) := by decide +kernel
theorem dX5_merchantLine_5 : decode cX5_merchantLine 5 = .ok (.aload_n 0, 1) := by decide +kernel
theorem dX5_merchantLine_6 : decode cX5_merchantLine 6 = .ok (.aload_n 0, 1) := by decide +kernel
theorem dX5_merchantLine_7 : decode cX5_merchantLine 7 = .ok (.getfield 32, 3) := by decide +kernel
theorem dX5_merchantLine_10 : decode cX5_merchantLine 10 = .ok (.invokevirtual 115, 3) := by decide +kernel
theorem dX5_merchantLine_13 : decode cX5_merchantLine 13 = .ok (.istore_n 1, 1) := by decide +kernel
theorem dX5_merchantLine_14 : decode cX5_merchantLine 14 = .ok (.aload_n 0, 1) := by decide +kernel
theorem dX5_merchantLine_15 : decode cX5_merchantLine 15 = .ok (.bipush 6, 2) := by decide +kernel
theorem dX5_merchantLine_17 : decode cX5_merchantLine 17 = .ok (.invokevirtual 87, 3) := by decide +kernel
theorem dX5_merchantLine_20 : decode cX5_merchantLine 20 = .ok (.aload_n 0, 1) := by decide +kernel
theorem dX5_merchantLine_21 : decode cX5_merchantLine 21 = .ok (.getfield 16, 3) := by decide +kernel
theorem dX5_merchantLine_24 : decode cX5_merchantLine 24 = .ok (.getfield 136, 3) := by decide +kernel
theorem dX5_merchantLine_27 : decode cX5_merchantLine 27 = .ok (.iload_n 1, 1) := by decide +kernel
theorem dX5_merchantLine_28 : decode cX5_merchantLine 28 = .ok (.aload_n 0, 1) := by decide +kernel
theorem dX5_merchantLine_29 : decode cX5_merchantLine 29 = .ok (.iconst 0, 1) := by decide +kernel
theorem dX5_merchantLine_30 : decode cX5_merchantLine 30 = .ok (.sipush 9999, 3) := by decide +kernel
theorem dX5_merchantLine_33 : decode cX5_merchantLine 33 = .ok (.invokevirtual 122, 3) := by decide +kernel
theorem dX5_merchantLine_36 : decode cX5_merchantLine 36 = .ok (.invokevirtual 126, 3) := by decide +kernel
theorem dX5_merchantLine_39 : decode cX5_merchantLine 39 = .ok (.aload_n 0, 1) := by decide +kernel
theorem dX5_merchantLine_40 : decode cX5_merchantLine 40 = .ok (.bipush 7, 2) := by decide +kernel
theorem dX5_merchantLine_42 : decode cX5_merchantLine 42 = .ok (.invokevirtual 87, 3) := by decide +kernel
theorem dX5_merchantLine_45 : decode cX5_merchantLine 45 = .ok (.aload_n 0, 1) := by decide +kernel
theorem dX5_merchantLine_46 : decode cX5_merchantLine 46 = .ok (.getfield 16, 3) := by decide +kernel
theorem dX5_merchantLine_49 : decode cX5_merchantLine 49 = .ok (.getfield 139, 3) := by decide +kernel
theorem dX5_merchantLine_52 : decode cX5_merchantLine 52 = .ok (.iload_n 1, 1) := by decide +kernel
theorem dX5_merchantLine_53 : decode cX5_merchantLine 53 = .ok (.aload_n 0, 1) := by decide +kernel
theorem dX5_merchantLine_54 : decode cX5_merchantLine 54 = .ok (.iconst 0, 1) := by decide +kernel
theorem dX5_merchantLine_55 : decode cX5_merchantLine 55 = .ok (.sipush 9999, 3) := by decide +kernel
theorem dX5_merchantLine_58 : decode cX5_merchantLine 58 = .ok (.invokevirtual 122, 3) := by decide +kernel
theorem dX5_merchantLine_61 : decode cX5_merchantLine 61 = .ok (.invokevirtual 126, 3) := by decide +kernel
theorem dX5_merchantLine_64 : decode cX5_merchantLine 64 = .ok (.return_, 1) := by decide +kernel
theorem dX5_lotLine_0 : decode cX5_lotLine 0 = .ok (.aload_n 0, 1) := by decide +kernel
theorem dX5_lotLine_1 : decode cX5_lotLine 1 = .ok (.bipush 8, 2) := by decide +kernel
theorem dX5_lotLine_3 : decode cX5_lotLine 3 = .ok (.invokevirtual 87, 3) := by decide +kernel
theorem dX5_lotLine_6 : decode cX5_lotLine 6 = .ok (.aload_n 0, 1) := by decide +kernel
theorem dX5_lotLine_7 : decode cX5_lotLine 7 = .ok (.aload_n 0, 1) := by decide +kernel
theorem dX5_lotLine_8 : decode cX5_lotLine 8 = .ok (.getfield 35, 3) := by decide +kernel
theorem dX5_lotLine_11 : decode cX5_lotLine 11 = .ok (.invokevirtual 115, 3) := by decide +kernel
theorem dX5_lotLine_14 : decode cX5_lotLine 14 = .ok (.istore_n 1, 1) := by decide +kernel
theorem dX5_lotLine_15 : decode cX5_lotLine 15 = .ok (.aload_n 0, 1) := by decide +kernel
theorem dX5_lotLine_16 : decode cX5_lotLine 16 = .ok (.bipush 9, 2) := by decide +kernel
theorem dX5_lotLine_18 : decode cX5_lotLine 18 = .ok (.invokevirtual 87, 3) := by decide +kernel
theorem dX5_lotLine_21 : decode cX5_lotLine 21 = .ok (.aload_n 0, 1) := by decide +kernel
theorem dX5_lotLine_22 : decode cX5_lotLine 22 = .ok (.getfield 16, 3) := by decide +kernel
theorem dX5_lotLine_25 : decode cX5_lotLine 25 = .ok (.getfield 142, 3) := by decide +kernel
theorem dX5_lotLine_28 : decode cX5_lotLine 28 = .ok (.iload_n 1, 1) := by decide +kernel
theorem dX5_lotLine_29 : decode cX5_lotLine 29 = .ok (.aload_n 0, 1) := by decide +kernel
theorem dX5_lotLine_30 : decode cX5_lotLine 30 = .ok (.aload_n 0, 1) := by decide +kernel
theorem dX5_lotLine_31 : decode cX5_lotLine 31 = .ok (.getfield 25, 3) := by decide +kernel
theorem dX5_lotLine_34 : decode cX5_lotLine 34 = .ok (.invokevirtual 145, 3) := by decide +kernel
theorem dX5_lotLine_37 : decode cX5_lotLine 37 = .ok (.invokevirtual 126, 3) := by decide +kernel
theorem dX5_lotLine_40 : decode cX5_lotLine 40 = .ok (.aload_n 0, 1) := by decide +kernel
theorem dX5_lotLine_41 : decode cX5_lotLine 41 = .ok (.bipush 10, 2) := by decide +kernel
theorem dX5_lotLine_43 : decode cX5_lotLine 43 = .ok (.invokevirtual 87, 3) := by decide +kernel
theorem dX5_lotLine_46 : decode cX5_lotLine 46 = .ok (.aload_n 0, 1) := by decide +kernel
theorem dX5_lotLine_47 : decode cX5_lotLine 47 = .ok (.getfield 16, 3) := by decide +kernel
theorem dX5_lotLine_50 : decode cX5_lotLine 50 = .ok (.getfield 148, 3) := by decide +kernel
theorem dX5_lotLine_53 : decode cX5_lotLine 53 = .ok (.iload_n 1, 1) := by decide +kernel
theorem dX5_lotLine_54 : decode cX5_lotLine 54 = .ok (.aload_n 0, 1) := by decide +kernel
theorem dX5_lotLine_55 : decode cX5_lotLine 55 = .ok (.iconst 1, 1) := by decide +kernel
theorem dX5_lotLine_56 : decode cX5_lotLine 56 = .ok (.bipush 90, 2) := by decide +kernel
theorem dX5_lotLine_58 : decode cX5_lotLine 58 = .ok (.invokevirtual 122, 3) := by decide +kernel
theorem dX5_lotLine_61 : decode cX5_lotLine 61 = .ok (.invokevirtual 126, 3) := by decide +kernel
theorem dX5_lotLine_64 : decode cX5_lotLine 64 = .ok (.aload_n 0, 1) := by decide +kernel
theorem dX5_lotLine_65 : decode cX5_lotLine 65 = .ok (.bipush 11, 2) := by decide +kernel
theorem dX5_lotLine_67 : decode cX5_lotLine 67 = .ok (.invokevirtual 87, 3) := by decide +kernel
theorem dX5_lotLine_70 : decode cX5_lotLine 70 = .ok (.aload_n 0, 1) := by decide +kernel
theorem dX5_lotLine_71 : decode cX5_lotLine 71 = .ok (.getfield 16, 3) := by decide +kernel
theorem dX5_lotLine_74 : decode cX5_lotLine 74 = .ok (.getfield 151, 3) := by decide +kernel
theorem dX5_lotLine_77 : decode cX5_lotLine 77 = .ok (.iload_n 1, 1) := by decide +kernel
theorem dX5_lotLine_78 : decode cX5_lotLine 78 = .ok (.aload_n 0, 1) := by decide +kernel
theorem dX5_lotLine_79 : decode cX5_lotLine 79 = .ok (.aload_n 0, 1) := by decide +kernel
theorem dX5_lotLine_80 : decode cX5_lotLine 80 = .ok (.getfield 32, 3) := by decide +kernel
theorem dX5_lotLine_83 : decode cX5_lotLine 83 = .ok (.invokevirtual 145, 3) := by decide +kernel
theorem dX5_lotLine_86 : decode cX5_lotLine 86 = .ok (.invokevirtual 126, 3) := by decide +kernel
theorem dX5_lotLine_89 : decode cX5_lotLine 89 = .ok (.return_, 1) := by decide +kernel
theorem dX5_orderLine_0 : decode cX5_orderLine 0 = .ok (.aload_n 0, 1) := by decide +kernel
theorem dX5_orderLine_1 : decode cX5_orderLine 1 = .ok (.getfield 16, 3) := by decide +kernel
theorem dX5_orderLine_4 : decode cX5_orderLine 4 = .ok (.getfield 104, 3) := by decide +kernel
theorem dX5_orderLine_7 : decode cX5_orderLine 7 = .ok (.istore_n 2, 1) := by decide +kernel
theorem dX5_orderLine_8 : decode cX5_orderLine 8 = .ok (.iload_n 2, 1) := by decide +kernel
theorem dX5_orderLine_9 : decode cX5_orderLine 9 = .ok (.bipush 24, 2) := by decide +kernel
theorem dX5_orderLine_11 : decode cX5_orderLine 11 = .ok (.if_icmp .lt 12, 3) := by decide +kernel
theorem dX5_orderLine_14 : decode cX5_orderLine 14 = .ok (.aload_n 0, 1) := by decide +kernel
theorem dX5_orderLine_15 : decode cX5_orderLine 15 = .ok (.iconst 4, 1) := by decide +kernel
theorem dX5_orderLine_16 : decode cX5_orderLine 16 = .ok (.aload_n 0, 1) := by decide +kernel
theorem dX5_orderLine_17 : decode cX5_orderLine 17 = .ok (.getfield 38, 3) := by decide +kernel
theorem dX5_orderLine_20 : decode cX5_orderLine 20 = .ok (.invokevirtual 154, 3) := by decide +kernel
theorem dX5_orderLine_23 : decode cX5_orderLine 23 = .ok (.aload_n 0, 1) := by decide +kernel
theorem dX5_orderLine_24 : decode cX5_orderLine 24 = .ok (.dup, 1) := by decide +kernel
theorem dX5_orderLine_25 : decode cX5_orderLine 25 = .ok (.getfield 38, 3) := by decide +kernel
theorem dX5_orderLine_28 : decode cX5_orderLine 28 = .ok (.iconst 1, 1) := by decide +kernel
theorem dX5_orderLine_29 : decode cX5_orderLine 29 = .ok (.iadd, 1) := by decide +kernel
theorem dX5_orderLine_30 : decode cX5_orderLine 30 = .ok (.putfield 38, 3) := by decide +kernel
theorem dX5_orderLine_33 : decode cX5_orderLine 33 = .ok (.aload_n 0, 1) := by decide +kernel
theorem dX5_orderLine_34 : decode cX5_orderLine 34 = .ok (.getfield 16, 3) := by decide +kernel
theorem dX5_orderLine_37 : decode cX5_orderLine 37 = .ok (.getfield 157, 3) := by decide +kernel
theorem dX5_orderLine_40 : decode cX5_orderLine 40 = .ok (.iload_n 2, 1) := by decide +kernel
theorem dX5_orderLine_41 : decode cX5_orderLine 41 = .ok (.iload_n 1, 1) := by decide +kernel
theorem dX5_orderLine_42 : decode cX5_orderLine 42 = .ok (.invokevirtual 126, 3) := by decide +kernel
theorem dX5_orderLine_45 : decode cX5_orderLine 45 = .ok (.aload_n 0, 1) := by decide +kernel
theorem dX5_orderLine_46 : decode cX5_orderLine 46 = .ok (.getfield 16, 3) := by decide +kernel
theorem dX5_orderLine_49 : decode cX5_orderLine 49 = .ok (.getfield 160, 3) := by decide +kernel
theorem dX5_orderLine_52 : decode cX5_orderLine 52 = .ok (.iload_n 2, 1) := by decide +kernel
theorem dX5_orderLine_53 : decode cX5_orderLine 53 = .ok (.aload_n 0, 1) := by decide +kernel
theorem dX5_orderLine_54 : decode cX5_orderLine 54 = .ok (.iload_n 1, 1) := by decide +kernel
theorem dX5_orderLine_55 : decode cX5_orderLine 55 = .ok (.iconst 2, 1) := by decide +kernel
theorem dX5_orderLine_56 : decode cX5_orderLine 56 = .ok (.if_icmp .ne 10, 3) := by decide +kernel
theorem dX5_orderLine_59 : decode cX5_orderLine 59 = .ok (.aload_n 0, 1) := by decide +kernel
theorem dX5_orderLine_60 : decode cX5_orderLine 60 = .ok (.getfield 32, 3) := by decide +kernel
theorem dX5_orderLine_63 : decode cX5_orderLine 63 = .ok (.goto 7, 3) := by decide +kernel
theorem dX5_orderLine_66 : decode cX5_orderLine 66 = .ok (.aload_n 0, 1) := by decide +kernel
theorem dX5_orderLine_67 : decode cX5_orderLine 67 = .ok (.getfield 35, 3) := by decide +kernel
theorem dX5_orderLine_70 : decode cX5_orderLine 70 = .ok (.invokevirtual 145, 3) := by decide +kernel
theorem dX5_orderLine_73 : decode cX5_orderLine 73 = .ok (.invokevirtual 126, 3) := by decide +kernel
theorem dX5_orderLine_76 : decode cX5_orderLine 76 = .ok (.aload_n 0, 1) := by decide +kernel
theorem dX5_orderLine_77 : decode cX5_orderLine 77 = .ok (.iload_n 1, 1) := by decide +kernel
theorem dX5_orderLine_78 : decode cX5_orderLine 78 = .ok (.ifCond .ne 8, 3) := by decide +kernel
theorem dX5_orderLine_81 : decode cX5_orderLine 81 = .ok (.bipush 13, 2) := by decide +kernel
theorem dX5_orderLine_83 : decode cX5_orderLine 83 = .ok (.goto 5, 3) := by decide +kernel
theorem dX5_orderLine_86 : decode cX5_orderLine 86 = .ok (.bipush 15, 2) := by decide +kernel
theorem dX5_orderLine_88 : decode cX5_orderLine 88 = .ok (.invokevirtual 87, 3) := by decide +kernel
theorem dX5_orderLine_91 : decode cX5_orderLine 91 = .ok (.aload_n 0, 1) := by decide +kernel
theorem dX5_orderLine_92 : decode cX5_orderLine 92 = .ok (.getfield 16, 3) := by decide +kernel
theorem dX5_orderLine_95 : decode cX5_orderLine 95 = .ok (.getfield 163, 3) := by decide +kernel
theorem dX5_orderLine_98 : decode cX5_orderLine 98 = .ok (.iload_n 2, 1) := by decide +kernel
theorem dX5_orderLine_99 : decode cX5_orderLine 99 = .ok (.aload_n 0, 1) := by decide +kernel
theorem dX5_orderLine_100 : decode cX5_orderLine 100 = .ok (.iload_n 1, 1) := by decide +kernel
theorem dX5_orderLine_101 : decode cX5_orderLine 101 = .ok (.ifCond .ne 10, 3) := by decide +kernel
theorem dX5_orderLine_104 : decode cX5_orderLine 104 = .ok (.aload_n 0, 1) := by decide +kernel
theorem dX5_orderLine_105 : decode cX5_orderLine 105 = .ok (.getfield 29, 3) := by decide +kernel
theorem dX5_orderLine_108 : decode cX5_orderLine 108 = .ok (.goto 7, 3) := by decide +kernel
theorem dX5_orderLine_111 : decode cX5_orderLine 111 = .ok (.aload_n 0, 1) := by decide +kernel
theorem dX5_orderLine_112 : decode cX5_orderLine 112 = .ok (.getfield 32, 3) := by decide +kernel
theorem dX5_orderLine_115 : decode cX5_orderLine 115 = .ok (.invokevirtual 145, 3) := by decide +kernel
theorem dX5_orderLine_118 : decode cX5_orderLine 118 = .ok (.invokevirtual 126, 3) := by decide +kernel
theorem dX5_orderLine_121 : decode cX5_orderLine 121 = .ok (.aload_n 0, 1) := by decide +kernel
theorem dX5_orderLine_122 : decode cX5_orderLine 122 = .ok (.getfield 16, 3) := by decide +kernel
theorem dX5_orderLine_125 : decode cX5_orderLine 125 = .ok (.getfield 166, 3) := by decide +kernel
theorem dX5_orderLine_128 : decode cX5_orderLine 128 = .ok (.iload_n 2, 1) := by decide +kernel
theorem dX5_orderLine_129 : decode cX5_orderLine 129 = .ok (.aload_n 0, 1) := by decide +kernel
theorem dX5_orderLine_130 : decode cX5_orderLine 130 = .ok (.getfield 16, 3) := by decide +kernel
theorem dX5_orderLine_133 : decode cX5_orderLine 133 = .ok (.getfield 107, 3) := by decide +kernel
theorem dX5_orderLine_136 : decode cX5_orderLine 136 = .ok (.getfield 111, 3) := by decide +kernel
theorem dX5_orderLine_139 : decode cX5_orderLine 139 = .ok (.invokevirtual 126, 3) := by decide +kernel
theorem dX5_orderLine_142 : decode cX5_orderLine 142 = .ok (.iload_n 1, 1) := by decide +kernel
theorem dX5_orderLine_143 : decode cX5_orderLine 143 = .ok (.ifCond .eq 14, 3) := by decide +kernel
theorem dX5_orderLine_146 : decode cX5_orderLine 146 = .ok (.aload_n 0, 1) := by decide +kernel
theorem dX5_orderLine_147 : decode cX5_orderLine 147 = .ok (.bipush 17, 2) := by decide +kernel
theorem dX5_orderLine_149 : decode cX5_orderLine 149 = .ok (.invokevirtual 87, 3) := by decide +kernel
theorem dX5_orderLine_152 : decode cX5_orderLine 152 = .ok (.aload_n 0, 1) := by decide +kernel
theorem dX5_orderLine_153 : decode cX5_orderLine 153 = .ok (.iconst 0, 1) := by decide +kernel
theorem dX5_orderLine_154 : decode cX5_orderLine 154 = .ok (.invokevirtual 169, 3) := by decide +kernel
theorem dX5_orderLine_157 : decode cX5_orderLine 157 = .ok (.aload_n 0, 1) := by decide +kernel
theorem dX5_orderLine_158 : decode cX5_orderLine 158 = .ok (.getfield 16, 3) := by decide +kernel
theorem dX5_orderLine_161 : decode cX5_orderLine 161 = .ok (.getfield 172, 3) := by decide +kernel
theorem dX5_orderLine_164 : decode cX5_orderLine 164 = .ok (.iload_n 2, 1) := by decide +kernel
theorem dX5_orderLine_165 : decode cX5_orderLine 165 = .ok (.aload_n 0, 1) := by decide +kernel
theorem dX5_orderLine_166 : decode cX5_orderLine 166 = .ok (.getfield 16, 3) := by decide +kernel
theorem dX5_orderLine_169 : decode cX5_orderLine 169 = .ok (.getfield 107, 3) := by decide +kernel
theorem dX5_orderLine_172 : decode cX5_orderLine 172 = .ok (.getfield 111, 3) := by decide +kernel
theorem dX5_orderLine_175 : decode cX5_orderLine 175 = .ok (.invokevirtual 126, 3) := by decide +kernel
theorem dX5_orderLine_178 : decode cX5_orderLine 178 = .ok (.aload_n 0, 1) := by decide +kernel
theorem dX5_orderLine_179 : decode cX5_orderLine 179 = .ok (.invokevirtual 63, 3) := by decide +kernel
theorem dX5_orderLine_182 : decode cX5_orderLine 182 = .ok (.bipush 18, 2) := by decide +kernel
theorem dX5_orderLine_184 : decode cX5_orderLine 184 = .ok (.if_icmp .ne 18, 3) := by decide +kernel
theorem dX5_orderLine_187 : decode cX5_orderLine 187 = .ok (.aload_n 0, 1) := by decide +kernel
theorem dX5_orderLine_188 : decode cX5_orderLine 188 = .ok (.dup, 1) := by decide +kernel
theorem dX5_orderLine_189 : decode cX5_orderLine 189 = .ok (.getfield 38, 3) := by decide +kernel
theorem dX5_orderLine_192 : decode cX5_orderLine 192 = .ok (.iconst 1, 1) := by decide +kernel
theorem dX5_orderLine_193 : decode cX5_orderLine 193 = .ok (.iadd, 1) := by decide +kernel
theorem dX5_orderLine_194 : decode cX5_orderLine 194 = .ok (.putfield 38, 3) := by decide +kernel
theorem dX5_orderLine_197 : decode cX5_orderLine 197 = .ok (.aload_n 0, 1) := by decide +kernel
theorem dX5_orderLine_198 : decode cX5_orderLine 198 = .ok (.iconst 0, 1) := by decide +kernel
theorem dX5_orderLine_199 : decode cX5_orderLine 199 = .ok (.invokevirtual 175, 3) := by decide +kernel
theorem dX5_orderLine_202 : decode cX5_orderLine 202 = .ok (.aload_n 0, 1) := by decide +kernel
theorem dX5_orderLine_203 : decode cX5_orderLine 203 = .ok (.getfield 16, 3) := by decide +kernel
theorem dX5_orderLine_206 : decode cX5_orderLine 206 = .ok (.getfield 178, 3) := by decide +kernel
theorem dX5_orderLine_209 : decode cX5_orderLine 209 = .ok (.iload_n 2, 1) := by decide +kernel
theorem dX5_orderLine_210 : decode cX5_orderLine 210 = .ok (.aload_n 0, 1) := by decide +kernel
theorem dX5_orderLine_211 : decode cX5_orderLine 211 = .ok (.getfield 16, 3) := by decide +kernel
theorem dX5_orderLine_214 : decode cX5_orderLine 214 = .ok (.getfield 107, 3) := by decide +kernel
theorem dX5_orderLine_217 : decode cX5_orderLine 217 = .ok (.getfield 111, 3) := by decide +kernel
theorem dX5_orderLine_220 : decode cX5_orderLine 220 = .ok (.invokevirtual 126, 3) := by decide +kernel
theorem dX5_orderLine_223 : decode cX5_orderLine 223 = .ok (.aload_n 0, 1) := by decide +kernel
theorem dX5_orderLine_224 : decode cX5_orderLine 224 = .ok (.getfield 16, 3) := by decide +kernel
theorem dX5_orderLine_227 : decode cX5_orderLine 227 = .ok (.dup, 1) := by decide +kernel
theorem dX5_orderLine_228 : decode cX5_orderLine 228 = .ok (.getfield 104, 3) := by decide +kernel
theorem dX5_orderLine_231 : decode cX5_orderLine 231 = .ok (.iconst 1, 1) := by decide +kernel
theorem dX5_orderLine_232 : decode cX5_orderLine 232 = .ok (.iadd, 1) := by decide +kernel
theorem dX5_orderLine_233 : decode cX5_orderLine 233 = .ok (.putfield 104, 3) := by decide +kernel
theorem dX5_orderLine_236 : decode cX5_orderLine 236 = .ok (.return_, 1) := by decide +kernel
theorem dX5_test_0 : decode cX5_test 0 = .ok (.aload_n 0, 1) := by decide +kernel
theorem dX5_test_1 : decode cX5_test 1 = .ok (.iload_n 1, 1) := by decide +kernel
theorem dX5_test_2 : decode cX5_test 2 = .ok (.invokevirtual 181, 3) := by decide +kernel
theorem dX5_test_5 : decode cX5_test 5 = .ok (.iconst 0, 1) := by decide +kernel
theorem dX5_test_6 : decode cX5_test 6 = .ok (.istore_n 2, 1) := by decide +kernel
theorem dX5_test_7 : decode cX5_test 7 = .ok (.iload_n 2, 1) := by decide +kernel
theorem dX5_test_8 : decode cX5_test 8 = .ok (.sipush 400, 3) := by decide +kernel
theorem dX5_test_11 : decode cX5_test 11 = .ok (.if_icmp .ge 47, 3) := by decide +kernel
theorem dX5_test_14 : decode cX5_test 14 = .ok (.aload_n 0, 1) := by decide +kernel
theorem dX5_test_15 : decode cX5_test 15 = .ok (.invokevirtual 63, 3) := by decide +kernel
theorem dX5_test_18 : decode cX5_test 18 = .ok (.bipush 29, 2) := by decide +kernel
theorem dX5_test_20 : decode cX5_test 20 = .ok (.if_icmp .ne 38, 3) := by decide +kernel
theorem dX5_test_23 : decode cX5_test 23 = .ok (.aload_n 0, 1) := by decide +kernel
theorem dX5_test_24 : decode cX5_test 24 = .ok (.dup, 1) := by decide +kernel
theorem dX5_test_25 : decode cX5_test 25 = .ok (.getfield 38, 3) := by decide +kernel
theorem dX5_test_28 : decode cX5_test 28 = .ok (.iconst 1, 1) := by decide +kernel
theorem dX5_test_29 : decode cX5_test 29 = .ok (.iadd, 1) := by decide +kernel
theorem dX5_test_30 : decode cX5_test 30 = .ok (.putfield 38, 3) := by decide +kernel
theorem dX5_test_33 : decode cX5_test 33 = .ok (.aload_n 0, 1) := by decide +kernel
theorem dX5_test_34 : decode cX5_test 34 = .ok (.iload_n 1, 1) := by decide +kernel
theorem dX5_test_35 : decode cX5_test 35 = .ok (.invokevirtual 181, 3) := by decide +kernel
theorem dX5_test_38 : decode cX5_test 38 = .ok (.aload_n 0, 1) := by decide +kernel
theorem dX5_test_39 : decode cX5_test 39 = .ok (.getfield 16, 3) := by decide +kernel
theorem dX5_test_42 : decode cX5_test 42 = .ok (.getfield 107, 3) := by decide +kernel
theorem dX5_test_45 : decode cX5_test 45 = .ok (.bipush 29, 2) := by decide +kernel
theorem dX5_test_47 : decode cX5_test 47 = .ok (.iconst 0, 1) := by decide +kernel
theorem dX5_test_48 : decode cX5_test 48 = .ok (.iconst 0, 1) := by decide +kernel
theorem dX5_test_49 : decode cX5_test 49 = .ok (.invokevirtual 184, 3) := by decide +kernel
theorem dX5_test_52 : decode cX5_test 52 = .ok (.iinc 2 1, 3) := by decide +kernel
theorem dX5_test_55 : decode cX5_test 55 = .ok (.goto (-48), 3) := by decide +kernel
theorem dX5_test_58 : decode cX5_test 58 = .ok (.return_, 1) := by decide +kernel
theorem dX5_both_0 : decode cX5_both 0 = .ok (.aload_n 0, 1) := by decide +kernel
theorem dX5_both_1 : decode cX5_both 1 = .ok (.iload_n 1, 1) := by decide +kernel
theorem dX5_both_2 : decode cX5_both 2 = .ok (.invokevirtual 188, 3) := by decide +kernel
theorem dX5_both_5 : decode cX5_both 5 = .ok (.iconst 0, 1) := by decide +kernel
theorem dX5_both_6 : decode cX5_both 6 = .ok (.istore_n 2, 1) := by decide +kernel
theorem dX5_both_7 : decode cX5_both 7 = .ok (.iload_n 2, 1) := by decide +kernel
theorem dX5_both_8 : decode cX5_both 8 = .ok (.sipush 400, 3) := by decide +kernel
theorem dX5_both_11 : decode cX5_both 11 = .ok (.if_icmp .ge 47, 3) := by decide +kernel
theorem dX5_both_14 : decode cX5_both 14 = .ok (.aload_n 0, 1) := by decide +kernel
theorem dX5_both_15 : decode cX5_both 15 = .ok (.invokevirtual 63, 3) := by decide +kernel
theorem dX5_both_18 : decode cX5_both 18 = .ok (.bipush 28, 2) := by decide +kernel
theorem dX5_both_20 : decode cX5_both 20 = .ok (.if_icmp .ne 38, 3) := by decide +kernel
theorem dX5_both_23 : decode cX5_both 23 = .ok (.aload_n 0, 1) := by decide +kernel
theorem dX5_both_24 : decode cX5_both 24 = .ok (.dup, 1) := by decide +kernel
theorem dX5_both_25 : decode cX5_both 25 = .ok (.getfield 38, 3) := by decide +kernel
theorem dX5_both_28 : decode cX5_both 28 = .ok (.iconst 1, 1) := by decide +kernel
theorem dX5_both_29 : decode cX5_both 29 = .ok (.iadd, 1) := by decide +kernel
theorem dX5_both_30 : decode cX5_both 30 = .ok (.putfield 38, 3) := by decide +kernel
theorem dX5_both_33 : decode cX5_both 33 = .ok (.aload_n 0, 1) := by decide +kernel
theorem dX5_both_34 : decode cX5_both 34 = .ok (.iload_n 1, 1) := by decide +kernel
theorem dX5_both_35 : decode cX5_both 35 = .ok (.invokevirtual 188, 3) := by decide +kernel
theorem dX5_both_38 : decode cX5_both 38 = .ok (.aload_n 0, 1) := by decide +kernel
theorem dX5_both_39 : decode cX5_both 39 = .ok (.getfield 16, 3) := by decide +kernel
theorem dX5_both_42 : decode cX5_both 42 = .ok (.getfield 107, 3) := by decide +kernel
theorem dX5_both_45 : decode cX5_both 45 = .ok (.bipush 28, 2) := by decide +kernel
theorem dX5_both_47 : decode cX5_both 47 = .ok (.iconst 0, 1) := by decide +kernel
theorem dX5_both_48 : decode cX5_both 48 = .ok (.iconst 0, 1) := by decide +kernel
theorem dX5_both_49 : decode cX5_both 49 = .ok (.invokevirtual 184, 3) := by decide +kernel
theorem dX5_both_52 : decode cX5_both 52 = .ok (.iinc 2 1, 3) := by decide +kernel
theorem dX5_both_55 : decode cX5_both 55 = .ok (.goto (-48), 3) := by decide +kernel
theorem dX5_both_58 : decode cX5_both 58 = .ok (.return_, 1) := by decide +kernel
theorem dX5_single_0 : decode cX5_single 0 = .ok (.aload_n 0, 1) := by decide +kernel
theorem dX5_single_1 : decode cX5_single 1 = .ok (.invokevirtual 63, 3) := by decide +kernel
theorem dX5_single_4 : decode cX5_single 4 = .ok (.lookupswitch 95 #[(26, 52), (27, 36), (34, 44)], 36) := by decide +kernel
theorem dX5_single_40 : decode cX5_single 40 = .ok (.aload_n 0, 1) := by decide +kernel
theorem dX5_single_41 : decode cX5_single 41 = .ok (.iload_n 1, 1) := by decide +kernel
theorem dX5_single_42 : decode cX5_single 42 = .ok (.invokevirtual 191, 3) := by decide +kernel
theorem dX5_single_45 : decode cX5_single 45 = .ok (.goto 82, 3) := by decide +kernel
theorem dX5_single_48 : decode cX5_single 48 = .ok (.aload_n 0, 1) := by decide +kernel
theorem dX5_single_49 : decode cX5_single 49 = .ok (.iload_n 1, 1) := by decide +kernel
theorem dX5_single_50 : decode cX5_single 50 = .ok (.invokevirtual 194, 3) := by decide +kernel
theorem dX5_single_53 : decode cX5_single 53 = .ok (.goto 74, 3) := by decide +kernel
theorem dX5_single_56 : decode cX5_single 56 = .ok (.aload_n 0, 1) := by decide +kernel
theorem dX5_single_57 : decode cX5_single 57 = .ok (.dup, 1) := by decide +kernel
theorem dX5_single_58 : decode cX5_single 58 = .ok (.getfield 38, 3) := by decide +kernel
theorem dX5_single_61 : decode cX5_single 61 = .ok (.iconst 1, 1) := by decide +kernel
theorem dX5_single_62 : decode cX5_single 62 = .ok (.iadd, 1) := by decide +kernel
theorem dX5_single_63 : decode cX5_single 63 = .ok (.putfield 38, 3) := by decide +kernel
theorem dX5_single_66 : decode cX5_single 66 = .ok (.aload_n 0, 1) := by decide +kernel
theorem dX5_single_67 : decode cX5_single 67 = .ok (.aload_n 0, 1) := by decide +kernel
theorem dX5_single_68 : decode cX5_single 68 = .ok (.getfield 32, 3) := by decide +kernel
theorem dX5_single_71 : decode cX5_single 71 = .ok (.invokevirtual 145, 3) := by decide +kernel
theorem dX5_single_74 : decode cX5_single 74 = .ok (.istore_n 2, 1) := by decide +kernel
theorem dX5_single_75 : decode cX5_single 75 = .ok (.aload_n 0, 1) := by decide +kernel
theorem dX5_single_76 : decode cX5_single 76 = .ok (.getfield 16, 3) := by decide +kernel
theorem dX5_single_79 : decode cX5_single 79 = .ok (.getfield 107, 3) := by decide +kernel
theorem dX5_single_82 : decode cX5_single 82 = .ok (.bipush 26, 2) := by decide +kernel
theorem dX5_single_84 : decode cX5_single 84 = .ok (.iload_n 2, 1) := by decide +kernel
theorem dX5_single_85 : decode cX5_single 85 = .ok (.aload_n 0, 1) := by decide +kernel
theorem dX5_single_86 : decode cX5_single 86 = .ok (.aload_n 0, 1) := by decide +kernel
theorem dX5_single_87 : decode cX5_single 87 = .ok (.getfield 35, 3) := by decide +kernel
theorem dX5_single_90 : decode cX5_single 90 = .ok (.invokevirtual 145, 3) := by decide +kernel
theorem dX5_single_93 : decode cX5_single 93 = .ok (.invokevirtual 184, 3) := by decide +kernel
theorem dX5_single_96 : decode cX5_single 96 = .ok (.goto 31, 3) := by decide +kernel
theorem dX5_single_99 : decode cX5_single 99 = .ok (.aload_n 0, 1) := by decide +kernel
theorem dX5_single_100 : decode cX5_single 100 = .ok (.iload_n 1, 1) := by decide +kernel
theorem dX5_single_101 : decode cX5_single 101 = .ok (.invokevirtual 169, 3) := by decide +kernel
theorem dX5_single_104 : decode cX5_single 104 = .ok (.aload_n 0, 1) := by decide +kernel
theorem dX5_single_105 : decode cX5_single 105 = .ok (.invokevirtual 197, 3) := by decide +kernel
theorem dX5_single_108 : decode cX5_single 108 = .ok (.istore_n 3, 1) := by decide +kernel
theorem dX5_single_109 : decode cX5_single 109 = .ok (.aload_n 0, 1) := by decide +kernel
theorem dX5_single_110 : decode cX5_single 110 = .ok (.iload_n 1, 1) := by decide +kernel
theorem dX5_single_111 : decode cX5_single 111 = .ok (.invokevirtual 169, 3) := by decide +kernel
theorem dX5_single_114 : decode cX5_single 114 = .ok (.aload_n 0, 1) := by decide +kernel
theorem dX5_single_115 : decode cX5_single 115 = .ok (.getfield 16, 3) := by decide +kernel
theorem dX5_single_118 : decode cX5_single 118 = .ok (.getfield 107, 3) := by decide +kernel
theorem dX5_single_121 : decode cX5_single 121 = .ok (.iload_n 3, 1) := by decide +kernel
theorem dX5_single_122 : decode cX5_single 122 = .ok (.iconst 0, 1) := by decide +kernel
theorem dX5_single_123 : decode cX5_single 123 = .ok (.iconst 0, 1) := by decide +kernel
theorem dX5_single_124 : decode cX5_single 124 = .ok (.invokevirtual 184, 3) := by decide +kernel
theorem dX5_single_127 : decode cX5_single 127 = .ok (.return_, 1) := by decide +kernel
theorem dX5_turnedTest_0 : decode cX5_turnedTest 0 = .ok (.aload_n 0, 1) := by decide +kernel
theorem dX5_turnedTest_1 : decode cX5_turnedTest 1 = .ok (.bipush 27, 2) := by decide +kernel
theorem dX5_turnedTest_3 : decode cX5_turnedTest 3 = .ok (.iload_n 1, 1) := by decide +kernel
theorem dX5_turnedTest_4 : decode cX5_turnedTest 4 = .ok (.invokevirtual 200, 3) := by decide +kernel
theorem dX5_turnedTest_7 : decode cX5_turnedTest 7 = .ok (.ifCond .eq 24, 3) := by decide +kernel
theorem dX5_turnedTest_10 : decode cX5_turnedTest 10 = .ok (.aload_n 0, 1) := by decide +kernel
theorem dX5_turnedTest_11 : decode cX5_turnedTest 11 = .ok (.iload_n 1, 1) := by decide +kernel
theorem dX5_turnedTest_12 : decode cX5_turnedTest 12 = .ok (.iconst 1, 1) := by decide +kernel
theorem dX5_turnedTest_13 : decode cX5_turnedTest 13 = .ok (.iadd, 1) := by decide +kernel
theorem dX5_turnedTest_14 : decode cX5_turnedTest 14 = .ok (.invokevirtual 188, 3) := by decide +kernel
theorem dX5_turnedTest_17 : decode cX5_turnedTest 17 = .ok (.aload_n 0, 1) := by decide +kernel
theorem dX5_turnedTest_18 : decode cX5_turnedTest 18 = .ok (.getfield 16, 3) := by decide +kernel
theorem dX5_turnedTest_21 : decode cX5_turnedTest 21 = .ok (.getfield 107, 3) := by decide +kernel
theorem dX5_turnedTest_24 : decode cX5_turnedTest 24 = .ok (.bipush 27, 2) := by decide +kernel
theorem dX5_turnedTest_26 : decode cX5_turnedTest 26 = .ok (.iconst 0, 1) := by decide +kernel
theorem dX5_turnedTest_27 : decode cX5_turnedTest 27 = .ok (.iconst 0, 1) := by decide +kernel
theorem dX5_turnedTest_28 : decode cX5_turnedTest 28 = .ok (.invokevirtual 184, 3) := by decide +kernel
theorem dX5_turnedTest_31 : decode cX5_turnedTest 31 = .ok (.return_, 1) := by decide +kernel
theorem dX5_testInBrackets_0 : decode cX5_testInBrackets 0 = .ok (.aload_n 0, 1) := by decide +kernel
theorem dX5_testInBrackets_1 : decode cX5_testInBrackets 1 = .ok (.bipush 34, 2) := by decide +kernel
theorem dX5_testInBrackets_3 : decode cX5_testInBrackets 3 = .ok (.iload_n 1, 1) := by decide +kernel
theorem dX5_testInBrackets_4 : decode cX5_testInBrackets 4 = .ok (.invokevirtual 200, 3) := by decide +kernel
theorem dX5_testInBrackets_7 : decode cX5_testInBrackets 7 = .ok (.ifCond .eq 16, 3) := by decide +kernel
theorem dX5_testInBrackets_10 : decode cX5_testInBrackets 10 = .ok (.aload_n 0, 1) := by decide +kernel
theorem dX5_testInBrackets_11 : decode cX5_testInBrackets 11 = .ok (.iload_n 1, 1) := by decide +kernel
theorem dX5_testInBrackets_12 : decode cX5_testInBrackets 12 = .ok (.iconst 1, 1) := by decide +kernel
theorem dX5_testInBrackets_13 : decode cX5_testInBrackets 13 = .ok (.iadd, 1) := by decide +kernel
theorem dX5_testInBrackets_14 : decode cX5_testInBrackets 14 = .ok (.invokevirtual 175, 3) := by decide +kernel
theorem dX5_testInBrackets_17 : decode cX5_testInBrackets 17 = .ok (.aload_n 0, 1) := by decide +kernel
theorem dX5_testInBrackets_18 : decode cX5_testInBrackets 18 = .ok (.bipush 35, 2) := by decide +kernel
theorem dX5_testInBrackets_20 : decode cX5_testInBrackets 20 = .ok (.invokevirtual 87, 3) := by decide +kernel
theorem dX5_testInBrackets_23 : decode cX5_testInBrackets 23 = .ok (.return_, 1) := by decide +kernel
theorem dX5_sum_0 : decode cX5_sum 0 = .ok (.aload_n 0, 1) := by decide +kernel
theorem dX5_sum_1 : decode cX5_sum 1 = .ok (.iload_n 1, 1) := by decide +kernel
theorem dX5_sum_2 : decode cX5_sum 2 = .ok (.invokevirtual 204, 3) := by decide +kernel
theorem dX5_sum_5 : decode cX5_sum 5 = .ok (.aload_n 0, 1) := by decide +kernel
theorem dX5_sum_6 : decode cX5_sum 6 = .ok (.invokevirtual 63, 3) := by decide +kernel
theorem dX5_sum_9 : decode cX5_sum 9 = .ok (.istore_n 2, 1) := by decide +kernel
theorem dX5_sum_10 : decode cX5_sum 10 = .ok (.iconst 0, 1) := by decide +kernel
theorem dX5_sum_11 : decode cX5_sum 11 = .ok (.istore_n 3, 1) := by decide +kernel
theorem dX5_sum_12 : decode cX5_sum 12 = .ok (.iload_n 3, 1) := by decide +kernel
theorem dX5_sum_13 : decode cX5_sum 13 = .ok (.sipush 400, 3) := by decide +kernel
theorem dX5_sum_16 : decode cX5_sum 16 = .ok (.if_icmp .ge 54, 3) := by decide +kernel
theorem dX5_sum_19 : decode cX5_sum 19 = .ok (.iload_n 2, 1) := by decide +kernel
theorem dX5_sum_20 : decode cX5_sum 20 = .ok (.bipush 38, 2) := by decide +kernel
theorem dX5_sum_22 : decode cX5_sum 22 = .ok (.if_icmp .eq 9, 3) := by decide +kernel
theorem dX5_sum_25 : decode cX5_sum 25 = .ok (.iload_n 2, 1) := by decide +kernel
theorem dX5_sum_26 : decode cX5_sum 26 = .ok (.bipush 39, 2) := by decide +kernel
theorem dX5_sum_28 : decode cX5_sum 28 = .ok (.if_icmp .ne 42, 3) := by decide +kernel
theorem dX5_sum_31 : decode cX5_sum 31 = .ok (.aload_n 0, 1) := by decide +kernel
theorem dX5_sum_32 : decode cX5_sum 32 = .ok (.dup, 1) := by decide +kernel
theorem dX5_sum_33 : decode cX5_sum 33 = .ok (.getfield 38, 3) := by decide +kernel
theorem dX5_sum_36 : decode cX5_sum 36 = .ok (.iconst 1, 1) := by decide +kernel
theorem dX5_sum_37 : decode cX5_sum 37 = .ok (.iadd, 1) := by decide +kernel
theorem dX5_sum_38 : decode cX5_sum 38 = .ok (.putfield 38, 3) := by decide +kernel
theorem dX5_sum_41 : decode cX5_sum 41 = .ok (.aload_n 0, 1) := by decide +kernel
theorem dX5_sum_42 : decode cX5_sum 42 = .ok (.iload_n 1, 1) := by decide +kernel
theorem dX5_sum_43 : decode cX5_sum 43 = .ok (.invokevirtual 204, 3) := by decide +kernel
theorem dX5_sum_46 : decode cX5_sum 46 = .ok (.aload_n 0, 1) := by decide +kernel
theorem dX5_sum_47 : decode cX5_sum 47 = .ok (.getfield 16, 3) := by decide +kernel
theorem dX5_sum_50 : decode cX5_sum 50 = .ok (.getfield 107, 3) := by decide +kernel
theorem dX5_sum_53 : decode cX5_sum 53 = .ok (.iload_n 2, 1) := by decide +kernel
theorem dX5_sum_54 : decode cX5_sum 54 = .ok (.iconst 0, 1) := by decide +kernel
theorem dX5_sum_55 : decode cX5_sum 55 = .ok (.iconst 0, 1) := by decide +kernel
theorem dX5_sum_56 : decode cX5_sum 56 = .ok (.invokevirtual 184, 3) := by decide +kernel
theorem dX5_sum_59 : decode cX5_sum 59 = .ok (.aload_n 0, 1) := by decide +kernel
theorem dX5_sum_60 : decode cX5_sum 60 = .ok (.invokevirtual 63, 3) := by decide +kernel
theorem dX5_sum_63 : decode cX5_sum 63 = .ok (.istore_n 2, 1) := by decide +kernel
theorem dX5_sum_64 : decode cX5_sum 64 = .ok (.iinc 3 1, 3) := by decide +kernel
theorem dX5_sum_67 : decode cX5_sum 67 = .ok (.goto (-55), 3) := by decide +kernel
theorem dX5_sum_70 : decode cX5_sum 70 = .ok (.return_, 1) := by decide +kernel
theorem dX5_product_0 : decode cX5_product 0 = .ok (.aload_n 0, 1) := by decide +kernel
theorem dX5_product_1 : decode cX5_product 1 = .ok (.iload_n 1, 1) := by decide +kernel
theorem dX5_product_2 : decode cX5_product 2 = .ok (.invokevirtual 207, 3) := by decide +kernel
theorem dX5_product_5 : decode cX5_product 5 = .ok (.aload_n 0, 1) := by decide +kernel
theorem dX5_product_6 : decode cX5_product 6 = .ok (.invokevirtual 63, 3) := by decide +kernel
theorem dX5_product_9 : decode cX5_product 9 = .ok (.istore_n 2, 1) := by decide +kernel
theorem dX5_product_10 : decode cX5_product 10 = .ok (.iconst 0, 1) := by decide +kernel
theorem dX5_product_11 : decode cX5_product 11 = .ok (.istore_n 3, 1) := by decide +kernel
theorem dX5_product_12 : decode cX5_product 12 = .ok (.iload_n 3, 1) := by decide +kernel
theorem dX5_product_13 : decode cX5_product 13 = .ok (.sipush 400, 3) := by decide +kernel
theorem dX5_product_16 : decode cX5_product 16 = .ok (.if_icmp .ge 54, 3) := by decide +kernel
theorem dX5_product_19 : decode cX5_product 19 = .ok (.iload_n 2, 1) := by decide +kernel
theorem dX5_product_20 : decode cX5_product 20 = .ok (.bipush 40, 2) := by decide +kernel
theorem dX5_product_22 : decode cX5_product 22 = .ok (.if_icmp .eq 9, 3) := by decide +kernel
theorem dX5_product_25 : decode cX5_product 25 = .ok (.iload_n 2, 1) := by decide +kernel
theorem dX5_product_26 : decode cX5_product 26 = .ok (.bipush 41, 2) := by decide +kernel
theorem dX5_product_28 : decode cX5_product 28 = .ok (.if_icmp .ne 42, 3) := by decide +kernel
theorem dX5_product_31 : decode cX5_product 31 = .ok (.aload_n 0, 1) := by decide +kernel
theorem dX5_product_32 : decode cX5_product 32 = .ok (.dup, 1) := by decide +kernel
theorem dX5_product_33 : decode cX5_product 33 = .ok (.getfield 38, 3) := by decide +kernel
theorem dX5_product_36 : decode cX5_product 36 = .ok (.iconst 1, 1) := by decide +kernel
theorem dX5_product_37 : decode cX5_product 37 = .ok (.iadd, 1) := by decide +kernel
theorem dX5_product_38 : decode cX5_product 38 = .ok (.putfield 38, 3) := by decide +kernel
theorem dX5_product_41 : decode cX5_product 41 = .ok (.aload_n 0, 1) := by decide +kernel
theorem dX5_product_42 : decode cX5_product 42 = .ok (.iload_n 1, 1) := by decide +kernel
theorem dX5_product_43 : decode cX5_product 43 = .ok (.invokevirtual 207, 3) := by decide +kernel
theorem dX5_product_46 : decode cX5_product 46 = .ok (.aload_n 0, 1) := by decide +kernel
theorem dX5_product_47 : decode cX5_product 47 = .ok (.getfield 16, 3) := by decide +kernel
theorem dX5_product_50 : decode cX5_product 50 = .ok (.getfield 107, 3) := by decide +kernel
theorem dX5_product_53 : decode cX5_product 53 = .ok (.iload_n 2, 1) := by decide +kernel
theorem dX5_product_54 : decode cX5_product 54 = .ok (.iconst 0, 1) := by decide +kernel
theorem dX5_product_55 : decode cX5_product 55 = .ok (.iconst 0, 1) := by decide +kernel
theorem dX5_product_56 : decode cX5_product 56 = .ok (.invokevirtual 184, 3) := by decide +kernel
theorem dX5_product_59 : decode cX5_product 59 = .ok (.aload_n 0, 1) := by decide +kernel
theorem dX5_product_60 : decode cX5_product 60 = .ok (.invokevirtual 63, 3) := by decide +kernel
theorem dX5_product_63 : decode cX5_product 63 = .ok (.istore_n 2, 1) := by decide +kernel
theorem dX5_product_64 : decode cX5_product 64 = .ok (.iinc 3 1, 3) := by decide +kernel
theorem dX5_product_67 : decode cX5_product 67 = .ok (.goto (-55), 3) := by decide +kernel
theorem dX5_product_70 : decode cX5_product 70 = .ok (.return_, 1) := by decide +kernel
theorem dX5_value_0 : decode cX5_value 0 = .ok (.aload_n 0, 1) := by decide +kernel
theorem dX5_value_1 : decode cX5_value 1 = .ok (.invokevirtual 63, 3) := by decide +kernel
theorem dX5_value_4 : decode cX5_value 4 = .ok (.istore_n 2, 1) := by decide +kernel
theorem dX5_value_5 : decode cX5_value 5 = .ok (.iload_n 2, 1) := by decide +kernel
theorem dX5_value_6 : decode cX5_value 6 = .ok (.tableswitch 367 6 48 #[267, 367, 367, 367, 367, 367, 367, 367, 367, 367, 367, 367, 367, 208, 208, 234, 234, 234, 267, 300, 367, 367, 367, 367, 358, 358, 350, 367, 367, 367, 367, 367, 367, 342, 367, 367, 367, 367, 367, 367, 367, 367, 186], 186) := by decide +kernel
theorem dX5_value_192 : decode cX5_value 192 = .ok (.aload_n 0, 1) := by decide +kernel
theorem dX5_value_193 : decode cX5_value 193 = .ok (.getfield 16, 3) := by decide +kernel
theorem dX5_value_196 : decode cX5_value 196 = .ok (.getfield 107, 3) := by decide +kernel
theorem dX5_value_199 : decode cX5_value 199 = .ok (.iload_n 2, 1) := by decide +kernel
theorem dX5_value_200 : decode cX5_value 200 = .ok (.aload_n 0, 1) := by decide +kernel
theorem dX5_value_201 : decode cX5_value 201 = .ok (.iconst 0, 1) := by decide +kernel
theorem dX5_value_202 : decode cX5_value 202 = .ok (.ldc 212, 2) := by decide +kernel
theorem dX5_value_204 : decode cX5_value 204 = .ok (.invokevirtual 122, 3) := by decide +kernel
theorem dX5_value_207 : decode cX5_value 207 = .ok (.iconst 0, 1) := by decide +kernel
theorem dX5_value_208 : decode cX5_value 208 = .ok (.invokevirtual 184, 3) := by decide +kernel
theorem dX5_value_211 : decode cX5_value 211 = .ok (.goto 166, 3) := by decide +kernel
theorem dX5_value_214 : decode cX5_value 214 = .ok (.aload_n 0, 1) := by decide +kernel
theorem dX5_value_215 : decode cX5_value 215 = .ok (.dup, 1) := by decide +kernel
theorem dX5_value_216 : decode cX5_value 216 = .ok (.getfield 38, 3) := by decide +kernel
theorem dX5_value_219 : decode cX5_value 219 = .ok (.iconst 1, 1) := by decide +kernel
theorem dX5_value_220 : decode cX5_value 220 = .ok (.iadd, 1) := by decide +kernel
theorem dX5_value_221 : decode cX5_value 221 = .ok (.putfield 38, 3) := by decide +kernel
theorem dX5_value_224 : decode cX5_value 224 = .ok (.aload_n 0, 1) := by decide +kernel
theorem dX5_value_225 : decode cX5_value 225 = .ok (.getfield 16, 3) := by decide +kernel
theorem dX5_value_228 : decode cX5_value 228 = .ok (.getfield 107, 3) := by decide +kernel
theorem dX5_value_231 : decode cX5_value 231 = .ok (.iload_n 2, 1) := by decide +kernel
theorem dX5_value_232 : decode cX5_value 232 = .ok (.iconst 0, 1) := by decide +kernel
theorem dX5_value_233 : decode cX5_value 233 = .ok (.iconst 0, 1) := by decide +kernel
theorem dX5_value_234 : decode cX5_value 234 = .ok (.invokevirtual 184, 3) := by decide +kernel
theorem dX5_value_237 : decode cX5_value 237 = .ok (.goto 140, 3) := by decide +kernel
theorem dX5_value_240 : decode cX5_value 240 = .ok (.aload_n 0, 1) := by decide +kernel
theorem dX5_value_241 : decode cX5_value 241 = .ok (.dup, 1) := by decide +kernel
theorem dX5_value_242 : decode cX5_value 242 = .ok (.getfield 38, 3) := by decide +kernel
theorem dX5_value_245 : decode cX5_value 245 = .ok (.iconst 1, 1) := by decide +kernel
theorem dX5_value_246 : decode cX5_value 246 = .ok (.iadd, 1) := by decide +kernel
theorem dX5_value_247 : decode cX5_value 247 = .ok (.putfield 38, 3) := by decide +kernel
theorem dX5_value_250 : decode cX5_value 250 = .ok (.aload_n 0, 1) := by decide +kernel
theorem dX5_value_251 : decode cX5_value 251 = .ok (.getfield 16, 3) := by decide +kernel
theorem dX5_value_254 : decode cX5_value 254 = .ok (.getfield 107, 3) := by decide +kernel
theorem dX5_value_257 : decode cX5_value 257 = .ok (.iload_n 2, 1) := by decide +kernel
theorem dX5_value_258 : decode cX5_value 258 = .ok (.aload_n 0, 1) := by decide +kernel
theorem dX5_value_259 : decode cX5_value 259 = .ok (.aload_n 0, 1) := by decide +kernel
theorem dX5_value_260 : decode cX5_value 260 = .ok (.getfield 35, 3) := by decide +kernel
theorem dX5_value_263 : decode cX5_value 263 = .ok (.invokevirtual 145, 3) := by decide +kernel
theorem dX5_value_266 : decode cX5_value 266 = .ok (.iconst 0, 1) := by decide +kernel
theorem dX5_value_267 : decode cX5_value 267 = .ok (.invokevirtual 184, 3) := by decide +kernel
theorem dX5_value_270 : decode cX5_value 270 = .ok (.goto 107, 3) := by decide +kernel
theorem dX5_value_273 : decode cX5_value 273 = .ok (.aload_n 0, 1) := by decide +kernel
theorem dX5_value_274 : decode cX5_value 274 = .ok (.dup, 1) := by decide +kernel
theorem dX5_value_275 : decode cX5_value 275 = .ok (.getfield 38, 3) := by decide +kernel
theorem dX5_value_278 : decode cX5_value 278 = .ok (.iconst 1, 1) := by decide +kernel
theorem dX5_value_279 : decode cX5_value 279 = .ok (.iadd, 1) := by decide +kernel
theorem dX5_value_280 : decode cX5_value 280 = .ok (.putfield 38, 3) := by decide +kernel
theorem dX5_value_283 : decode cX5_value 283 = .ok (.aload_n 0, 1) := by decide +kernel
theorem dX5_value_284 : decode cX5_value 284 = .ok (.getfield 16, 3) := by decide +kernel
theorem dX5_value_287 : decode cX5_value 287 = .ok (.getfield 107, 3) := by decide +kernel
theorem dX5_value_290 : decode cX5_value 290 = .ok (.iload_n 2, 1) := by decide +kernel
theorem dX5_value_291 : decode cX5_value 291 = .ok (.aload_n 0, 1) := by decide +kernel
theorem dX5_value_292 : decode cX5_value 292 = .ok (.aload_n 0, 1) := by decide +kernel
theorem dX5_value_293 : decode cX5_value 293 = .ok (.getfield 32, 3) := by decide +kernel
theorem dX5_value_296 : decode cX5_value 296 = .ok (.invokevirtual 145, 3) := by decide +kernel
theorem dX5_value_299 : decode cX5_value 299 = .ok (.iconst 0, 1) := by decide +kernel
theorem dX5_value_300 : decode cX5_value 300 = .ok (.invokevirtual 184, 3) := by decide +kernel
theorem dX5_value_303 : decode cX5_value 303 = .ok (.goto 74, 3) := by decide +kernel
theorem dX5_value_306 : decode cX5_value 306 = .ok (.aload_n 0, 1) := by decide +kernel
theorem dX5_value_307 : decode cX5_value 307 = .ok (.dup, 1) := by decide +kernel
theorem dX5_value_308 : decode cX5_value 308 = .ok (.getfield 38, 3) := by decide +kernel
theorem dX5_value_311 : decode cX5_value 311 = .ok (.iconst 1, 1) := by decide +kernel
theorem dX5_value_312 : decode cX5_value 312 = .ok (.iadd, 1) := by decide +kernel
theorem dX5_value_313 : decode cX5_value 313 = .ok (.putfield 38, 3) := by decide +kernel
theorem dX5_value_316 : decode cX5_value 316 = .ok (.aload_n 0, 1) := by decide +kernel
theorem dX5_value_317 : decode cX5_value 317 = .ok (.aload_n 0, 1) := by decide +kernel
theorem dX5_value_318 : decode cX5_value 318 = .ok (.getfield 32, 3) := by decide +kernel
theorem dX5_value_321 : decode cX5_value 321 = .ok (.invokevirtual 145, 3) := by decide +kernel
theorem dX5_value_324 : decode cX5_value 324 = .ok (.istore_n 3, 1) := by decide +kernel
theorem dX5_value_325 : decode cX5_value 325 = .ok (.aload_n 0, 1) := by decide +kernel
theorem dX5_value_326 : decode cX5_value 326 = .ok (.getfield 16, 3) := by decide +kernel
theorem dX5_value_329 : decode cX5_value 329 = .ok (.getfield 107, 3) := by decide +kernel
theorem dX5_value_332 : decode cX5_value 332 = .ok (.iload_n 2, 1) := by decide +kernel
theorem dX5_value_333 : decode cX5_value 333 = .ok (.iload_n 3, 1) := by decide +kernel
theorem dX5_value_334 : decode cX5_value 334 = .ok (.aload_n 0, 1) := by decide +kernel
theorem dX5_value_335 : decode cX5_value 335 = .ok (.aload_n 0, 1) := by decide +kernel
theorem dX5_value_336 : decode cX5_value 336 = .ok (.getfield 32, 3) := by decide +kernel
theorem dX5_value_339 : decode cX5_value 339 = .ok (.invokevirtual 145, 3) := by decide +kernel
theorem dX5_value_342 : decode cX5_value 342 = .ok (.invokevirtual 184, 3) := by decide +kernel
theorem dX5_value_345 : decode cX5_value 345 = .ok (.goto 32, 3) := by decide +kernel
theorem dX5_value_348 : decode cX5_value 348 = .ok (.aload_n 0, 1) := by decide +kernel
theorem dX5_value_349 : decode cX5_value 349 = .ok (.iload_n 1, 1) := by decide +kernel
theorem dX5_value_350 : decode cX5_value 350 = .ok (.invokevirtual 213, 3) := by decide +kernel
theorem dX5_value_353 : decode cX5_value 353 = .ok (.goto 24, 3) := by decide +kernel
theorem dX5_value_356 : decode cX5_value 356 = .ok (.aload_n 0, 1) := by decide +kernel
theorem dX5_value_357 : decode cX5_value 357 = .ok (.iload_n 1, 1) := by decide +kernel
theorem dX5_value_358 : decode cX5_value 358 = .ok (.invokevirtual 216, 3) := by decide +kernel
theorem dX5_value_361 : decode cX5_value 361 = .ok (.goto 16, 3) := by decide +kernel
theorem dX5_value_364 : decode cX5_value 364 = .ok (.aload_n 0, 1) := by decide +kernel
theorem dX5_value_365 : decode cX5_value 365 = .ok (.iload_n 2, 1) := by decide +kernel
theorem dX5_value_366 : decode cX5_value 366 = .ok (.iload_n 1, 1) := by decide +kernel
theorem dX5_value_367 : decode cX5_value 367 = .ok (.invokevirtual 219, 3) := by decide +kernel
theorem dX5_value_370 : decode cX5_value 370 = .ok (.goto 7, 3) := by decide +kernel
theorem dX5_value_373 : decode cX5_value 373 = .ok (.aload_n 0, 1) := by decide +kernel
theorem dX5_value_374 : decode cX5_value 374 = .ok (.invokevirtual 84, 3) := by decide +kernel
theorem dX5_value_377 : decode cX5_value 377 = .ok (.return_, 1) := by decide +kernel
theorem dX5_turnedValue_0 : decode cX5_turnedValue 0 = .ok (.aload_n 0, 1) := by decide +kernel
theorem dX5_turnedValue_1 : decode cX5_turnedValue 1 = .ok (.bipush 39, 2) := by decide +kernel
theorem dX5_turnedValue_3 : decode cX5_turnedValue 3 = .ok (.iload_n 1, 1) := by decide +kernel
theorem dX5_turnedValue_4 : decode cX5_turnedValue 4 = .ok (.invokevirtual 200, 3) := by decide +kernel
theorem dX5_turnedValue_7 : decode cX5_turnedValue 7 = .ok (.ifCond .eq 24, 3) := by decide +kernel
theorem dX5_turnedValue_10 : decode cX5_turnedValue 10 = .ok (.aload_n 0, 1) := by decide +kernel
theorem dX5_turnedValue_11 : decode cX5_turnedValue 11 = .ok (.iload_n 1, 1) := by decide +kernel
theorem dX5_turnedValue_12 : decode cX5_turnedValue 12 = .ok (.iconst 1, 1) := by decide +kernel
theorem dX5_turnedValue_13 : decode cX5_turnedValue 13 = .ok (.iadd, 1) := by decide +kernel
theorem dX5_turnedValue_14 : decode cX5_turnedValue 14 = .ok (.invokevirtual 207, 3) := by decide +kernel
theorem dX5_turnedValue_17 : decode cX5_turnedValue 17 = .ok (.aload_n 0, 1) := by decide +kernel
theorem dX5_turnedValue_18 : decode cX5_turnedValue 18 = .ok (.getfield 16, 3) := by decide +kernel
theorem dX5_turnedValue_21 : decode cX5_turnedValue 21 = .ok (.getfield 107, 3) := by decide +kernel
theorem dX5_turnedValue_24 : decode cX5_turnedValue 24 = .ok (.bipush 51, 2) := by decide +kernel
theorem dX5_turnedValue_26 : decode cX5_turnedValue 26 = .ok (.iconst 0, 1) := by decide +kernel
theorem dX5_turnedValue_27 : decode cX5_turnedValue 27 = .ok (.iconst 0, 1) := by decide +kernel
theorem dX5_turnedValue_28 : decode cX5_turnedValue 28 = .ok (.invokevirtual 184, 3) := by decide +kernel
theorem dX5_turnedValue_31 : decode cX5_turnedValue 31 = .ok (.return_, 1) := by decide +kernel
theorem dX5_sumInBrackets_0 : decode cX5_sumInBrackets 0 = .ok (.aload_n 0, 1) := by decide +kernel
theorem dX5_sumInBrackets_1 : decode cX5_sumInBrackets 1 = .ok (.bipush 32, 2) := by decide +kernel
theorem dX5_sumInBrackets_3 : decode cX5_sumInBrackets 3 = .ok (.iload_n 1, 1) := by decide +kernel
theorem dX5_sumInBrackets_4 : decode cX5_sumInBrackets 4 = .ok (.invokevirtual 200, 3) := by decide +kernel
theorem dX5_sumInBrackets_7 : decode cX5_sumInBrackets 7 = .ok (.ifCond .eq 16, 3) := by decide +kernel
theorem dX5_sumInBrackets_10 : decode cX5_sumInBrackets 10 = .ok (.aload_n 0, 1) := by decide +kernel
theorem dX5_sumInBrackets_11 : decode cX5_sumInBrackets 11 = .ok (.iload_n 1, 1) := by decide +kernel
theorem dX5_sumInBrackets_12 : decode cX5_sumInBrackets 12 = .ok (.iconst 1, 1) := by decide +kernel
theorem dX5_sumInBrackets_13 : decode cX5_sumInBrackets 13 = .ok (.iadd, 1) := by decide +kernel
theorem dX5_sumInBrackets_14 : decode cX5_sumInBrackets 14 = .ok (.invokevirtual 169, 3) := by decide +kernel
theorem dX5_sumInBrackets_17 : decode cX5_sumInBrackets 17 = .ok (.aload_n 0, 1) := by decide +kernel
theorem dX5_sumInBrackets_18 : decode cX5_sumInBrackets 18 = .ok (.bipush 33, 2) := by decide +kernel
theorem dX5_sumInBrackets_20 : decode cX5_sumInBrackets 20 = .ok (.invokevirtual 87, 3) := by decide +kernel
theorem dX5_sumInBrackets_23 : decode cX5_sumInBrackets 23 = .ok (.return_, 1) := by decide +kernel
theorem dX5_oneOfTwoSums_0 : decode cX5_oneOfTwoSums 0 = .ok (.aload_n 0, 1) := by decide +kernel
theorem dX5_oneOfTwoSums_1 : decode cX5_oneOfTwoSums 1 = .ok (.dup, 1) := by decide +kernel
theorem dX5_oneOfTwoSums_2 : decode cX5_oneOfTwoSums 2 = .ok (.getfield 38, 3) := by decide +kernel
theorem dX5_oneOfTwoSums_5 : decode cX5_oneOfTwoSums 5 = .ok (.iconst 1, 1) := by decide +kernel
theorem dX5_oneOfTwoSums_6 : decode cX5_oneOfTwoSums 6 = .ok (.iadd, 1) := by decide +kernel
theorem dX5_oneOfTwoSums_7 : decode cX5_oneOfTwoSums 7 = .ok (.putfield 38, 3) := by decide +kernel
theorem dX5_oneOfTwoSums_10 : decode cX5_oneOfTwoSums 10 = .ok (.aload_n 0, 1) := by decide +kernel
theorem dX5_oneOfTwoSums_11 : decode cX5_oneOfTwoSums 11 = .ok (.bipush 32, 2) := by decide +kernel
theorem dX5_oneOfTwoSums_13 : decode cX5_oneOfTwoSums 13 = .ok (.iload_n 2, 1) := by decide +kernel
theorem dX5_oneOfTwoSums_14 : decode cX5_oneOfTwoSums 14 = .ok (.invokevirtual 200, 3) := by decide +kernel
theorem dX5_oneOfTwoSums_17 : decode cX5_oneOfTwoSums 17 = .ok (.ifCond .eq 42, 3) := by decide +kernel
theorem dX5_oneOfTwoSums_20 : decode cX5_oneOfTwoSums 20 = .ok (.aload_n 0, 1) := by decide +kernel
theorem dX5_oneOfTwoSums_21 : decode cX5_oneOfTwoSums 21 = .ok (.iload_n 2, 1) := by decide +kernel
theorem dX5_oneOfTwoSums_22 : decode cX5_oneOfTwoSums 22 = .ok (.iconst 1, 1) := by decide +kernel
theorem dX5_oneOfTwoSums_23 : decode cX5_oneOfTwoSums 23 = .ok (.iadd, 1) := by decide +kernel
theorem dX5_oneOfTwoSums_24 : decode cX5_oneOfTwoSums 24 = .ok (.invokevirtual 169, 3) := by decide +kernel
theorem dX5_oneOfTwoSums_27 : decode cX5_oneOfTwoSums 27 = .ok (.aload_n 0, 1) := by decide +kernel
theorem dX5_oneOfTwoSums_28 : decode cX5_oneOfTwoSums 28 = .ok (.bipush 37, 2) := by decide +kernel
theorem dX5_oneOfTwoSums_30 : decode cX5_oneOfTwoSums 30 = .ok (.invokevirtual 87, 3) := by decide +kernel
theorem dX5_oneOfTwoSums_33 : decode cX5_oneOfTwoSums 33 = .ok (.aload_n 0, 1) := by decide +kernel
theorem dX5_oneOfTwoSums_34 : decode cX5_oneOfTwoSums 34 = .ok (.iload_n 2, 1) := by decide +kernel
theorem dX5_oneOfTwoSums_35 : decode cX5_oneOfTwoSums 35 = .ok (.iconst 1, 1) := by decide +kernel
theorem dX5_oneOfTwoSums_36 : decode cX5_oneOfTwoSums 36 = .ok (.iadd, 1) := by decide +kernel
theorem dX5_oneOfTwoSums_37 : decode cX5_oneOfTwoSums 37 = .ok (.invokevirtual 169, 3) := by decide +kernel
theorem dX5_oneOfTwoSums_40 : decode cX5_oneOfTwoSums 40 = .ok (.aload_n 0, 1) := by decide +kernel
theorem dX5_oneOfTwoSums_41 : decode cX5_oneOfTwoSums 41 = .ok (.bipush 33, 2) := by decide +kernel
theorem dX5_oneOfTwoSums_43 : decode cX5_oneOfTwoSums 43 = .ok (.invokevirtual 87, 3) := by decide +kernel
theorem dX5_oneOfTwoSums_46 : decode cX5_oneOfTwoSums 46 = .ok (.aload_n 0, 1) := by decide +kernel
theorem dX5_oneOfTwoSums_47 : decode cX5_oneOfTwoSums 47 = .ok (.getfield 16, 3) := by decide +kernel
theorem dX5_oneOfTwoSums_50 : decode cX5_oneOfTwoSums 50 = .ok (.getfield 107, 3) := by decide +kernel
theorem dX5_oneOfTwoSums_53 : decode cX5_oneOfTwoSums 53 = .ok (.iload_n 1, 1) := by decide +kernel
theorem dX5_oneOfTwoSums_54 : decode cX5_oneOfTwoSums 54 = .ok (.iconst 0, 1) := by decide +kernel
theorem dX5_oneOfTwoSums_55 : decode cX5_oneOfTwoSums 55 = .ok (.iconst 0, 1) := by decide +kernel
theorem dX5_oneOfTwoSums_56 : decode cX5_oneOfTwoSums 56 = .ok (.invokevirtual 184, 3) := by decide +kernel
theorem dX5_oneOfTwoSums_59 : decode cX5_oneOfTwoSums 59 = .ok (.return_, 1) := by decide +kernel
theorem dX5_seen_0 : decode cX5_seen 0 = .ok (.aload_n 0, 1) := by decide +kernel
theorem dX5_seen_1 : decode cX5_seen 1 = .ok (.getfield 42, 3) := by decide +kernel
theorem dX5_seen_4 : decode cX5_seen 4 = .ok (.iconst 1, 1) := by decide +kernel
theorem dX5_seen_5 : decode cX5_seen 5 = .ok (.if_icmp .ne 8, 3) := by decide +kernel
theorem dX5_seen_8 : decode cX5_seen 8 = .ok (.bipush 50, 2) := by decide +kernel
theorem dX5_seen_10 : decode cX5_seen 10 = .ok (.goto 17, 3) := by decide +kernel
theorem dX5_seen_13 : decode cX5_seen 13 = .ok (.aload_n 0, 1) := by decide +kernel
theorem dX5_seen_14 : decode cX5_seen 14 = .ok (.getfield 7, 3) := by decide +kernel
theorem dX5_seen_17 : decode cX5_seen 17 = .ok (.getfield 222, 3) := by decide +kernel
theorem dX5_seen_20 : decode cX5_seen 20 = .ok (.aload_n 0, 1) := by decide +kernel
theorem dX5_seen_21 : decode cX5_seen 21 = .ok (.getfield 38, 3) := by decide +kernel
theorem dX5_seen_24 : decode cX5_seen 24 = .ok (.invokevirtual 54, 3) := by decide +kernel
theorem dX5_seen_27 : decode cX5_seen 27 = .ok (.ireturn, 1) := by decide +kernel
theorem dX5_take_0 : decode cX5_take 0 = .ok (.aload_n 0, 1) := by decide +kernel
theorem dX5_take_1 : decode cX5_take 1 = .ok (.invokevirtual 63, 3) := by decide +kernel
theorem dX5_take_4 : decode cX5_take 4 = .ok (.iload_n 1, 1) := by decide +kernel
theorem dX5_take_5 : decode cX5_take 5 = .ok (.if_icmp .ne 16, 3) := by decide +kernel
theorem dX5_take_8 : decode cX5_take 8 = .ok (.aload_n 0, 1) := by decide +kernel
theorem dX5_take_9 : decode cX5_take 9 = .ok (.dup, 1) := by decide +kernel
theorem dX5_take_10 : decode cX5_take 10 = .ok (.getfield 38, 3) := by decide +kernel
theorem dX5_take_13 : decode cX5_take 13 = .ok (.iconst 1, 1) := by decide +kernel
theorem dX5_take_14 : decode cX5_take 14 = .ok (.iadd, 1) := by decide +kernel
theorem dX5_take_15 : decode cX5_take 15 = .ok (.putfield 38, 3) := by decide +kernel
theorem dX5_take_18 : decode cX5_take 18 = .ok (.goto 7, 3) := by decide +kernel
theorem dX5_take_21 : decode cX5_take 21 = .ok (.aload_n 0, 1) := by decide +kernel
theorem dX5_take_22 : decode cX5_take 22 = .ok (.invokevirtual 84, 3) := by decide +kernel
theorem dX5_take_25 : decode cX5_take 25 = .ok (.return_, 1) := by decide +kernel
theorem dX5_goesDeeper_0 : decode cX5_goesDeeper 0 = .ok (.iload_n 2, 1) := by decide +kernel
theorem dX5_goesDeeper_1 : decode cX5_goesDeeper 1 = .ok (.bipush 8, 2) := by decide +kernel
theorem dX5_goesDeeper_3 : decode cX5_goesDeeper 3 = .ok (.if_icmp .ge 11, 3) := by decide +kernel
theorem dX5_goesDeeper_6 : decode cX5_goesDeeper 6 = .ok (.aload_n 0, 1) := by decide +kernel
theorem dX5_goesDeeper_7 : decode cX5_goesDeeper 7 = .ok (.invokevirtual 63, 3) := by decide +kernel
theorem dX5_goesDeeper_10 : decode cX5_goesDeeper 10 = .ok (.iload_n 1, 1) := by decide +kernel
theorem dX5_goesDeeper_11 : decode cX5_goesDeeper 11 = .ok (.if_icmp .eq 9, 3) := by decide +kernel
theorem dX5_goesDeeper_14 : decode cX5_goesDeeper 14 = .ok (.aload_n 0, 1) := by decide +kernel
theorem dX5_goesDeeper_15 : decode cX5_goesDeeper 15 = .ok (.invokevirtual 84, 3) := by decide +kernel
theorem dX5_goesDeeper_18 : decode cX5_goesDeeper 18 = .ok (.iconst 0, 1) := by decide +kernel
theorem dX5_goesDeeper_19 : decode cX5_goesDeeper 19 = .ok (.ireturn, 1) := by decide +kernel
theorem dX5_goesDeeper_20 : decode cX5_goesDeeper 20 = .ok (.aload_n 0, 1) := by decide +kernel
theorem dX5_goesDeeper_21 : decode cX5_goesDeeper 21 = .ok (.dup, 1) := by decide +kernel
theorem dX5_goesDeeper_22 : decode cX5_goesDeeper 22 = .ok (.getfield 38, 3) := by decide +kernel
theorem dX5_goesDeeper_25 : decode cX5_goesDeeper 25 = .ok (.iconst 1, 1) := by decide +kernel
theorem dX5_goesDeeper_26 : decode cX5_goesDeeper 26 = .ok (.iadd, 1) := by decide +kernel
theorem dX5_goesDeeper_27 : decode cX5_goesDeeper 27 = .ok (.putfield 38, 3) := by decide +kernel
theorem dX5_goesDeeper_30 : decode cX5_goesDeeper 30 = .ok (.iconst 1, 1) := by decide +kernel
theorem dX5_goesDeeper_31 : decode cX5_goesDeeper 31 = .ok (.ireturn, 1) := by decide +kernel
theorem dX5_takeComparison_0 : decode cX5_takeComparison 0 = .ok (.aload_n 0, 1) := by decide +kernel
theorem dX5_takeComparison_1 : decode cX5_takeComparison 1 = .ok (.invokevirtual 63, 3) := by decide +kernel
theorem dX5_takeComparison_4 : decode cX5_takeComparison 4 = .ok (.istore_n 1, 1) := by decide +kernel
theorem dX5_takeComparison_5 : decode cX5_takeComparison 5 = .ok (.iload_n 1, 1) := by decide +kernel
theorem dX5_takeComparison_6 : decode cX5_takeComparison 6 = .ok (.invokestatic 225, 3) := by decide +kernel
theorem dX5_takeComparison_9 : decode cX5_takeComparison 9 = .ok (.ifCond .eq 16, 3) := by decide +kernel
theorem dX5_takeComparison_12 : decode cX5_takeComparison 12 = .ok (.aload_n 0, 1) := by decide +kernel
theorem dX5_takeComparison_13 : decode cX5_takeComparison 13 = .ok (.dup, 1) := by decide +kernel
theorem dX5_takeComparison_14 : decode cX5_takeComparison 14 = .ok (.getfield 38, 3) := by decide +kernel
theorem dX5_takeComparison_17 : decode cX5_takeComparison 17 = .ok (.iconst 1, 1) := by decide +kernel
theorem dX5_takeComparison_18 : decode cX5_takeComparison 18 = .ok (.iadd, 1) := by decide +kernel
theorem dX5_takeComparison_19 : decode cX5_takeComparison 19 = .ok (.putfield 38, 3) := by decide +kernel
theorem dX5_takeComparison_22 : decode cX5_takeComparison 22 = .ok (.goto 7, 3) := by decide +kernel
theorem dX5_takeComparison_25 : decode cX5_takeComparison 25 = .ok (.aload_n 0, 1) := by decide +kernel
theorem dX5_takeComparison_26 : decode cX5_takeComparison 26 = .ok (.invokevirtual 84, 3) := by decide +kernel
theorem dX5_takeComparison_29 : decode cX5_takeComparison 29 = .ok (.iload_n 1, 1) := by decide +kernel
theorem dX5_takeComparison_30 : decode cX5_takeComparison 30 = .ok (.ireturn, 1) := by decide +kernel
theorem dX5_takeNewName_0 : decode cX5_takeNewName 0 = .ok (.aload_n 0, 1) := by decide +kernel
theorem dX5_takeNewName_1 : decode cX5_takeNewName 1 = .ok (.invokevirtual 63, 3) := by decide +kernel
theorem dX5_takeNewName_4 : decode cX5_takeNewName 4 = .ok (.bipush 47, 2) := by decide +kernel
theorem dX5_takeNewName_6 : decode cX5_takeNewName 6 = .ok (.if_icmp .eq 9, 3) := by decide +kernel
theorem dX5_takeNewName_9 : decode cX5_takeNewName 9 = .ok (.aload_n 0, 1) := by decide +kernel
theorem dX5_takeNewName_10 : decode cX5_takeNewName 10 = .ok (.invokevirtual 84, 3) := by decide +kernel
theorem dX5_takeNewName_13 : decode cX5_takeNewName 13 = .ok (.iconst (-1), 1) := by decide +kernel
theorem dX5_takeNewName_14 : decode cX5_takeNewName 14 = .ok (.ireturn, 1) := by decide +kernel
theorem dX5_takeNewName_15 : decode cX5_takeNewName 15 = .ok (.aload_n 0, 1) := by decide +kernel
theorem dX5_takeNewName_16 : decode cX5_takeNewName 16 = .ok (.getfield 38, 3) := by decide +kernel
theorem dX5_takeNewName_19 : decode cX5_takeNewName 19 = .ok (.istore_n 2, 1) := by decide +kernel
theorem dX5_takeNewName_20 : decode cX5_takeNewName 20 = .ok (.aload_n 0, 1) := by decide +kernel
theorem dX5_takeNewName_21 : decode cX5_takeNewName 21 = .ok (.dup, 1) := by decide +kernel
theorem dX5_takeNewName_22 : decode cX5_takeNewName 22 = .ok (.getfield 38, 3) := by decide +kernel
theorem dX5_takeNewName_25 : decode cX5_takeNewName 25 = .ok (.iconst 1, 1) := by decide +kernel
theorem dX5_takeNewName_26 : decode cX5_takeNewName 26 = .ok (.iadd, 1) := by decide +kernel
theorem dX5_takeNewName_27 : decode cX5_takeNewName 27 = .ok (.putfield 38, 3) := by decide +kernel
theorem dX5_takeNewName_30 : decode cX5_takeNewName 30 = .ok (.aload_n 0, 1) := by decide +kernel
theorem dX5_takeNewName_31 : decode cX5_takeNewName 31 = .ok (.getfield 7, 3) := by decide +kernel
theorem dX5_takeNewName_34 : decode cX5_takeNewName 34 = .ok (.getfield 229, 3) := by decide +kernel
theorem dX5_takeNewName_37 : decode cX5_takeNewName 37 = .ok (.iload_n 2, 1) := by decide +kernel
theorem dX5_takeNewName_38 : decode cX5_takeNewName 38 = .ok (.invokevirtual 54, 3) := by decide +kernel
theorem dX5_takeNewName_41 : decode cX5_takeNewName 41 = .ok (.istore_n 3, 1) := by decide +kernel
theorem dX5_takeNewName_42 : decode cX5_takeNewName 42 = .ok (.aload_n 1, 1) := by decide +kernel
theorem dX5_takeNewName_43 : decode cX5_takeNewName 43 = .ok (.iload_n 3, 1) := by decide +kernel
theorem dX5_takeNewName_44 : decode cX5_takeNewName 44 = .ok (.invokevirtual 231, 3) := by decide +kernel
theorem dX5_takeNewName_47 : decode cX5_takeNewName 47 = .ok (.ifCond .lt 11, 3) := by decide +kernel
theorem dX5_takeNewName_50 : decode cX5_takeNewName 50 = .ok (.aload_n 0, 1) := by decide +kernel
theorem dX5_takeNewName_51 : decode cX5_takeNewName 51 = .ok (.iconst 2, 1) := by decide +kernel
theorem dX5_takeNewName_52 : decode cX5_takeNewName 52 = .ok (.iload_n 2, 1) := by decide +kernel
theorem dX5_takeNewName_53 : decode cX5_takeNewName 53 = .ok (.invokevirtual 154, 3) := by decide +kernel
theorem dX5_takeNewName_56 : decode cX5_takeNewName 56 = .ok (.iconst (-1), 1) := by decide +kernel
theorem dX5_takeNewName_57 : decode cX5_takeNewName 57 = .ok (.ireturn, 1) := by decide +kernel
theorem dX5_takeNewName_58 : decode cX5_takeNewName 58 = .ok (.aload_n 1, 1) := by decide +kernel
theorem dX5_takeNewName_59 : decode cX5_takeNewName 59 = .ok (.invokevirtual 234, 3) := by decide +kernel
theorem dX5_takeNewName_62 : decode cX5_takeNewName 62 = .ok (.ifCond .eq 11, 3) := by decide +kernel
theorem dX5_takeNewName_65 : decode cX5_takeNewName 65 = .ok (.aload_n 0, 1) := by decide +kernel
theorem dX5_takeNewName_66 : decode cX5_takeNewName 66 = .ok (.iconst 4, 1) := by decide +kernel
theorem dX5_takeNewName_67 : decode cX5_takeNewName 67 = .ok (.iload_n 2, 1) := by decide +kernel
theorem dX5_takeNewName_68 : decode cX5_takeNewName 68 = .ok (.invokevirtual 154, 3) := by decide +kernel
theorem dX5_takeNewName_71 : decode cX5_takeNewName 71 = .ok (.iconst (-1), 1) := by decide +kernel
theorem dX5_takeNewName_72 : decode cX5_takeNewName 72 = .ok (.ireturn, 1) := by decide +kernel
theorem dX5_takeNewName_73 : decode cX5_takeNewName 73 = .ok (.aload_n 1, 1) := by decide +kernel
theorem dX5_takeNewName_74 : decode cX5_takeNewName 74 = .ok (.iload_n 3, 1) := by decide +kernel
theorem dX5_takeNewName_75 : decode cX5_takeNewName 75 = .ok (.invokevirtual 238, 3) := by decide +kernel
theorem dX5_takeNewName_78 : decode cX5_takeNewName 78 = .ok (.ireturn, 1) := by decide +kernel
theorem dX5_takeName_0 : decode cX5_takeName 0 = .ok (.aload_n 0, 1) := by decide +kernel
theorem dX5_takeName_1 : decode cX5_takeName 1 = .ok (.invokevirtual 63, 3) := by decide +kernel
theorem dX5_takeName_4 : decode cX5_takeName 4 = .ok (.bipush 47, 2) := by decide +kernel
theorem dX5_takeName_6 : decode cX5_takeName 6 = .ok (.if_icmp .eq 9, 3) := by decide +kernel
theorem dX5_takeName_9 : decode cX5_takeName 9 = .ok (.aload_n 0, 1) := by decide +kernel
theorem dX5_takeName_10 : decode cX5_takeName 10 = .ok (.invokevirtual 84, 3) := by decide +kernel
theorem dX5_takeName_13 : decode cX5_takeName 13 = .ok (.iconst (-1), 1) := by decide +kernel
theorem dX5_takeName_14 : decode cX5_takeName 14 = .ok (.ireturn, 1) := by decide +kernel
theorem dX5_takeName_15 : decode cX5_takeName 15 = .ok (.aload_n 0, 1) := by decide +kernel
theorem dX5_takeName_16 : decode cX5_takeName 16 = .ok (.getfield 38, 3) := by decide +kernel
theorem dX5_takeName_19 : decode cX5_takeName 19 = .ok (.istore_n 2, 1) := by decide +kernel
theorem dX5_takeName_20 : decode cX5_takeName 20 = .ok (.aload_n 0, 1) := by decide +kernel
theorem dX5_takeName_21 : decode cX5_takeName 21 = .ok (.dup, 1) := by decide +kernel
theorem dX5_takeName_22 : decode cX5_takeName 22 = .ok (.getfield 38, 3) := by decide +kernel
theorem dX5_takeName_25 : decode cX5_takeName 25 = .ok (.iconst 1, 1) := by decide +kernel
theorem dX5_takeName_26 : decode cX5_takeName 26 = .ok (.iadd, 1) := by decide +kernel
theorem dX5_takeName_27 : decode cX5_takeName 27 = .ok (.putfield 38, 3) := by decide +kernel
theorem dX5_takeName_30 : decode cX5_takeName 30 = .ok (.aload_n 1, 1) := by decide +kernel
theorem dX5_takeName_31 : decode cX5_takeName 31 = .ok (.aload_n 0, 1) := by decide +kernel
theorem dX5_takeName_32 : decode cX5_takeName 32 = .ok (.getfield 7, 3) := by decide +kernel
theorem dX5_takeName_35 : decode cX5_takeName 35 = .ok (.getfield 229, 3) := by decide +kernel
theorem dX5_takeName_38 : decode cX5_takeName 38 = .ok (.iload_n 2, 1) := by decide +kernel
theorem dX5_takeName_39 : decode cX5_takeName 39 = .ok (.invokevirtual 54, 3) := by decide +kernel
theorem dX5_takeName_42 : decode cX5_takeName 42 = .ok (.invokevirtual 231, 3) := by decide +kernel
theorem dX5_takeName_45 : decode cX5_takeName 45 = .ok (.istore_n 3, 1) := by decide +kernel
theorem dX5_takeName_46 : decode cX5_takeName 46 = .ok (.iload_n 3, 1) := by decide +kernel
theorem dX5_takeName_47 : decode cX5_takeName 47 = .ok (.ifCond .ge 9, 3) := by decide +kernel
theorem dX5_takeName_50 : decode cX5_takeName 50 = .ok (.aload_n 0, 1) := by decide +kernel
theorem dX5_takeName_51 : decode cX5_takeName 51 = .ok (.iconst 3, 1) := by decide +kernel
theorem dX5_takeName_52 : decode cX5_takeName 52 = .ok (.iload_n 2, 1) := by decide +kernel
theorem dX5_takeName_53 : decode cX5_takeName 53 = .ok (.invokevirtual 154, 3) := by decide +kernel
theorem dX5_takeName_56 : decode cX5_takeName 56 = .ok (.iload_n 3, 1) := by decide +kernel
theorem dX5_takeName_57 : decode cX5_takeName 57 = .ok (.ireturn, 1) := by decide +kernel
theorem dX5_takeNumber_0 : decode cX5_takeNumber 0 = .ok (.aload_n 0, 1) := by decide +kernel
theorem dX5_takeNumber_1 : decode cX5_takeNumber 1 = .ok (.invokevirtual 63, 3) := by decide +kernel
theorem dX5_takeNumber_4 : decode cX5_takeNumber 4 = .ok (.bipush 48, 2) := by decide +kernel
theorem dX5_takeNumber_6 : decode cX5_takeNumber 6 = .ok (.if_icmp .eq 9, 3) := by decide +kernel
theorem dX5_takeNumber_9 : decode cX5_takeNumber 9 = .ok (.aload_n 0, 1) := by decide +kernel
theorem dX5_takeNumber_10 : decode cX5_takeNumber 10 = .ok (.invokevirtual 84, 3) := by decide +kernel
theorem dX5_takeNumber_13 : decode cX5_takeNumber 13 = .ok (.iconst 0, 1) := by decide +kernel
theorem dX5_takeNumber_14 : decode cX5_takeNumber 14 = .ok (.ireturn, 1) := by decide +kernel
theorem dX5_takeNumber_15 : decode cX5_takeNumber 15 = .ok (.aload_n 0, 1) := by decide +kernel
theorem dX5_takeNumber_16 : decode cX5_takeNumber 16 = .ok (.getfield 38, 3) := by decide +kernel
theorem dX5_takeNumber_19 : decode cX5_takeNumber 19 = .ok (.istore_n 3, 1) := by decide +kernel
theorem dX5_takeNumber_20 : decode cX5_takeNumber 20 = .ok (.aload_n 0, 1) := by decide +kernel
theorem dX5_takeNumber_21 : decode cX5_takeNumber 21 = .ok (.dup, 1) := by decide +kernel
theorem dX5_takeNumber_22 : decode cX5_takeNumber 22 = .ok (.getfield 38, 3) := by decide +kernel
theorem dX5_takeNumber_25 : decode cX5_takeNumber 25 = .ok (.iconst 1, 1) := by decide +kernel
theorem dX5_takeNumber_26 : decode cX5_takeNumber 26 = .ok (.iadd, 1) := by decide +kernel
theorem dX5_takeNumber_27 : decode cX5_takeNumber 27 = .ok (.putfield 38, 3) := by decide +kernel
theorem dX5_takeNumber_30 : decode cX5_takeNumber 30 = .ok (.aload_n 0, 1) := by decide +kernel
theorem dX5_takeNumber_31 : decode cX5_takeNumber 31 = .ok (.getfield 7, 3) := by decide +kernel
theorem dX5_takeNumber_34 : decode cX5_takeNumber 34 = .ok (.getfield 229, 3) := by decide +kernel
theorem dX5_takeNumber_37 : decode cX5_takeNumber 37 = .ok (.iload_n 3, 1) := by decide +kernel
theorem dX5_takeNumber_38 : decode cX5_takeNumber 38 = .ok (.invokevirtual 54, 3) := by decide +kernel
theorem dX5_takeNumber_41 : decode cX5_takeNumber 41 = .ok (.istore 4, 2) := by decide +kernel
theorem dX5_takeNumber_43 : decode cX5_takeNumber 43 = .ok (.iload 4, 2) := by decide +kernel
theorem dX5_takeNumber_45 : decode cX5_takeNumber 45 = .ok (.iload_n 1, 1) := by decide +kernel
theorem dX5_takeNumber_46 : decode cX5_takeNumber 46 = .ok (.if_icmp .lt 9, 3) := by decide +kernel
theorem dX5_takeNumber_49 : decode cX5_takeNumber 49 = .ok (.iload 4, 2) := by decide +kernel
theorem dX5_takeNumber_51 : decode cX5_takeNumber 51 = .ok (.iload_n 2, 1) := by decide +kernel
theorem dX5_takeNumber_52 : decode cX5_takeNumber 52 = .ok (.if_icmp .le 9, 3) := by decide +kernel
theorem dX5_takeNumber_55 : decode cX5_takeNumber 55 = .ok (.aload_n 0, 1) := by decide +kernel
theorem dX5_takeNumber_56 : decode cX5_takeNumber 56 = .ok (.iconst 5, 1) := by decide +kernel
theorem dX5_takeNumber_57 : decode cX5_takeNumber 57 = .ok (.iload_n 3, 1) := by decide +kernel
theorem dX5_takeNumber_58 : decode cX5_takeNumber 58 = .ok (.invokevirtual 154, 3) := by decide +kernel
theorem dX5_takeNumber_61 : decode cX5_takeNumber 61 = .ok (.iload 4, 2) := by decide +kernel
theorem dX5_takeNumber_63 : decode cX5_takeNumber 63 = .ok (.ireturn, 1) := by decide +kernel
theorem dX5_blame_0 : decode cX5_blame 0 = .ok (.aload_n 0, 1) := by decide +kernel
theorem dX5_blame_1 : decode cX5_blame 1 = .ok (.getfield 42, 3) := by decide +kernel
theorem dX5_blame_4 : decode cX5_blame 4 = .ok (.ifCond .ne 13, 3) := by decide +kernel
theorem dX5_blame_7 : decode cX5_blame 7 = .ok (.aload_n 0, 1) := by decide +kernel
theorem dX5_blame_8 : decode cX5_blame 8 = .ok (.iload_n 1, 1) := by decide +kernel
theorem dX5_blame_9 : decode cX5_blame 9 = .ok (.putfield 42, 3) := by decide +kernel
theorem dX5_blame_12 : decode cX5_blame 12 = .ok (.aload_n 0, 1) := by decide +kernel
theorem dX5_blame_13 : decode cX5_blame 13 = .ok (.iload_n 2, 1) := by decide +kernel
theorem dX5_blame_14 : decode cX5_blame 14 = .ok (.putfield 45, 3) := by decide +kernel
theorem dX5_blame_17 : decode cX5_blame 17 = .ok (.return_, 1) := by decide +kernel
theorem dX5_fail_0 : decode cX5_fail 0 = .ok (.aload_n 0, 1) := by decide +kernel
theorem dX5_fail_1 : decode cX5_fail 1 = .ok (.getfield 42, 3) := by decide +kernel
theorem dX5_fail_4 : decode cX5_fail 4 = .ok (.iconst 1, 1) := by decide +kernel
theorem dX5_fail_5 : decode cX5_fail 5 = .ok (.if_icmp .eq 16, 3) := by decide +kernel
theorem dX5_fail_8 : decode cX5_fail 8 = .ok (.aload_n 0, 1) := by decide +kernel
theorem dX5_fail_9 : decode cX5_fail 9 = .ok (.iconst 1, 1) := by decide +kernel
theorem dX5_fail_10 : decode cX5_fail 10 = .ok (.putfield 42, 3) := by decide +kernel
theorem dX5_fail_13 : decode cX5_fail 13 = .ok (.aload_n 0, 1) := by decide +kernel
theorem dX5_fail_14 : decode cX5_fail 14 = .ok (.aload_n 0, 1) := by decide +kernel
theorem dX5_fail_15 : decode cX5_fail 15 = .ok (.getfield 38, 3) := by decide +kernel
theorem dX5_fail_18 : decode cX5_fail 18 = .ok (.putfield 45, 3) := by decide +kernel
theorem dX5_fail_21 : decode cX5_fail 21 = .ok (.return_, 1) := by decide +kernel
theorem dX6_init_0 : decode cX6_init 0 = .ok (.aload_n 0, 1) := by decide +kernel
theorem dX6_init_1 : decode cX6_init 1 = .ok (.invokespecial 1, 3) := by decide +kernel
theorem dX6_init_4 : decode cX6_init 4 = .ok (.aload_n 0, 1) := by decide +kernel
theorem dX6_init_5 : decode cX6_init 5 = .ok (.aload_n 1, 1) := by decide +kernel
theorem dX6_init_6 : decode cX6_init 6 = .ok (.putfield 7, 3) := by decide +kernel
theorem dX6_init_9 : decode cX6_init 9 = .ok (.aload_n 0, 1) := by decide +kernel
theorem dX6_init_10 : decode cX6_init 10 = .ok (.aload_n 2, 1) := by decide +kernel
theorem dX6_init_11 : decode cX6_init 11 = .ok (.putfield 13, 3) := by decide +kernel
theorem dX6_init_14 : decode cX6_init 14 = .ok (.aload_n 0, 1) := by decide +kernel
theorem dX6_init_15 : decode cX6_init 15 = .ok (.new 17, 3) := by decide +kernel
theorem dX6_init_18 : decode cX6_init 18 = .ok (.dup, 1) := by decide +kernel
theorem dX6_init_19 : decode cX6_init 19 = .ok (.sipush 400, 3) := by decide +kernel
theorem dX6_init_22 : decode cX6_init 22 = .ok (.invokespecial 21, 3) := by decide +kernel
theorem dX6_init_25 : decode cX6_init 25 = .ok (.putfield 24, 3) := by decide +kernel
theorem dX6_init_28 : decode cX6_init 28 = .ok (.aload_n 0, 1) := by decide +kernel
theorem dX6_init_29 : decode cX6_init 29 = .ok (.iconst 0, 1) := by decide +kernel
theorem dX6_init_30 : decode cX6_init 30 = .ok (.putfield 28, 3) := by decide +kernel
theorem dX6_init_33 : decode cX6_init 33 = .ok (.return_, 1) := by decide +kernel
theorem dX6_reckon_0 : decode cX6_reckon 0 = .ok (.aload_n 0, 1) := by decide +kernel
theorem dX6_reckon_1 : decode cX6_reckon 1 = .ok (.iconst 0, 1) := by decide +kernel
theorem dX6_reckon_2 : decode cX6_reckon 2 = .ok (.putfield 28, 3) := by decide +kernel
theorem dX6_reckon_5 : decode cX6_reckon 5 = .ok (.iload_n 1, 1) := by decide +kernel
theorem dX6_reckon_6 : decode cX6_reckon 6 = .ok (.istore_n 3, 1) := by decide +kernel
theorem dX6_reckon_7 : decode cX6_reckon 7 = .ok (.iload_n 3, 1) := by decide +kernel
theorem dX6_reckon_8 : decode cX6_reckon 8 = .ok (.iload_n 2, 1) := by decide +kernel
theorem dX6_reckon_9 : decode cX6_reckon 9 = .ok (.if_icmp .ge 210, 3) := by decide +kernel
theorem dX6_reckon_12 : decode cX6_reckon 12 = .ok (.aload_n 0, 1) := by decide +kernel
theorem dX6_reckon_13 : decode cX6_reckon 13 = .ok (.getfield 7, 3) := by decide +kernel
theorem dX6_reckon_16 : decode cX6_reckon 16 = .ok (.getfield 32, 3) := by decide +kernel
theorem dX6_reckon_19 : decode cX6_reckon 19 = .ok (.iload_n 3, 1) := by decide +kernel
theorem dX6_reckon_20 : decode cX6_reckon 20 = .ok (.invokevirtual 35, 3) := by decide +kernel
theorem dX6_reckon_23 : decode cX6_reckon 23 = .ok (.istore 4, 2) := by decide +kernel
theorem dX6_reckon_25 : decode cX6_reckon 25 = .ok (.iload 4, 2) := by decide +kernel
theorem dX6_reckon_27 : decode cX6_reckon 27 = .ok (.bipush 51, 2) := by decide +kernel
theorem dX6_reckon_29 : decode cX6_reckon 29 = .ok (.if_icmp .ne 15, 3) := by decide +kernel
theorem dX6_reckon_32 : decode cX6_reckon 32 = .ok (.aload_n 0, 1) := by decide +kernel
theorem dX6_reckon_33 : decode cX6_reckon 33 = .ok (.aload_n 0, 1) := by decide +kernel
theorem dX6_reckon_34 : decode cX6_reckon 34 = .ok (.invokevirtual 41, 3) := by decide +kernel
theorem dX6_reckon_37 : decode cX6_reckon 37 = .ok (.ineg, 1) := by decide +kernel
theorem dX6_reckon_38 : decode cX6_reckon 38 = .ok (.invokevirtual 45, 3) := by decide +kernel
theorem dX6_reckon_41 : decode cX6_reckon 41 = .ok (.goto 172, 3) := by decide +kernel
theorem dX6_reckon_44 : decode cX6_reckon 44 = .ok (.iload 4, 2) := by decide +kernel
theorem dX6_reckon_46 : decode cX6_reckon 46 = .ok (.bipush 27, 2) := by decide +kernel
theorem dX6_reckon_48 : decode cX6_reckon 48 = .ok (.if_icmp .ne 16, 3) := by decide +kernel
theorem dX6_reckon_51 : decode cX6_reckon 51 = .ok (.aload_n 0, 1) := by decide +kernel
theorem dX6_reckon_52 : decode cX6_reckon 52 = .ok (.iconst 1, 1) := by decide +kernel
theorem dX6_reckon_53 : decode cX6_reckon 53 = .ok (.aload_n 0, 1) := by decide +kernel
theorem dX6_reckon_54 : decode cX6_reckon 54 = .ok (.invokevirtual 41, 3) := by decide +kernel
theorem dX6_reckon_57 : decode cX6_reckon 57 = .ok (.isub, 1) := by decide +kernel
theorem dX6_reckon_58 : decode cX6_reckon 58 = .ok (.invokevirtual 45, 3) := by decide +kernel
theorem dX6_reckon_61 : decode cX6_reckon 61 = .ok (.goto 152, 3) := by decide +kernel
theorem dX6_reckon_64 : decode cX6_reckon 64 = .ok (.iload 4, 2) := by decide +kernel
theorem dX6_reckon_66 : decode cX6_reckon 66 = .ok (.invokestatic 48, 3) := by decide +kernel
theorem dX6_reckon_69 : decode cX6_reckon 69 = .ok (.ifCond .eq 27, 3) := by decide +kernel
theorem dX6_reckon_72 : decode cX6_reckon 72 = .ok (.aload_n 0, 1) := by decide +kernel
theorem dX6_reckon_73 : decode cX6_reckon 73 = .ok (.invokevirtual 41, 3) := by decide +kernel
theorem dX6_reckon_76 : decode cX6_reckon 76 = .ok (.istore 5, 2) := by decide +kernel
theorem dX6_reckon_78 : decode cX6_reckon 78 = .ok (.aload_n 0, 1) := by decide +kernel
theorem dX6_reckon_79 : decode cX6_reckon 79 = .ok (.iload 4, 2) := by decide +kernel
theorem dX6_reckon_81 : decode cX6_reckon 81 = .ok (.aload_n 0, 1) := by decide +kernel
theorem dX6_reckon_82 : decode cX6_reckon 82 = .ok (.invokevirtual 41, 3) := by decide +kernel
theorem dX6_reckon_85 : decode cX6_reckon 85 = .ok (.iload 5, 2) := by decide +kernel
theorem dX6_reckon_87 : decode cX6_reckon 87 = .ok (.invokestatic 52, 3) := by decide +kernel
theorem dX6_reckon_90 : decode cX6_reckon 90 = .ok (.invokevirtual 45, 3) := by decide +kernel
theorem dX6_reckon_93 : decode cX6_reckon 93 = .ok (.goto 120, 3) := by decide +kernel
theorem dX6_reckon_96 : decode cX6_reckon 96 = .ok (.iload 4, 2) := by decide +kernel
theorem dX6_reckon_98 : decode cX6_reckon 98 = .ok (.invokestatic 56, 3) := by decide +kernel
theorem dX6_reckon_101 : decode cX6_reckon 101 = .ok (.ifCond .eq 35, 3) := by decide +kernel
theorem dX6_reckon_104 : decode cX6_reckon 104 = .ok (.aload_n 0, 1) := by decide +kernel
theorem dX6_reckon_105 : decode cX6_reckon 105 = .ok (.invokevirtual 41, 3) := by decide +kernel
theorem dX6_reckon_108 : decode cX6_reckon 108 = .ok (.istore 5, 2) := by decide +kernel
theorem dX6_reckon_110 : decode cX6_reckon 110 = .ok (.aload_n 0, 1) := by decide +kernel
theorem dX6_reckon_111 : decode cX6_reckon 111 = .ok (.iload 4, 2) := by decide +kernel
theorem dX6_reckon_113 : decode cX6_reckon 113 = .ok (.aload_n 0, 1) := by decide +kernel
theorem dX6_reckon_114 : decode cX6_reckon 114 = .ok (.invokevirtual 41, 3) := by decide +kernel
theorem dX6_reckon_117 : decode cX6_reckon 117 = .ok (.iload 5, 2) := by decide +kernel
theorem dX6_reckon_119 : decode cX6_reckon 119 = .ok (.invokestatic 59, 3) := by decide +kernel
theorem dX6_reckon_122 : decode cX6_reckon 122 = .ok (.ifCond .eq 7, 3) := by decide +kernel
theorem dX6_reckon_125 : decode cX6_reckon 125 = .ok (.iconst 1, 1) := by decide +kernel
theorem dX6_reckon_126 : decode cX6_reckon 126 = .ok (.goto 4, 3) := by decide +kernel
theorem dX6_reckon_129 : decode cX6_reckon 129 = .ok (.iconst 0, 1) := by decide +kernel
theorem dX6_reckon_130 : decode cX6_reckon 130 = .ok (.invokevirtual 45, 3) := by decide +kernel
theorem dX6_reckon_133 : decode cX6_reckon 133 = .ok (.goto 80, 3) := by decide +kernel
theorem dX6_reckon_136 : decode cX6_reckon 136 = .ok (.iload 4, 2) := by decide +kernel
theorem dX6_reckon_138 : decode cX6_reckon 138 = .ok (.invokestatic 63, 3) := by decide +kernel
theorem dX6_reckon_141 : decode cX6_reckon 141 = .ok (.ifCond .eq 40, 3) := by decide +kernel
theorem dX6_reckon_144 : decode cX6_reckon 144 = .ok (.aload_n 0, 1) := by decide +kernel
