theorem d_Mo_keepsTold_0 : decode yMo_keepsTold.2.1 0 = .ok (.iconst 0, 1) := by decide +kernel
theorem d_Mo_keepsTold_1 : decode yMo_keepsTold.2.1 1 = .ok (.istore_n 1, 1) := by decide +kernel
theorem d_Mo_keepsTold_2 : decode yMo_keepsTold.2.1 2 = .ok (.iload_n 1, 1) := by decide +kernel
theorem d_Mo_keepsTold_3 : decode yMo_keepsTold.2.1 3 = .ok (.bipush 12, 2) := by decide +kernel
theorem d_Mo_keepsTold_5 : decode yMo_keepsTold.2.1 5 = .ok (.if_icmp .ge 73, 3) := by decide +kernel
theorem d_Mo_keepsTold_8 : decode yMo_keepsTold.2.1 8 = .ok (.aload_n 0, 1) := by decide +kernel
theorem d_Mo_keepsTold_9 : decode yMo_keepsTold.2.1 9 = .ok (.getfield 19, 3) := by decide +kernel
theorem d_Mo_keepsTold_12 : decode yMo_keepsTold.2.1 12 = .ok (.iload_n 1, 1) := by decide +kernel
theorem d_Mo_keepsTold_13 : decode yMo_keepsTold.2.1 13 = .ok (.aload_n 0, 1) := by decide +kernel
theorem d_Mo_keepsTold_14 : decode yMo_keepsTold.2.1 14 = .ok (.aload_n 0, 1) := by decide +kernel
theorem d_Mo_keepsTold_15 : decode yMo_keepsTold.2.1 15 = .ok (.getfield 19, 3) := by decide +kernel
theorem d_Mo_keepsTold_18 : decode yMo_keepsTold.2.1 18 = .ok (.iload_n 1, 1) := by decide +kernel
theorem d_Mo_keepsTold_19 : decode yMo_keepsTold.2.1 19 = .ok (.iaload, 1) := by decide +kernel
theorem d_Mo_keepsTold_20 : decode yMo_keepsTold.2.1 20 = .ok (.invokevirtual 496, 3) := by decide +kernel
theorem d_Mo_keepsTold_23 : decode yMo_keepsTold.2.1 23 = .ok (.iastore, 1) := by decide +kernel
theorem d_Mo_keepsTold_24 : decode yMo_keepsTold.2.1 24 = .ok (.aload_n 0, 1) := by decide +kernel
theorem d_Mo_keepsTold_25 : decode yMo_keepsTold.2.1 25 = .ok (.getfield 22, 3) := by decide +kernel
theorem d_Mo_keepsTold_28 : decode yMo_keepsTold.2.1 28 = .ok (.iload_n 1, 1) := by decide +kernel
theorem d_Mo_keepsTold_29 : decode yMo_keepsTold.2.1 29 = .ok (.aload_n 0, 1) := by decide +kernel
theorem d_Mo_keepsTold_30 : decode yMo_keepsTold.2.1 30 = .ok (.aload_n 0, 1) := by decide +kernel
theorem d_Mo_keepsTold_31 : decode yMo_keepsTold.2.1 31 = .ok (.getfield 22, 3) := by decide +kernel
theorem d_Mo_keepsTold_34 : decode yMo_keepsTold.2.1 34 = .ok (.iload_n 1, 1) := by decide +kernel
theorem d_Mo_keepsTold_35 : decode yMo_keepsTold.2.1 35 = .ok (.iaload, 1) := by decide +kernel
theorem d_Mo_keepsTold_36 : decode yMo_keepsTold.2.1 36 = .ok (.invokevirtual 496, 3) := by decide +kernel
theorem d_Mo_keepsTold_39 : decode yMo_keepsTold.2.1 39 = .ok (.iastore, 1) := by decide +kernel
theorem d_Mo_keepsTold_40 : decode yMo_keepsTold.2.1 40 = .ok (.aload_n 0, 1) := by decide +kernel
theorem d_Mo_keepsTold_41 : decode yMo_keepsTold.2.1 41 = .ok (.getfield 25, 3) := by decide +kernel
theorem d_Mo_keepsTold_44 : decode yMo_keepsTold.2.1 44 = .ok (.iload_n 1, 1) := by decide +kernel
theorem d_Mo_keepsTold_45 : decode yMo_keepsTold.2.1 45 = .ok (.aload_n 0, 1) := by decide +kernel
theorem d_Mo_keepsTold_46 : decode yMo_keepsTold.2.1 46 = .ok (.aload_n 0, 1) := by decide +kernel
theorem d_Mo_keepsTold_47 : decode yMo_keepsTold.2.1 47 = .ok (.getfield 25, 3) := by decide +kernel
theorem d_Mo_keepsTold_50 : decode yMo_keepsTold.2.1 50 = .ok (.iload_n 1, 1) := by decide +kernel
theorem d_Mo_keepsTold_51 : decode yMo_keepsTold.2.1 51 = .ok (.iaload, 1) := by decide +kernel
theorem d_Mo_keepsTold_52 : decode yMo_keepsTold.2.1 52 = .ok (.invokevirtual 496, 3) := by decide +kernel
theorem d_Mo_keepsTold_55 : decode yMo_keepsTold.2.1 55 = .ok (.iastore, 1) := by decide +kernel
theorem d_Mo_keepsTold_56 : decode yMo_keepsTold.2.1 56 = .ok (.aload_n 0, 1) := by decide +kernel
theorem d_Mo_keepsTold_57 : decode yMo_keepsTold.2.1 57 = .ok (.getfield 74, 3) := by decide +kernel
theorem d_Mo_keepsTold_60 : decode yMo_keepsTold.2.1 60 = .ok (.iload_n 1, 1) := by decide +kernel
theorem d_Mo_keepsTold_61 : decode yMo_keepsTold.2.1 61 = .ok (.aload_n 0, 1) := by decide +kernel
theorem d_Mo_keepsTold_62 : decode yMo_keepsTold.2.1 62 = .ok (.aload_n 0, 1) := by decide +kernel
theorem d_Mo_keepsTold_63 : decode yMo_keepsTold.2.1 63 = .ok (.getfield 74, 3) := by decide +kernel
theorem d_Mo_keepsTold_66 : decode yMo_keepsTold.2.1 66 = .ok (.iload_n 1, 1) := by decide +kernel
theorem d_Mo_keepsTold_67 : decode yMo_keepsTold.2.1 67 = .ok (.iaload, 1) := by decide +kernel
theorem d_Mo_keepsTold_68 : decode yMo_keepsTold.2.1 68 = .ok (.invokevirtual 496, 3) := by decide +kernel
theorem d_Mo_keepsTold_71 : decode yMo_keepsTold.2.1 71 = .ok (.iastore, 1) := by decide +kernel
theorem d_Mo_keepsTold_72 : decode yMo_keepsTold.2.1 72 = .ok (.iinc 1 1, 3) := by decide +kernel
theorem d_Mo_keepsTold_75 : decode yMo_keepsTold.2.1 75 = .ok (.goto (-73), 3) := by decide +kernel
theorem d_Mo_keepsTold_78 : decode yMo_keepsTold.2.1 78 = .ok (.iconst 0, 1) := by decide +kernel
theorem d_Mo_keepsTold_79 : decode yMo_keepsTold.2.1 79 = .ok (.istore_n 1, 1) := by decide +kernel
theorem d_Mo_keepsTold_80 : decode yMo_keepsTold.2.1 80 = .ok (.iload_n 1, 1) := by decide +kernel
theorem d_Mo_keepsTold_81 : decode yMo_keepsTold.2.1 81 = .ok (.bipush 8, 2) := by decide +kernel
theorem d_Mo_keepsTold_83 : decode yMo_keepsTold.2.1 83 = .ok (.if_icmp .ge 121, 3) := by decide +kernel
theorem d_Mo_keepsTold_86 : decode yMo_keepsTold.2.1 86 = .ok (.aload_n 0, 1) := by decide +kernel
theorem d_Mo_keepsTold_87 : decode yMo_keepsTold.2.1 87 = .ok (.getfield 28, 3) := by decide +kernel
theorem d_Mo_keepsTold_90 : decode yMo_keepsTold.2.1 90 = .ok (.iload_n 1, 1) := by decide +kernel
theorem d_Mo_keepsTold_91 : decode yMo_keepsTold.2.1 91 = .ok (.aload_n 0, 1) := by decide +kernel
theorem d_Mo_keepsTold_92 : decode yMo_keepsTold.2.1 92 = .ok (.aload_n 0, 1) := by decide +kernel
theorem d_Mo_keepsTold_93 : decode yMo_keepsTold.2.1 93 = .ok (.getfield 28, 3) := by decide +kernel
theorem d_Mo_keepsTold_96 : decode yMo_keepsTold.2.1 96 = .ok (.iload_n 1, 1) := by decide +kernel
theorem d_Mo_keepsTold_97 : decode yMo_keepsTold.2.1 97 = .ok (.iaload, 1) := by decide +kernel
theorem d_Mo_keepsTold_98 : decode yMo_keepsTold.2.1 98 = .ok (.invokevirtual 496, 3) := by decide +kernel
theorem d_Mo_keepsTold_101 : decode yMo_keepsTold.2.1 101 = .ok (.iastore, 1) := by decide +kernel
theorem d_Mo_keepsTold_102 : decode yMo_keepsTold.2.1 102 = .ok (.aload_n 0, 1) := by decide +kernel
theorem d_Mo_keepsTold_103 : decode yMo_keepsTold.2.1 103 = .ok (.getfield 68, 3) := by decide +kernel
theorem d_Mo_keepsTold_106 : decode yMo_keepsTold.2.1 106 = .ok (.iload_n 1, 1) := by decide +kernel
theorem d_Mo_keepsTold_107 : decode yMo_keepsTold.2.1 107 = .ok (.aload_n 0, 1) := by decide +kernel
theorem d_Mo_keepsTold_108 : decode yMo_keepsTold.2.1 108 = .ok (.aload_n 0, 1) := by decide +kernel
theorem d_Mo_keepsTold_109 : decode yMo_keepsTold.2.1 109 = .ok (.getfield 68, 3) := by decide +kernel
theorem d_Mo_keepsTold_112 : decode yMo_keepsTold.2.1 112 = .ok (.iload_n 1, 1) := by decide +kernel
theorem d_Mo_keepsTold_113 : decode yMo_keepsTold.2.1 113 = .ok (.iaload, 1) := by decide +kernel
theorem d_Mo_keepsTold_114 : decode yMo_keepsTold.2.1 114 = .ok (.invokevirtual 496, 3) := by decide +kernel
theorem d_Mo_keepsTold_117 : decode yMo_keepsTold.2.1 117 = .ok (.iastore, 1) := by decide +kernel
theorem d_Mo_keepsTold_118 : decode yMo_keepsTold.2.1 118 = .ok (.aload_n 0, 1) := by decide +kernel
theorem d_Mo_keepsTold_119 : decode yMo_keepsTold.2.1 119 = .ok (.getfield 101, 3) := by decide +kernel
theorem d_Mo_keepsTold_122 : decode yMo_keepsTold.2.1 122 = .ok (.iload_n 1, 1) := by decide +kernel
theorem d_Mo_keepsTold_123 : decode yMo_keepsTold.2.1 123 = .ok (.aload_n 0, 1) := by decide +kernel
theorem d_Mo_keepsTold_124 : decode yMo_keepsTold.2.1 124 = .ok (.aload_n 0, 1) := by decide +kernel
theorem d_Mo_keepsTold_125 : decode yMo_keepsTold.2.1 125 = .ok (.getfield 101, 3) := by decide +kernel
theorem d_Mo_keepsTold_128 : decode yMo_keepsTold.2.1 128 = .ok (.iload_n 1, 1) := by decide +kernel
theorem d_Mo_keepsTold_129 : decode yMo_keepsTold.2.1 129 = .ok (.iaload, 1) := by decide +kernel
theorem d_Mo_keepsTold_130 : decode yMo_keepsTold.2.1 130 = .ok (.invokevirtual 496, 3) := by decide +kernel
theorem d_Mo_keepsTold_133 : decode yMo_keepsTold.2.1 133 = .ok (.iastore, 1) := by decide +kernel
theorem d_Mo_keepsTold_134 : decode yMo_keepsTold.2.1 134 = .ok (.aload_n 0, 1) := by decide +kernel
theorem d_Mo_keepsTold_135 : decode yMo_keepsTold.2.1 135 = .ok (.getfield 104, 3) := by decide +kernel
theorem d_Mo_keepsTold_138 : decode yMo_keepsTold.2.1 138 = .ok (.iload_n 1, 1) := by decide +kernel
theorem d_Mo_keepsTold_139 : decode yMo_keepsTold.2.1 139 = .ok (.aload_n 0, 1) := by decide +kernel
theorem d_Mo_keepsTold_140 : decode yMo_keepsTold.2.1 140 = .ok (.aload_n 0, 1) := by decide +kernel
theorem d_Mo_keepsTold_141 : decode yMo_keepsTold.2.1 141 = .ok (.getfield 104, 3) := by decide +kernel
theorem d_Mo_keepsTold_144 : decode yMo_keepsTold.2.1 144 = .ok (.iload_n 1, 1) := by decide +kernel
theorem d_Mo_keepsTold_145 : decode yMo_keepsTold.2.1 145 = .ok (.iaload, 1) := by decide +kernel
theorem d_Mo_keepsTold_146 : decode yMo_keepsTold.2.1 146 = .ok (.invokevirtual 496, 3) := by decide +kernel
theorem d_Mo_keepsTold_149 : decode yMo_keepsTold.2.1 149 = .ok (.iastore, 1) := by decide +kernel
theorem d_Mo_keepsTold_150 : decode yMo_keepsTold.2.1 150 = .ok (.aload_n 0, 1) := by decide +kernel
theorem d_Mo_keepsTold_151 : decode yMo_keepsTold.2.1 151 = .ok (.getfield 113, 3) := by decide +kernel
theorem d_Mo_keepsTold_154 : decode yMo_keepsTold.2.1 154 = .ok (.iload_n 1, 1) := by decide +kernel
theorem d_Mo_keepsTold_155 : decode yMo_keepsTold.2.1 155 = .ok (.aload_n 0, 1) := by decide +kernel
theorem d_Mo_keepsTold_156 : decode yMo_keepsTold.2.1 156 = .ok (.aload_n 0, 1) := by decide +kernel
theorem d_Mo_keepsTold_157 : decode yMo_keepsTold.2.1 157 = .ok (.getfield 113, 3) := by decide +kernel
theorem d_Mo_keepsTold_160 : decode yMo_keepsTold.2.1 160 = .ok (.iload_n 1, 1) := by decide +kernel
theorem d_Mo_keepsTold_161 : decode yMo_keepsTold.2.1 161 = .ok (.iaload, 1) := by decide +kernel
theorem d_Mo_keepsTold_162 : decode yMo_keepsTold.2.1 162 = .ok (.invokevirtual 496, 3) := by decide +kernel
theorem d_Mo_keepsTold_165 : decode yMo_keepsTold.2.1 165 = .ok (.iastore, 1) := by decide +kernel
theorem d_Mo_keepsTold_166 : decode yMo_keepsTold.2.1 166 = .ok (.aload_n 0, 1) := by decide +kernel
theorem d_Mo_keepsTold_167 : decode yMo_keepsTold.2.1 167 = .ok (.getfield 122, 3) := by decide +kernel
theorem d_Mo_keepsTold_170 : decode yMo_keepsTold.2.1 170 = .ok (.iload_n 1, 1) := by decide +kernel
theorem d_Mo_keepsTold_171 : decode yMo_keepsTold.2.1 171 = .ok (.aload_n 0, 1) := by decide +kernel
theorem d_Mo_keepsTold_172 : decode yMo_keepsTold.2.1 172 = .ok (.aload_n 0, 1) := by decide +kernel
theorem d_Mo_keepsTold_173 : decode yMo_keepsTold.2.1 173 = .ok (.getfield 122, 3) := by decide +kernel
theorem d_Mo_keepsTold_176 : decode yMo_keepsTold.2.1 176 = .ok (.iload_n 1, 1) := by decide +kernel
theorem d_Mo_keepsTold_177 : decode yMo_keepsTold.2.1 177 = .ok (.iaload, 1) := by decide +kernel
theorem d_Mo_keepsTold_178 : decode yMo_keepsTold.2.1 178 = .ok (.invokevirtual 496, 3) := by decide +kernel
theorem d_Mo_keepsTold_181 : decode yMo_keepsTold.2.1 181 = .ok (.iastore, 1) := by decide +kernel
theorem d_Mo_keepsTold_182 : decode yMo_keepsTold.2.1 182 = .ok (.aload_n 0, 1) := by decide +kernel
theorem d_Mo_keepsTold_183 : decode yMo_keepsTold.2.1 183 = .ok (.getfield 125, 3) := by decide +kernel
theorem d_Mo_keepsTold_186 : decode yMo_keepsTold.2.1 186 = .ok (.iload_n 1, 1) := by decide +kernel
theorem d_Mo_keepsTold_187 : decode yMo_keepsTold.2.1 187 = .ok (.aload_n 0, 1) := by decide +kernel
theorem d_Mo_keepsTold_188 : decode yMo_keepsTold.2.1 188 = .ok (.aload_n 0, 1) := by decide +kernel
theorem d_Mo_keepsTold_189 : decode yMo_keepsTold.2.1 189 = .ok (.getfield 125, 3) := by decide +kernel
theorem d_Mo_keepsTold_192 : decode yMo_keepsTold.2.1 192 = .ok (.iload_n 1, 1) := by decide +kernel
theorem d_Mo_keepsTold_193 : decode yMo_keepsTold.2.1 193 = .ok (.iaload, 1) := by decide +kernel
theorem d_Mo_keepsTold_194 : decode yMo_keepsTold.2.1 194 = .ok (.invokevirtual 496, 3) := by decide +kernel
theorem d_Mo_keepsTold_197 : decode yMo_keepsTold.2.1 197 = .ok (.iastore, 1) := by decide +kernel
theorem d_Mo_keepsTold_198 : decode yMo_keepsTold.2.1 198 = .ok (.iinc 1 1, 3) := by decide +kernel
theorem d_Mo_keepsTold_201 : decode yMo_keepsTold.2.1 201 = .ok (.goto (-121), 3) := by decide +kernel
theorem d_Mo_keepsTold_204 : decode yMo_keepsTold.2.1 204 = .ok (.iconst 0, 1) := by decide +kernel
theorem d_Mo_keepsTold_205 : decode yMo_keepsTold.2.1 205 = .ok (.istore_n 1, 1) := by decide +kernel
theorem d_Mo_keepsTold_206 : decode yMo_keepsTold.2.1 206 = .ok (.iload_n 1, 1) := by decide +kernel
theorem d_Mo_keepsTold_207 : decode yMo_keepsTold.2.1 207 = .ok (.bipush 24, 2) := by decide +kernel
theorem d_Mo_keepsTold_209 : decode yMo_keepsTold.2.1 209 = .ok (.if_icmp .ge 25, 3) := by decide +kernel
theorem d_Mo_keepsTold_212 : decode yMo_keepsTold.2.1 212 = .ok (.aload_n 0, 1) := by decide +kernel
theorem d_Mo_keepsTold_213 : decode yMo_keepsTold.2.1 213 = .ok (.getfield 92, 3) := by decide +kernel
theorem d_Mo_keepsTold_216 : decode yMo_keepsTold.2.1 216 = .ok (.iload_n 1, 1) := by decide +kernel
theorem d_Mo_keepsTold_217 : decode yMo_keepsTold.2.1 217 = .ok (.aload_n 0, 1) := by decide +kernel
theorem d_Mo_keepsTold_218 : decode yMo_keepsTold.2.1 218 = .ok (.aload_n 0, 1) := by decide +kernel
theorem d_Mo_keepsTold_219 : decode yMo_keepsTold.2.1 219 = .ok (.getfield 92, 3) := by decide +kernel
theorem d_Mo_keepsTold_222 : decode yMo_keepsTold.2.1 222 = .ok (.iload_n 1, 1) := by decide +kernel
theorem d_Mo_keepsTold_223 : decode yMo_keepsTold.2.1 223 = .ok (.iaload, 1) := by decide +kernel
theorem d_Mo_keepsTold_224 : decode yMo_keepsTold.2.1 224 = .ok (.invokevirtual 496, 3) := by decide +kernel
theorem d_Mo_keepsTold_227 : decode yMo_keepsTold.2.1 227 = .ok (.iastore, 1) := by decide +kernel
theorem d_Mo_keepsTold_228 : decode yMo_keepsTold.2.1 228 = .ok (.iinc 1 1, 3) := by decide +kernel
theorem d_Mo_keepsTold_231 : decode yMo_keepsTold.2.1 231 = .ok (.goto (-25), 3) := by decide +kernel
theorem d_Mo_keepsTold_234 : decode yMo_keepsTold.2.1 234 = .ok (.iconst 0, 1) := by decide +kernel
theorem d_Mo_keepsTold_235 : decode yMo_keepsTold.2.1 235 = .ok (.istore_n 1, 1) := by decide +kernel
theorem d_Mo_keepsTold_236 : decode yMo_keepsTold.2.1 236 = .ok (.iload_n 1, 1) := by decide +kernel
theorem d_Mo_keepsTold_237 : decode yMo_keepsTold.2.1 237 = .ok (.bipush 10, 2) := by decide +kernel
theorem d_Mo_keepsTold_239 : decode yMo_keepsTold.2.1 239 = .ok (.if_icmp .ge 25, 3) := by decide +kernel
theorem d_Mo_keepsTold_242 : decode yMo_keepsTold.2.1 242 = .ok (.aload_n 0, 1) := by decide +kernel
theorem d_Mo_keepsTold_243 : decode yMo_keepsTold.2.1 243 = .ok (.getfield 107, 3) := by decide +kernel
theorem d_Mo_keepsTold_246 : decode yMo_keepsTold.2.1 246 = .ok (.iload_n 1, 1) := by decide +kernel
theorem d_Mo_keepsTold_247 : decode yMo_keepsTold.2.1 247 = .ok (.aload_n 0, 1) := by decide +kernel
theorem d_Mo_keepsTold_248 : decode yMo_keepsTold.2.1 248 = .ok (.aload_n 0, 1) := by decide +kernel
theorem d_Mo_keepsTold_249 : decode yMo_keepsTold.2.1 249 = .ok (.getfield 107, 3) := by decide +kernel
theorem d_Mo_keepsTold_252 : decode yMo_keepsTold.2.1 252 = .ok (.iload_n 1, 1) := by decide +kernel
theorem d_Mo_keepsTold_253 : decode yMo_keepsTold.2.1 253 = .ok (.iaload, 1) := by decide +kernel
theorem d_Mo_keepsTold_254 : decode yMo_keepsTold.2.1 254 = .ok (.invokevirtual 496, 3) := by decide +kernel
theorem d_Mo_keepsTold_257 : decode yMo_keepsTold.2.1 257 = .ok (.iastore, 1) := by decide +kernel
theorem d_Mo_keepsTold_258 : decode yMo_keepsTold.2.1 258 = .ok (.iinc 1 1, 3) := by decide +kernel
theorem d_Mo_keepsTold_261 : decode yMo_keepsTold.2.1 261 = .ok (.goto (-25), 3) := by decide +kernel
theorem d_Mo_keepsTold_264 : decode yMo_keepsTold.2.1 264 = .ok (.iconst 0, 1) := by decide +kernel
theorem d_Mo_keepsTold_265 : decode yMo_keepsTold.2.1 265 = .ok (.istore_n 1, 1) := by decide +kernel
theorem d_Mo_keepsTold_266 : decode yMo_keepsTold.2.1 266 = .ok (.iload_n 1, 1) := by decide +kernel
theorem d_Mo_keepsTold_267 : decode yMo_keepsTold.2.1 267 = .ok (.bipush 9, 2) := by decide +kernel
theorem d_Mo_keepsTold_269 : decode yMo_keepsTold.2.1 269 = .ok (.if_icmp .ge 73, 3) := by decide +kernel
theorem d_Mo_keepsTold_272 : decode yMo_keepsTold.2.1 272 = .ok (.aload_n 0, 1) := by decide +kernel
theorem d_Mo_keepsTold_273 : decode yMo_keepsTold.2.1 273 = .ok (.getfield 116, 3) := by decide +kernel
theorem d_Mo_keepsTold_276 : decode yMo_keepsTold.2.1 276 = .ok (.iload_n 1, 1) := by decide +kernel
theorem d_Mo_keepsTold_277 : decode yMo_keepsTold.2.1 277 = .ok (.aload_n 0, 1) := by decide +kernel
theorem d_Mo_keepsTold_278 : decode yMo_keepsTold.2.1 278 = .ok (.aload_n 0, 1) := by decide +kernel
theorem d_Mo_keepsTold_279 : decode yMo_keepsTold.2.1 279 = .ok (.getfield 116, 3) := by decide +kernel
theorem d_Mo_keepsTold_282 : decode yMo_keepsTold.2.1 282 = .ok (.iload_n 1, 1) := by decide +kernel
theorem d_Mo_keepsTold_283 : decode yMo_keepsTold.2.1 283 = .ok (.iaload, 1) := by decide +kernel
theorem d_Mo_keepsTold_284 : decode yMo_keepsTold.2.1 284 = .ok (.invokevirtual 496, 3) := by decide +kernel
theorem d_Mo_keepsTold_287 : decode yMo_keepsTold.2.1 287 = .ok (.iastore, 1) := by decide +kernel
theorem d_Mo_keepsTold_288 : decode yMo_keepsTold.2.1 288 = .ok (.aload_n 0, 1) := by decide +kernel
theorem d_Mo_keepsTold_289 : decode yMo_keepsTold.2.1 289 = .ok (.getfield 119, 3) := by decide +kernel
theorem d_Mo_keepsTold_292 : decode yMo_keepsTold.2.1 292 = .ok (.iload_n 1, 1) := by decide +kernel
theorem d_Mo_keepsTold_293 : decode yMo_keepsTold.2.1 293 = .ok (.aload_n 0, 1) := by decide +kernel
theorem d_Mo_keepsTold_294 : decode yMo_keepsTold.2.1 294 = .ok (.aload_n 0, 1) := by decide +kernel
theorem d_Mo_keepsTold_295 : decode yMo_keepsTold.2.1 295 = .ok (.getfield 119, 3) := by decide +kernel
theorem d_Mo_keepsTold_298 : decode yMo_keepsTold.2.1 298 = .ok (.iload_n 1, 1) := by decide +kernel
theorem d_Mo_keepsTold_299 : decode yMo_keepsTold.2.1 299 = .ok (.iaload, 1) := by decide +kernel
theorem d_Mo_keepsTold_300 : decode yMo_keepsTold.2.1 300 = .ok (.invokevirtual 496, 3) := by decide +kernel
theorem d_Mo_keepsTold_303 : decode yMo_keepsTold.2.1 303 = .ok (.iastore, 1) := by decide +kernel
theorem d_Mo_keepsTold_304 : decode yMo_keepsTold.2.1 304 = .ok (.aload_n 0, 1) := by decide +kernel
theorem d_Mo_keepsTold_305 : decode yMo_keepsTold.2.1 305 = .ok (.getfield 128, 3) := by decide +kernel
theorem d_Mo_keepsTold_308 : decode yMo_keepsTold.2.1 308 = .ok (.iload_n 1, 1) := by decide +kernel
theorem d_Mo_keepsTold_309 : decode yMo_keepsTold.2.1 309 = .ok (.aload_n 0, 1) := by decide +kernel
theorem d_Mo_keepsTold_310 : decode yMo_keepsTold.2.1 310 = .ok (.aload_n 0, 1) := by decide +kernel
theorem d_Mo_keepsTold_311 : decode yMo_keepsTold.2.1 311 = .ok (.getfield 128, 3) := by decide +kernel
theorem d_Mo_keepsTold_314 : decode yMo_keepsTold.2.1 314 = .ok (.iload_n 1, 1) := by decide +kernel
theorem d_Mo_keepsTold_315 : decode yMo_keepsTold.2.1 315 = .ok (.iaload, 1) := by decide +kernel
theorem d_Mo_keepsTold_316 : decode yMo_keepsTold.2.1 316 = .ok (.invokevirtual 496, 3) := by decide +kernel
theorem d_Mo_keepsTold_319 : decode yMo_keepsTold.2.1 319 = .ok (.iastore, 1) := by decide +kernel
theorem d_Mo_keepsTold_320 : decode yMo_keepsTold.2.1 320 = .ok (.aload_n 0, 1) := by decide +kernel
theorem d_Mo_keepsTold_321 : decode yMo_keepsTold.2.1 321 = .ok (.getfield 131, 3) := by decide +kernel
theorem d_Mo_keepsTold_324 : decode yMo_keepsTold.2.1 324 = .ok (.iload_n 1, 1) := by decide +kernel
theorem d_Mo_keepsTold_325 : decode yMo_keepsTold.2.1 325 = .ok (.aload_n 0, 1) := by decide +kernel
theorem d_Mo_keepsTold_326 : decode yMo_keepsTold.2.1 326 = .ok (.aload_n 0, 1) := by decide +kernel
theorem d_Mo_keepsTold_327 : decode yMo_keepsTold.2.1 327 = .ok (.getfield 131, 3) := by decide +kernel
theorem d_Mo_keepsTold_330 : decode yMo_keepsTold.2.1 330 = .ok (.iload_n 1, 1) := by decide +kernel
theorem d_Mo_keepsTold_331 : decode yMo_keepsTold.2.1 331 = .ok (.iaload, 1) := by decide +kernel
theorem d_Mo_keepsTold_332 : decode yMo_keepsTold.2.1 332 = .ok (.invokevirtual 496, 3) := by decide +kernel
theorem d_Mo_keepsTold_335 : decode yMo_keepsTold.2.1 335 = .ok (.iastore, 1) := by decide +kernel
theorem d_Mo_keepsTold_336 : decode yMo_keepsTold.2.1 336 = .ok (.iinc 1 1, 3) := by decide +kernel
theorem d_Mo_keepsTold_339 : decode yMo_keepsTold.2.1 339 = .ok (.goto (-73), 3) := by decide +kernel
theorem d_Mo_keepsTold_342 : decode yMo_keepsTold.2.1 342 = .ok (.iconst 0, 1) := by decide +kernel
theorem d_Mo_keepsTold_343 : decode yMo_keepsTold.2.1 343 = .ok (.istore_n 1, 1) := by decide +kernel
theorem d_Mo_keepsTold_344 : decode yMo_keepsTold.2.1 344 = .ok (.iload_n 1, 1) := by decide +kernel
theorem d_Mo_keepsTold_345 : decode yMo_keepsTold.2.1 345 = .ok (.bipush 64, 2) := by decide +kernel
theorem d_Mo_keepsTold_347 : decode yMo_keepsTold.2.1 347 = .ok (.if_icmp .ge 25, 3) := by decide +kernel
theorem d_Mo_keepsTold_350 : decode yMo_keepsTold.2.1 350 = .ok (.aload_n 0, 1) := by decide +kernel
theorem d_Mo_keepsTold_351 : decode yMo_keepsTold.2.1 351 = .ok (.getfield 71, 3) := by decide +kernel
theorem d_Mo_keepsTold_354 : decode yMo_keepsTold.2.1 354 = .ok (.iload_n 1, 1) := by decide +kernel
theorem d_Mo_keepsTold_355 : decode yMo_keepsTold.2.1 355 = .ok (.aload_n 0, 1) := by decide +kernel
theorem d_Mo_keepsTold_356 : decode yMo_keepsTold.2.1 356 = .ok (.aload_n 0, 1) := by decide +kernel
theorem d_Mo_keepsTold_357 : decode yMo_keepsTold.2.1 357 = .ok (.getfield 71, 3) := by decide +kernel
theorem d_Mo_keepsTold_360 : decode yMo_keepsTold.2.1 360 = .ok (.iload_n 1, 1) := by decide +kernel
theorem d_Mo_keepsTold_361 : decode yMo_keepsTold.2.1 361 = .ok (.iaload, 1) := by decide +kernel
theorem d_Mo_keepsTold_362 : decode yMo_keepsTold.2.1 362 = .ok (.invokevirtual 496, 3) := by decide +kernel
theorem d_Mo_keepsTold_365 : decode yMo_keepsTold.2.1 365 = .ok (.iastore, 1) := by decide +kernel
theorem d_Mo_keepsTold_366 : decode yMo_keepsTold.2.1 366 = .ok (.iinc 1 1, 3) := by decide +kernel
theorem d_Mo_keepsTold_369 : decode yMo_keepsTold.2.1 369 = .ok (.goto (-25), 3) := by decide +kernel
theorem d_Mo_keepsTold_372 : decode yMo_keepsTold.2.1 372 = .ok (.return_, 1) := by decide +kernel
def L_Mo_keepsTold_2 : Nat → Int32 → gb_Mem → Option (gb_Mem)
  | 0, _, _ => none
  | n + 1, x1, I =>
    if 12 ≤ x1 then
      some I
    else
      flod I 4 12 x1 fun v1 =>
      fbd (F_Mo_keeps v1 I) fun (r3, I2) =>
      fsto I2 4 12 x1 r3 fun I4 =>
      flod I4 5 12 x1 fun v5 =>
      fbd (F_Mo_keeps v5 I4) fun (r7, I6) =>
      fsto I6 5 12 x1 r7 fun I8 =>
      flod I8 6 12 x1 fun v9 =>
      fbd (F_Mo_keeps v9 I8) fun (r11, I10) =>
      fsto I10 6 12 x1 r11 fun I12 =>
      flod I12 21 24 x1 fun v13 =>
      fbd (F_Mo_keeps v13 I12) fun (r15, I14) =>
      fsto I14 21 24 x1 r15 fun I16 =>
      L_Mo_keepsTold_2 n (x1 + 1) I16
set_option maxRecDepth 4000 in
theorem l_Mo_keepsTold_2 (l : Launch) (d0 : Nat) {post : Option gb_AV → List gb_Ce → gb_Mem → Prop} : ∀ (n : Nat) (x1 : Int32) (I : gb_Mem) {ρ : gb_Mem} (h : L_Mo_keepsTold_2 n x1 I = some ρ) (hX : ∀ (I2 : gb_Mem), ρ = I2 → gb_Go l yMo_keepsTold (d0 + 1) 0 0 78 [(0, .inr (some 0))] [] shM I2 post) , gb_Go l yMo_keepsTold (d0 + 1) 0 0 2 [(0, .inr (some 0)), (1, .inl x1)] [] shM I post := by
  intro n
  induction n with
  | zero => intro x1 I ρ h hX; cases h
  | succ n ih =>
    intro x1 I ρ h hX
    rw [L_Mo_keepsTold_2] at h
    refine go_iload_n (k := 1) d_Mo_keepsTold_2 rfl rfl ?_
    refine go_bipush (v := 12) d_Mo_keepsTold_3 (by decide) ?_
    refine go_cmp_ge (tgt := 78) d_Mo_keepsTold_5 (by decide) (fun hc => ?_) (fun hc => ?_)
    · rw [if_pos hc] at h
      exact go_lv [0] rfl (hX _ (Option.some.inj h).symm)
    · rw [if_neg hc] at h
      refine go_aload_n (k := 0) d_Mo_keepsTold_8 rfl rfl ?_
      refine go_getr (ci := 10) (k := 7) (r := 4) d_Mo_keepsTold_9 a_M_0 rfl (by decide) f_Mo_19 rfl ?_
      refine go_iload_n (k := 1) d_Mo_keepsTold_12 rfl rfl ?_
      refine go_aload_n (k := 0) d_Mo_keepsTold_13 rfl rfl ?_
      refine go_aload_n (k := 0) d_Mo_keepsTold_14 rfl rfl ?_
      refine go_getr (ci := 10) (k := 7) (r := 4) d_Mo_keepsTold_15 a_M_0 rfl (by decide) f_Mo_19 rfl ?_
      refine go_iload_n (k := 1) d_Mo_keepsTold_18 rfl rfl ?_
      obtain ⟨hi, v1, ev1, h⟩ := flod_e h
      refine go_iald2 d_Mo_keepsTold_19 a_M_4 hi ev1 ?_
      obtain ⟨⟨r3, I2⟩, w1, h⟩ := fbd_e h
      try dsimp only at h
      refine go_callV (y := yMo_keeps) (asr := [.inl v1]) (v := some (.inl r3)) (I' := I2) (st1 := [.inl r3, .inl x1, .inr (some 4)]) d_Mo_keepsTold_20 s_yMo_keeps m_Mo_496 a_M_0 rfl rfl rfl (Nat.le_of_ble_eq_true rfl) rfl rfl (c_Mo_keeps l (d0 + 0) v1 I w1) ?_
      obtain ⟨hi, I4, eI4, h⟩ := fsto_e h
      refine go_iast (I' := I4) d_Mo_keepsTold_23 a_M_4 hi eI4 ?_
      refine go_aload_n (k := 0) d_Mo_keepsTold_24 rfl rfl ?_
      refine go_getr (ci := 10) (k := 8) (r := 5) d_Mo_keepsTold_25 a_M_0 rfl (by decide) f_Mo_22 rfl ?_
      refine go_iload_n (k := 1) d_Mo_keepsTold_28 rfl rfl ?_
      refine go_aload_n (k := 0) d_Mo_keepsTold_29 rfl rfl ?_
      refine go_aload_n (k := 0) d_Mo_keepsTold_30 rfl rfl ?_
      refine go_getr (ci := 10) (k := 8) (r := 5) d_Mo_keepsTold_31 a_M_0 rfl (by decide) f_Mo_22 rfl ?_
      refine go_iload_n (k := 1) d_Mo_keepsTold_34 rfl rfl ?_
      obtain ⟨hi, v5, ev5, h⟩ := flod_e h
      refine go_iald2 d_Mo_keepsTold_35 a_M_5 hi ev5 ?_
      obtain ⟨⟨r7, I6⟩, w1, h⟩ := fbd_e h
      try dsimp only at h
      refine go_callV (y := yMo_keeps) (asr := [.inl v5]) (v := some (.inl r7)) (I' := I6) (st1 := [.inl r7, .inl x1, .inr (some 5)]) d_Mo_keepsTold_36 s_yMo_keeps m_Mo_496 a_M_0 rfl rfl rfl (Nat.le_of_ble_eq_true rfl) rfl rfl (c_Mo_keeps l (d0 + 0) v5 I4 w1) ?_
      obtain ⟨hi, I8, eI8, h⟩ := fsto_e h
      refine go_iast (I' := I8) d_Mo_keepsTold_39 a_M_5 hi eI8 ?_
      refine go_aload_n (k := 0) d_Mo_keepsTold_40 rfl rfl ?_
      refine go_getr (ci := 10) (k := 9) (r := 6) d_Mo_keepsTold_41 a_M_0 rfl (by decide) f_Mo_25 rfl ?_
      refine go_iload_n (k := 1) d_Mo_keepsTold_44 rfl rfl ?_
      refine go_aload_n (k := 0) d_Mo_keepsTold_45 rfl rfl ?_
      refine go_aload_n (k := 0) d_Mo_keepsTold_46 rfl rfl ?_
      refine go_getr (ci := 10) (k := 9) (r := 6) d_Mo_keepsTold_47 a_M_0 rfl (by decide) f_Mo_25 rfl ?_
      refine go_iload_n (k := 1) d_Mo_keepsTold_50 rfl rfl ?_
      obtain ⟨hi, v9, ev9, h⟩ := flod_e h
      refine go_iald2 d_Mo_keepsTold_51 a_M_6 hi ev9 ?_
      obtain ⟨⟨r11, I10⟩, w1, h⟩ := fbd_e h
      try dsimp only at h
      refine go_callV (y := yMo_keeps) (asr := [.inl v9]) (v := some (.inl r11)) (I' := I10) (st1 := [.inl r11, .inl x1, .inr (some 6)]) d_Mo_keepsTold_52 s_yMo_keeps m_Mo_496 a_M_0 rfl rfl rfl (Nat.le_of_ble_eq_true rfl) rfl rfl (c_Mo_keeps l (d0 + 0) v9 I8 w1) ?_
      obtain ⟨hi, I12, eI12, h⟩ := fsto_e h
      refine go_iast (I' := I12) d_Mo_keepsTold_55 a_M_6 hi eI12 ?_
      refine go_aload_n (k := 0) d_Mo_keepsTold_56 rfl rfl ?_
      refine go_getr (ci := 10) (k := 40) (r := 21) d_Mo_keepsTold_57 a_M_0 rfl (by decide) f_Mo_74 rfl ?_
      refine go_iload_n (k := 1) d_Mo_keepsTold_60 rfl rfl ?_
      refine go_aload_n (k := 0) d_Mo_keepsTold_61 rfl rfl ?_
      refine go_aload_n (k := 0) d_Mo_keepsTold_62 rfl rfl ?_
      refine go_getr (ci := 10) (k := 40) (r := 21) d_Mo_keepsTold_63 a_M_0 rfl (by decide) f_Mo_74 rfl ?_
      refine go_iload_n (k := 1) d_Mo_keepsTold_66 rfl rfl ?_
      obtain ⟨hi, v13, ev13, h⟩ := flod_e h
      refine go_iald2 d_Mo_keepsTold_67 a_M_21 hi ev13 ?_
      obtain ⟨⟨r15, I14⟩, w1, h⟩ := fbd_e h
      try dsimp only at h
      refine go_callV (y := yMo_keeps) (asr := [.inl v13]) (v := some (.inl r15)) (I' := I14) (st1 := [.inl r15, .inl x1, .inr (some 21)]) d_Mo_keepsTold_68 s_yMo_keeps m_Mo_496 a_M_0 rfl rfl rfl (Nat.le_of_ble_eq_true rfl) rfl rfl (c_Mo_keeps l (d0 + 0) v13 I12 w1) ?_
      obtain ⟨hi, I16, eI16, h⟩ := fsto_e h
      refine go_iast (I' := I16) d_Mo_keepsTold_71 a_M_21 hi eI16 ?_
      refine go_iinc (k := 1) (v := x1 + 1) (lv' := [(1, .inl (x1 + 1)), (0, .inr (some 0))]) d_Mo_keepsTold_72 rfl rfl (by decide) rfl ?_
      refine go_goto (tgt := 2) d_Mo_keepsTold_75 (by decide) ?_
      exact go_lv [1, 0] rfl (ih (x1 + 1) I16 h hX)
def L_Mo_keepsTold_80 : Nat → Int32 → gb_Mem → Option (gb_Mem)
  | 0, _, _ => none
  | n + 1, x1, I =>
    if 8 ≤ x1 then
      some I
    else
      flod I 7 8 x1 fun v18 =>
      fbd (F_Mo_keeps v18 I) fun (r20, I19) =>
      fsto I19 7 8 x1 r20 fun I21 =>
      flod I21 19 16 x1 fun v22 =>
      fbd (F_Mo_keeps v22 I21) fun (r24, I23) =>
      fsto I23 19 16 x1 r24 fun I25 =>
      flod I25 30 8 x1 fun v26 =>
      fbd (F_Mo_keeps v26 I25) fun (r28, I27) =>
      fsto I27 30 8 x1 r28 fun I29 =>
      flod I29 31 8 x1 fun v30 =>
      fbd (F_Mo_keeps v30 I29) fun (r32, I31) =>
      fsto I31 31 8 x1 r32 fun I33 =>
      flod I33 34 8 x1 fun v34 =>
      fbd (F_Mo_keeps v34 I33) fun (r36, I35) =>
      fsto I35 34 8 x1 r36 fun I37 =>
      flod I37 37 8 x1 fun v38 =>
      fbd (F_Mo_keeps v38 I37) fun (r40, I39) =>
      fsto I39 37 8 x1 r40 fun I41 =>
      flod I41 38 8 x1 fun v42 =>
      fbd (F_Mo_keeps v42 I41) fun (r44, I43) =>
      fsto I43 38 8 x1 r44 fun I45 =>
      L_Mo_keepsTold_80 n (x1 + 1) I45
set_option maxRecDepth 4000 in
theorem l_Mo_keepsTold_80 (l : Launch) (d0 : Nat) {post : Option gb_AV → List gb_Ce → gb_Mem → Prop} : ∀ (n : Nat) (x1 : Int32) (I : gb_Mem) {ρ : gb_Mem} (h : L_Mo_keepsTold_80 n x1 I = some ρ) (hX : ∀ (I2 : gb_Mem), ρ = I2 → gb_Go l yMo_keepsTold (d0 + 1) 0 0 204 [(0, .inr (some 0))] [] shM I2 post) , gb_Go l yMo_keepsTold (d0 + 1) 0 0 80 [(0, .inr (some 0)), (1, .inl x1)] [] shM I post := by
  intro n
  induction n with
  | zero => intro x1 I ρ h hX; cases h
  | succ n ih =>
    intro x1 I ρ h hX
    rw [L_Mo_keepsTold_80] at h
    refine go_iload_n (k := 1) d_Mo_keepsTold_80 rfl rfl ?_
    refine go_bipush (v := 8) d_Mo_keepsTold_81 (by decide) ?_
    refine go_cmp_ge (tgt := 204) d_Mo_keepsTold_83 (by decide) (fun hc => ?_) (fun hc => ?_)
    · rw [if_pos hc] at h
      exact go_lv [0] rfl (hX _ (Option.some.inj h).symm)
    · rw [if_neg hc] at h
      refine go_aload_n (k := 0) d_Mo_keepsTold_86 rfl rfl ?_
      refine go_getr (ci := 10) (k := 10) (r := 7) d_Mo_keepsTold_87 a_M_0 rfl (by decide) f_Mo_28 rfl ?_
      refine go_iload_n (k := 1) d_Mo_keepsTold_90 rfl rfl ?_
      refine go_aload_n (k := 0) d_Mo_keepsTold_91 rfl rfl ?_
      refine go_aload_n (k := 0) d_Mo_keepsTold_92 rfl rfl ?_
      refine go_getr (ci := 10) (k := 10) (r := 7) d_Mo_keepsTold_93 a_M_0 rfl (by decide) f_Mo_28 rfl ?_
      refine go_iload_n (k := 1) d_Mo_keepsTold_96 rfl rfl ?_
      obtain ⟨hi, v18, ev18, h⟩ := flod_e h
      refine go_iald2 d_Mo_keepsTold_97 a_M_7 hi ev18 ?_
      obtain ⟨⟨r20, I19⟩, w1, h⟩ := fbd_e h
      try dsimp only at h
      refine go_callV (y := yMo_keeps) (asr := [.inl v18]) (v := some (.inl r20)) (I' := I19) (st1 := [.inl r20, .inl x1, .inr (some 7)]) d_Mo_keepsTold_98 s_yMo_keeps m_Mo_496 a_M_0 rfl rfl rfl (Nat.le_of_ble_eq_true rfl) rfl rfl (c_Mo_keeps l (d0 + 0) v18 I w1) ?_
      obtain ⟨hi, I21, eI21, h⟩ := fsto_e h
      refine go_iast (I' := I21) d_Mo_keepsTold_101 a_M_7 hi eI21 ?_
      refine go_aload_n (k := 0) d_Mo_keepsTold_102 rfl rfl ?_
      refine go_getr (ci := 10) (k := 36) (r := 19) d_Mo_keepsTold_103 a_M_0 rfl (by decide) f_Mo_68 rfl ?_
      refine go_iload_n (k := 1) d_Mo_keepsTold_106 rfl rfl ?_
      refine go_aload_n (k := 0) d_Mo_keepsTold_107 rfl rfl ?_
      refine go_aload_n (k := 0) d_Mo_keepsTold_108 rfl rfl ?_
      refine go_getr (ci := 10) (k := 36) (r := 19) d_Mo_keepsTold_109 a_M_0 rfl (by decide) f_Mo_68 rfl ?_
      refine go_iload_n (k := 1) d_Mo_keepsTold_112 rfl rfl ?_
      obtain ⟨hi, v22, ev22, h⟩ := flod_e h
      refine go_iald2 d_Mo_keepsTold_113 a_M_19 hi ev22 ?_
      obtain ⟨⟨r24, I23⟩, w1, h⟩ := fbd_e h
      try dsimp only at h
      refine go_callV (y := yMo_keeps) (asr := [.inl v22]) (v := some (.inl r24)) (I' := I23) (st1 := [.inl r24, .inl x1, .inr (some 19)]) d_Mo_keepsTold_114 s_yMo_keeps m_Mo_496 a_M_0 rfl rfl rfl (Nat.le_of_ble_eq_true rfl) rfl rfl (c_Mo_keeps l (d0 + 0) v22 I21 w1) ?_
      obtain ⟨hi, I25, eI25, h⟩ := fsto_e h
      refine go_iast (I' := I25) d_Mo_keepsTold_117 a_M_19 hi eI25 ?_
      refine go_aload_n (k := 0) d_Mo_keepsTold_118 rfl rfl ?_
      refine go_getr (ci := 10) (k := 51) (r := 30) d_Mo_keepsTold_119 a_M_0 rfl (by decide) f_Mo_101 rfl ?_
      refine go_iload_n (k := 1) d_Mo_keepsTold_122 rfl rfl ?_
      refine go_aload_n (k := 0) d_Mo_keepsTold_123 rfl rfl ?_
      refine go_aload_n (k := 0) d_Mo_keepsTold_124 rfl rfl ?_
      refine go_getr (ci := 10) (k := 51) (r := 30) d_Mo_keepsTold_125 a_M_0 rfl (by decide) f_Mo_101 rfl ?_
      refine go_iload_n (k := 1) d_Mo_keepsTold_128 rfl rfl ?_
      obtain ⟨hi, v26, ev26, h⟩ := flod_e h
      refine go_iald2 d_Mo_keepsTold_129 a_M_30 hi ev26 ?_
      obtain ⟨⟨r28, I27⟩, w1, h⟩ := fbd_e h
      try dsimp only at h
      refine go_callV (y := yMo_keeps) (asr := [.inl v26]) (v := some (.inl r28)) (I' := I27) (st1 := [.inl r28, .inl x1, .inr (some 30)]) d_Mo_keepsTold_130 s_yMo_keeps m_Mo_496 a_M_0 rfl rfl rfl (Nat.le_of_ble_eq_true rfl) rfl rfl (c_Mo_keeps l (d0 + 0) v26 I25 w1) ?_
      obtain ⟨hi, I29, eI29, h⟩ := fsto_e h
      refine go_iast (I' := I29) d_Mo_keepsTold_133 a_M_30 hi eI29 ?_
      refine go_aload_n (k := 0) d_Mo_keepsTold_134 rfl rfl ?_
      refine go_getr (ci := 10) (k := 52) (r := 31) d_Mo_keepsTold_135 a_M_0 rfl (by decide) f_Mo_104 rfl ?_
      refine go_iload_n (k := 1) d_Mo_keepsTold_138 rfl rfl ?_
      refine go_aload_n (k := 0) d_Mo_keepsTold_139 rfl rfl ?_
      refine go_aload_n (k := 0) d_Mo_keepsTold_140 rfl rfl ?_
      refine go_getr (ci := 10) (k := 52) (r := 31) d_Mo_keepsTold_141 a_M_0 rfl (by decide) f_Mo_104 rfl ?_
      refine go_iload_n (k := 1) d_Mo_keepsTold_144 rfl rfl ?_
      obtain ⟨hi, v30, ev30, h⟩ := flod_e h
      refine go_iald2 d_Mo_keepsTold_145 a_M_31 hi ev30 ?_
      obtain ⟨⟨r32, I31⟩, w1, h⟩ := fbd_e h
      try dsimp only at h
      refine go_callV (y := yMo_keeps) (asr := [.inl v30]) (v := some (.inl r32)) (I' := I31) (st1 := [.inl r32, .inl x1, .inr (some 31)]) d_Mo_keepsTold_146 s_yMo_keeps m_Mo_496 a_M_0 rfl rfl rfl (Nat.le_of_ble_eq_true rfl) rfl rfl (c_Mo_keeps l (d0 + 0) v30 I29 w1) ?_
      obtain ⟨hi, I33, eI33, h⟩ := fsto_e h
      refine go_iast (I' := I33) d_Mo_keepsTold_149 a_M_31 hi eI33 ?_
      refine go_aload_n (k := 0) d_Mo_keepsTold_150 rfl rfl ?_
      refine go_getr (ci := 10) (k := 57) (r := 34) d_Mo_keepsTold_151 a_M_0 rfl (by decide) f_Mo_113 rfl ?_
      refine go_iload_n (k := 1) d_Mo_keepsTold_154 rfl rfl ?_
      refine go_aload_n (k := 0) d_Mo_keepsTold_155 rfl rfl ?_
      refine go_aload_n (k := 0) d_Mo_keepsTold_156 rfl rfl ?_
      refine go_getr (ci := 10) (k := 57) (r := 34) d_Mo_keepsTold_157 a_M_0 rfl (by decide) f_Mo_113 rfl ?_
      refine go_iload_n (k := 1) d_Mo_keepsTold_160 rfl rfl ?_
      obtain ⟨hi, v34, ev34, h⟩ := flod_e h
      refine go_iald2 d_Mo_keepsTold_161 a_M_34 hi ev34 ?_
      obtain ⟨⟨r36, I35⟩, w1, h⟩ := fbd_e h
      try dsimp only at h
      refine go_callV (y := yMo_keeps) (asr := [.inl v34]) (v := some (.inl r36)) (I' := I35) (st1 := [.inl r36, .inl x1, .inr (some 34)]) d_Mo_keepsTold_162 s_yMo_keeps m_Mo_496 a_M_0 rfl rfl rfl (Nat.le_of_ble_eq_true rfl) rfl rfl (c_Mo_keeps l (d0 + 0) v34 I33 w1) ?_
      obtain ⟨hi, I37, eI37, h⟩ := fsto_e h
      refine go_iast (I' := I37) d_Mo_keepsTold_165 a_M_34 hi eI37 ?_
      refine go_aload_n (k := 0) d_Mo_keepsTold_166 rfl rfl ?_
      refine go_getr (ci := 10) (k := 62) (r := 37) d_Mo_keepsTold_167 a_M_0 rfl (by decide) f_Mo_122 rfl ?_
      refine go_iload_n (k := 1) d_Mo_keepsTold_170 rfl rfl ?_
      refine go_aload_n (k := 0) d_Mo_keepsTold_171 rfl rfl ?_
      refine go_aload_n (k := 0) d_Mo_keepsTold_172 rfl rfl ?_
      refine go_getr (ci := 10) (k := 62) (r := 37) d_Mo_keepsTold_173 a_M_0 rfl (by decide) f_Mo_122 rfl ?_
      refine go_iload_n (k := 1) d_Mo_keepsTold_176 rfl rfl ?_
      obtain ⟨hi, v38, ev38, h⟩ := flod_e h
      refine go_iald2 d_Mo_keepsTold_177 a_M_37 hi ev38 ?_
      obtain ⟨⟨r40, I39⟩, w1, h⟩ := fbd_e h
      try dsimp only at h
      refine go_callV (y := yMo_keeps) (asr := [.inl v38]) (v := some (.inl r40)) (I' := I39) (st1 := [.inl r40, .inl x1, .inr (some 37)]) d_Mo_keepsTold_178 s_yMo_keeps m_Mo_496 a_M_0 rfl rfl rfl (Nat.le_of_ble_eq_true rfl) rfl rfl (c_Mo_keeps l (d0 + 0) v38 I37 w1) ?_
      obtain ⟨hi, I41, eI41, h⟩ := fsto_e h
      refine go_iast (I' := I41) d_Mo_keepsTold_181 a_M_37 hi eI41 ?_
      refine go_aload_n (k := 0) d_Mo_keepsTold_182 rfl rfl ?_
      refine go_getr (ci := 10) (k := 63) (r := 38) d_Mo_keepsTold_183 a_M_0 rfl (by decide) f_Mo_125 rfl ?_
      refine go_iload_n (k := 1) d_Mo_keepsTold_186 rfl rfl ?_
      refine go_aload_n (k := 0) d_Mo_keepsTold_187 rfl rfl ?_
      refine go_aload_n (k := 0) d_Mo_keepsTold_188 rfl rfl ?_
      refine go_getr (ci := 10) (k := 63) (r := 38) d_Mo_keepsTold_189 a_M_0 rfl (by decide) f_Mo_125 rfl ?_
      refine go_iload_n (k := 1) d_Mo_keepsTold_192 rfl rfl ?_
      obtain ⟨hi, v42, ev42, h⟩ := flod_e h
      refine go_iald2 d_Mo_keepsTold_193 a_M_38 hi ev42 ?_
      obtain ⟨⟨r44, I43⟩, w1, h⟩ := fbd_e h
      try dsimp only at h
      refine go_callV (y := yMo_keeps) (asr := [.inl v42]) (v := some (.inl r44)) (I' := I43) (st1 := [.inl r44, .inl x1, .inr (some 38)]) d_Mo_keepsTold_194 s_yMo_keeps m_Mo_496 a_M_0 rfl rfl rfl (Nat.le_of_ble_eq_true rfl) rfl rfl (c_Mo_keeps l (d0 + 0) v42 I41 w1) ?_
      obtain ⟨hi, I45, eI45, h⟩ := fsto_e h
      refine go_iast (I' := I45) d_Mo_keepsTold_197 a_M_38 hi eI45 ?_
      refine go_iinc (k := 1) (v := x1 + 1) (lv' := [(1, .inl (x1 + 1)), (0, .inr (some 0))]) d_Mo_keepsTold_198 rfl rfl (by decide) rfl ?_
      refine go_goto (tgt := 80) d_Mo_keepsTold_201 (by decide) ?_
      exact go_lv [1, 0] rfl (ih (x1 + 1) I45 h hX)
def L_Mo_keepsTold_206 : Nat → Int32 → gb_Mem → Option (gb_Mem)
  | 0, _, _ => none
  | n + 1, x1, I =>
    if 24 ≤ x1 then
      some I
    else
      flod I 27 24 x1 fun v47 =>
      fbd (F_Mo_keeps v47 I) fun (r49, I48) =>
      fsto I48 27 24 x1 r49 fun I50 =>
      L_Mo_keepsTold_206 n (x1 + 1) I50
set_option maxRecDepth 4000 in
theorem l_Mo_keepsTold_206 (l : Launch) (d0 : Nat) {post : Option gb_AV → List gb_Ce → gb_Mem → Prop} : ∀ (n : Nat) (x1 : Int32) (I : gb_Mem) {ρ : gb_Mem} (h : L_Mo_keepsTold_206 n x1 I = some ρ) (hX : ∀ (I2 : gb_Mem), ρ = I2 → gb_Go l yMo_keepsTold (d0 + 1) 0 0 234 [(0, .inr (some 0))] [] shM I2 post) , gb_Go l yMo_keepsTold (d0 + 1) 0 0 206 [(0, .inr (some 0)), (1, .inl x1)] [] shM I post := by
  intro n
  induction n with
  | zero => intro x1 I ρ h hX; cases h
  | succ n ih =>
    intro x1 I ρ h hX
    rw [L_Mo_keepsTold_206] at h
    refine go_iload_n (k := 1) d_Mo_keepsTold_206 rfl rfl ?_
    refine go_bipush (v := 24) d_Mo_keepsTold_207 (by decide) ?_
    refine go_cmp_ge (tgt := 234) d_Mo_keepsTold_209 (by decide) (fun hc => ?_) (fun hc => ?_)
    · rw [if_pos hc] at h
      exact go_lv [0] rfl (hX _ (Option.some.inj h).symm)
    · rw [if_neg hc] at h
      refine go_aload_n (k := 0) d_Mo_keepsTold_212 rfl rfl ?_
      refine go_getr (ci := 10) (k := 47) (r := 27) d_Mo_keepsTold_213 a_M_0 rfl (by decide) f_Mo_92 rfl ?_
      refine go_iload_n (k := 1) d_Mo_keepsTold_216 rfl rfl ?_
      refine go_aload_n (k := 0) d_Mo_keepsTold_217 rfl rfl ?_
      refine go_aload_n (k := 0) d_Mo_keepsTold_218 rfl rfl ?_
      refine go_getr (ci := 10) (k := 47) (r := 27) d_Mo_keepsTold_219 a_M_0 rfl (by decide) f_Mo_92 rfl ?_
      refine go_iload_n (k := 1) d_Mo_keepsTold_222 rfl rfl ?_
      obtain ⟨hi, v47, ev47, h⟩ := flod_e h
      refine go_iald2 d_Mo_keepsTold_223 a_M_27 hi ev47 ?_
      obtain ⟨⟨r49, I48⟩, w1, h⟩ := fbd_e h
      try dsimp only at h
      refine go_callV (y := yMo_keeps) (asr := [.inl v47]) (v := some (.inl r49)) (I' := I48) (st1 := [.inl r49, .inl x1, .inr (some 27)]) d_Mo_keepsTold_224 s_yMo_keeps m_Mo_496 a_M_0 rfl rfl rfl (Nat.le_of_ble_eq_true rfl) rfl rfl (c_Mo_keeps l (d0 + 0) v47 I w1) ?_
      obtain ⟨hi, I50, eI50, h⟩ := fsto_e h
      refine go_iast (I' := I50) d_Mo_keepsTold_227 a_M_27 hi eI50 ?_
      refine go_iinc (k := 1) (v := x1 + 1) (lv' := [(1, .inl (x1 + 1)), (0, .inr (some 0))]) d_Mo_keepsTold_228 rfl rfl (by decide) rfl ?_
      refine go_goto (tgt := 206) d_Mo_keepsTold_231 (by decide) ?_
      exact go_lv [1, 0] rfl (ih (x1 + 1) I50 h hX)
def L_Mo_keepsTold_236 : Nat → Int32 → gb_Mem → Option (gb_Mem)
  | 0, _, _ => none
  | n + 1, x1, I =>
    if 10 ≤ x1 then
      some I
    else
      flod I 32 10 x1 fun v52 =>
      fbd (F_Mo_keeps v52 I) fun (r54, I53) =>
      fsto I53 32 10 x1 r54 fun I55 =>
      L_Mo_keepsTold_236 n (x1 + 1) I55
set_option maxRecDepth 4000 in
theorem l_Mo_keepsTold_236 (l : Launch) (d0 : Nat) {post : Option gb_AV → List gb_Ce → gb_Mem → Prop} : ∀ (n : Nat) (x1 : Int32) (I : gb_Mem) {ρ : gb_Mem} (h : L_Mo_keepsTold_236 n x1 I = some ρ) (hX : ∀ (I2 : gb_Mem), ρ = I2 → gb_Go l yMo_keepsTold (d0 + 1) 0 0 264 [(0, .inr (some 0))] [] shM I2 post) , gb_Go l yMo_keepsTold (d0 + 1) 0 0 236 [(0, .inr (some 0)), (1, .inl x1)] [] shM I post := by
  intro n
  induction n with
  | zero => intro x1 I ρ h hX; cases h
  | succ n ih =>
    intro x1 I ρ h hX
    rw [L_Mo_keepsTold_236] at h
    refine go_iload_n (k := 1) d_Mo_keepsTold_236 rfl rfl ?_
    refine go_bipush (v := 10) d_Mo_keepsTold_237 (by decide) ?_
    refine go_cmp_ge (tgt := 264) d_Mo_keepsTold_239 (by decide) (fun hc => ?_) (fun hc => ?_)
    · rw [if_pos hc] at h
      exact go_lv [0] rfl (hX _ (Option.some.inj h).symm)
    · rw [if_neg hc] at h
      refine go_aload_n (k := 0) d_Mo_keepsTold_242 rfl rfl ?_
      refine go_getr (ci := 10) (k := 54) (r := 32) d_Mo_keepsTold_243 a_M_0 rfl (by decide) f_Mo_107 rfl ?_
      refine go_iload_n (k := 1) d_Mo_keepsTold_246 rfl rfl ?_
      refine go_aload_n (k := 0) d_Mo_keepsTold_247 rfl rfl ?_
      refine go_aload_n (k := 0) d_Mo_keepsTold_248 rfl rfl ?_
      refine go_getr (ci := 10) (k := 54) (r := 32) d_Mo_keepsTold_249 a_M_0 rfl (by decide) f_Mo_107 rfl ?_
      refine go_iload_n (k := 1) d_Mo_keepsTold_252 rfl rfl ?_
      obtain ⟨hi, v52, ev52, h⟩ := flod_e h
      refine go_iald2 d_Mo_keepsTold_253 a_M_32 hi ev52 ?_
      obtain ⟨⟨r54, I53⟩, w1, h⟩ := fbd_e h
      try dsimp only at h
      refine go_callV (y := yMo_keeps) (asr := [.inl v52]) (v := some (.inl r54)) (I' := I53) (st1 := [.inl r54, .inl x1, .inr (some 32)]) d_Mo_keepsTold_254 s_yMo_keeps m_Mo_496 a_M_0 rfl rfl rfl (Nat.le_of_ble_eq_true rfl) rfl rfl (c_Mo_keeps l (d0 + 0) v52 I w1) ?_
      obtain ⟨hi, I55, eI55, h⟩ := fsto_e h
      refine go_iast (I' := I55) d_Mo_keepsTold_257 a_M_32 hi eI55 ?_
      refine go_iinc (k := 1) (v := x1 + 1) (lv' := [(1, .inl (x1 + 1)), (0, .inr (some 0))]) d_Mo_keepsTold_258 rfl rfl (by decide) rfl ?_
      refine go_goto (tgt := 236) d_Mo_keepsTold_261 (by decide) ?_
      exact go_lv [1, 0] rfl (ih (x1 + 1) I55 h hX)
def L_Mo_keepsTold_266 : Nat → Int32 → gb_Mem → Option (gb_Mem)
  | 0, _, _ => none
  | n + 1, x1, I =>
    if 9 ≤ x1 then
      some I
    else
      flod I 35 9 x1 fun v57 =>
      fbd (F_Mo_keeps v57 I) fun (r59, I58) =>
      fsto I58 35 9 x1 r59 fun I60 =>
      flod I60 36 9 x1 fun v61 =>
      fbd (F_Mo_keeps v61 I60) fun (r63, I62) =>
      fsto I62 36 9 x1 r63 fun I64 =>
      flod I64 39 9 x1 fun v65 =>
      fbd (F_Mo_keeps v65 I64) fun (r67, I66) =>
      fsto I66 39 9 x1 r67 fun I68 =>
      flod I68 40 9 x1 fun v69 =>
      fbd (F_Mo_keeps v69 I68) fun (r71, I70) =>
      fsto I70 40 9 x1 r71 fun I72 =>
      L_Mo_keepsTold_266 n (x1 + 1) I72
set_option maxRecDepth 4000 in
theorem l_Mo_keepsTold_266 (l : Launch) (d0 : Nat) {post : Option gb_AV → List gb_Ce → gb_Mem → Prop} : ∀ (n : Nat) (x1 : Int32) (I : gb_Mem) {ρ : gb_Mem} (h : L_Mo_keepsTold_266 n x1 I = some ρ) (hX : ∀ (I2 : gb_Mem), ρ = I2 → gb_Go l yMo_keepsTold (d0 + 1) 0 0 342 [(0, .inr (some 0))] [] shM I2 post) , gb_Go l yMo_keepsTold (d0 + 1) 0 0 266 [(0, .inr (some 0)), (1, .inl x1)] [] shM I post := by
  intro n
  induction n with
  | zero => intro x1 I ρ h hX; cases h
  | succ n ih =>
    intro x1 I ρ h hX
    rw [L_Mo_keepsTold_266] at h
    refine go_iload_n (k := 1) d_Mo_keepsTold_266 rfl rfl ?_
    refine go_bipush (v := 9) d_Mo_keepsTold_267 (by decide) ?_
    refine go_cmp_ge (tgt := 342) d_Mo_keepsTold_269 (by decide) (fun hc => ?_) (fun hc => ?_)
    · rw [if_pos hc] at h
      exact go_lv [0] rfl (hX _ (Option.some.inj h).symm)
    · rw [if_neg hc] at h
      refine go_aload_n (k := 0) d_Mo_keepsTold_272 rfl rfl ?_
      refine go_getr (ci := 10) (k := 59) (r := 35) d_Mo_keepsTold_273 a_M_0 rfl (by decide) f_Mo_116 rfl ?_
      refine go_iload_n (k := 1) d_Mo_keepsTold_276 rfl rfl ?_
      refine go_aload_n (k := 0) d_Mo_keepsTold_277 rfl rfl ?_
      refine go_aload_n (k := 0) d_Mo_keepsTold_278 rfl rfl ?_
      refine go_getr (ci := 10) (k := 59) (r := 35) d_Mo_keepsTold_279 a_M_0 rfl (by decide) f_Mo_116 rfl ?_
      refine go_iload_n (k := 1) d_Mo_keepsTold_282 rfl rfl ?_
      obtain ⟨hi, v57, ev57, h⟩ := flod_e h
      refine go_iald2 d_Mo_keepsTold_283 a_M_35 hi ev57 ?_
      obtain ⟨⟨r59, I58⟩, w1, h⟩ := fbd_e h
      try dsimp only at h
      refine go_callV (y := yMo_keeps) (asr := [.inl v57]) (v := some (.inl r59)) (I' := I58) (st1 := [.inl r59, .inl x1, .inr (some 35)]) d_Mo_keepsTold_284 s_yMo_keeps m_Mo_496 a_M_0 rfl rfl rfl (Nat.le_of_ble_eq_true rfl) rfl rfl (c_Mo_keeps l (d0 + 0) v57 I w1) ?_
      obtain ⟨hi, I60, eI60, h⟩ := fsto_e h
      refine go_iast (I' := I60) d_Mo_keepsTold_287 a_M_35 hi eI60 ?_
      refine go_aload_n (k := 0) d_Mo_keepsTold_288 rfl rfl ?_
      refine go_getr (ci := 10) (k := 60) (r := 36) d_Mo_keepsTold_289 a_M_0 rfl (by decide) f_Mo_119 rfl ?_
      refine go_iload_n (k := 1) d_Mo_keepsTold_292 rfl rfl ?_
      refine go_aload_n (k := 0) d_Mo_keepsTold_293 rfl rfl ?_
      refine go_aload_n (k := 0) d_Mo_keepsTold_294 rfl rfl ?_
      refine go_getr (ci := 10) (k := 60) (r := 36) d_Mo_keepsTold_295 a_M_0 rfl (by decide) f_Mo_119 rfl ?_
      refine go_iload_n (k := 1) d_Mo_keepsTold_298 rfl rfl ?_
      obtain ⟨hi, v61, ev61, h⟩ := flod_e h
      refine go_iald2 d_Mo_keepsTold_299 a_M_36 hi ev61 ?_
      obtain ⟨⟨r63, I62⟩, w1, h⟩ := fbd_e h
      try dsimp only at h
      refine go_callV (y := yMo_keeps) (asr := [.inl v61]) (v := some (.inl r63)) (I' := I62) (st1 := [.inl r63, .inl x1, .inr (some 36)]) d_Mo_keepsTold_300 s_yMo_keeps m_Mo_496 a_M_0 rfl rfl rfl (Nat.le_of_ble_eq_true rfl) rfl rfl (c_Mo_keeps l (d0 + 0) v61 I60 w1) ?_
      obtain ⟨hi, I64, eI64, h⟩ := fsto_e h
      refine go_iast (I' := I64) d_Mo_keepsTold_303 a_M_36 hi eI64 ?_
      refine go_aload_n (k := 0) d_Mo_keepsTold_304 rfl rfl ?_
      refine go_getr (ci := 10) (k := 65) (r := 39) d_Mo_keepsTold_305 a_M_0 rfl (by decide) f_Mo_128 rfl ?_
      refine go_iload_n (k := 1) d_Mo_keepsTold_308 rfl rfl ?_
      refine go_aload_n (k := 0) d_Mo_keepsTold_309 rfl rfl ?_
      refine go_aload_n (k := 0) d_Mo_keepsTold_310 rfl rfl ?_
      refine go_getr (ci := 10) (k := 65) (r := 39) d_Mo_keepsTold_311 a_M_0 rfl (by decide) f_Mo_128 rfl ?_
      refine go_iload_n (k := 1) d_Mo_keepsTold_314 rfl rfl ?_
      obtain ⟨hi, v65, ev65, h⟩ := flod_e h
      refine go_iald2 d_Mo_keepsTold_315 a_M_39 hi ev65 ?_
      obtain ⟨⟨r67, I66⟩, w1, h⟩ := fbd_e h
      try dsimp only at h
      refine go_callV (y := yMo_keeps) (asr := [.inl v65]) (v := some (.inl r67)) (I' := I66) (st1 := [.inl r67, .inl x1, .inr (some 39)]) d_Mo_keepsTold_316 s_yMo_keeps m_Mo_496 a_M_0 rfl rfl rfl (Nat.le_of_ble_eq_true rfl) rfl rfl (c_Mo_keeps l (d0 + 0) v65 I64 w1) ?_
      obtain ⟨hi, I68, eI68, h⟩ := fsto_e h
      refine go_iast (I' := I68) d_Mo_keepsTold_319 a_M_39 hi eI68 ?_
      refine go_aload_n (k := 0) d_Mo_keepsTold_320 rfl rfl ?_
      refine go_getr (ci := 10) (k := 66) (r := 40) d_Mo_keepsTold_321 a_M_0 rfl (by decide) f_Mo_131 rfl ?_
      refine go_iload_n (k := 1) d_Mo_keepsTold_324 rfl rfl ?_
      refine go_aload_n (k := 0) d_Mo_keepsTold_325 rfl rfl ?_
      refine go_aload_n (k := 0) d_Mo_keepsTold_326 rfl rfl ?_
      refine go_getr (ci := 10) (k := 66) (r := 40) d_Mo_keepsTold_327 a_M_0 rfl (by decide) f_Mo_131 rfl ?_
      refine go_iload_n (k := 1) d_Mo_keepsTold_330 rfl rfl ?_
      obtain ⟨hi, v69, ev69, h⟩ := flod_e h
      refine go_iald2 d_Mo_keepsTold_331 a_M_40 hi ev69 ?_
      obtain ⟨⟨r71, I70⟩, w1, h⟩ := fbd_e h
      try dsimp only at h
      refine go_callV (y := yMo_keeps) (asr := [.inl v69]) (v := some (.inl r71)) (I' := I70) (st1 := [.inl r71, .inl x1, .inr (some 40)]) d_Mo_keepsTold_332 s_yMo_keeps m_Mo_496 a_M_0 rfl rfl rfl (Nat.le_of_ble_eq_true rfl) rfl rfl (c_Mo_keeps l (d0 + 0) v69 I68 w1) ?_
      obtain ⟨hi, I72, eI72, h⟩ := fsto_e h
      refine go_iast (I' := I72) d_Mo_keepsTold_335 a_M_40 hi eI72 ?_
      refine go_iinc (k := 1) (v := x1 + 1) (lv' := [(1, .inl (x1 + 1)), (0, .inr (some 0))]) d_Mo_keepsTold_336 rfl rfl (by decide) rfl ?_
      refine go_goto (tgt := 266) d_Mo_keepsTold_339 (by decide) ?_
      exact go_lv [1, 0] rfl (ih (x1 + 1) I72 h hX)
def L_Mo_keepsTold_344 : Nat → Int32 → gb_Mem → Option (gb_Mem)
  | 0, _, _ => none
  | n + 1, x1, I =>
    if 64 ≤ x1 then
      some I
    else
      flod I 20 128 x1 fun v74 =>
      fbd (F_Mo_keeps v74 I) fun (r76, I75) =>
      fsto I75 20 128 x1 r76 fun I77 =>
      L_Mo_keepsTold_344 n (x1 + 1) I77
set_option maxRecDepth 4000 in
theorem l_Mo_keepsTold_344 (l : Launch) (d0 : Nat) {post : Option gb_AV → List gb_Ce → gb_Mem → Prop} : ∀ (n : Nat) (x1 : Int32) (I : gb_Mem) {ρ : gb_Mem} (h : L_Mo_keepsTold_344 n x1 I = some ρ) (hX : ∀ (I2 : gb_Mem), ρ = I2 → gb_Go l yMo_keepsTold (d0 + 1) 0 0 372 [] [] shM I2 post) , gb_Go l yMo_keepsTold (d0 + 1) 0 0 344 [(0, .inr (some 0)), (1, .inl x1)] [] shM I post := by
  intro n
  induction n with
  | zero => intro x1 I ρ h hX; cases h
  | succ n ih =>
    intro x1 I ρ h hX
    rw [L_Mo_keepsTold_344] at h
    refine go_iload_n (k := 1) d_Mo_keepsTold_344 rfl rfl ?_
    refine go_bipush (v := 64) d_Mo_keepsTold_345 (by decide) ?_
    refine go_cmp_ge (tgt := 372) d_Mo_keepsTold_347 (by decide) (fun hc => ?_) (fun hc => ?_)
    · rw [if_pos hc] at h
      exact go_lv [] rfl (hX _ (Option.some.inj h).symm)
    · rw [if_neg hc] at h
      refine go_aload_n (k := 0) d_Mo_keepsTold_350 rfl rfl ?_
      refine go_getr (ci := 10) (k := 38) (r := 20) d_Mo_keepsTold_351 a_M_0 rfl (by decide) f_Mo_71 rfl ?_
      refine go_iload_n (k := 1) d_Mo_keepsTold_354 rfl rfl ?_
      refine go_aload_n (k := 0) d_Mo_keepsTold_355 rfl rfl ?_
      refine go_aload_n (k := 0) d_Mo_keepsTold_356 rfl rfl ?_
      refine go_getr (ci := 10) (k := 38) (r := 20) d_Mo_keepsTold_357 a_M_0 rfl (by decide) f_Mo_71 rfl ?_
      refine go_iload_n (k := 1) d_Mo_keepsTold_360 rfl rfl ?_
      obtain ⟨hi, v74, ev74, h⟩ := flod_e h
      refine go_iald2 d_Mo_keepsTold_361 a_M_20 hi ev74 ?_
      obtain ⟨⟨r76, I75⟩, w1, h⟩ := fbd_e h
      try dsimp only at h
      refine go_callV (y := yMo_keeps) (asr := [.inl v74]) (v := some (.inl r76)) (I' := I75) (st1 := [.inl r76, .inl x1, .inr (some 20)]) d_Mo_keepsTold_362 s_yMo_keeps m_Mo_496 a_M_0 rfl rfl rfl (Nat.le_of_ble_eq_true rfl) rfl rfl (c_Mo_keeps l (d0 + 0) v74 I w1) ?_
      obtain ⟨hi, I77, eI77, h⟩ := fsto_e h
      refine go_iast (I' := I77) d_Mo_keepsTold_365 a_M_20 hi eI77 ?_
      refine go_iinc (k := 1) (v := x1 + 1) (lv' := [(1, .inl (x1 + 1)), (0, .inr (some 0))]) d_Mo_keepsTold_366 rfl rfl (by decide) rfl ?_
      refine go_goto (tgt := 344) d_Mo_keepsTold_369 (by decide) ?_
      exact go_lv [1, 0] rfl (ih (x1 + 1) I77 h hX)
def F_Mo_keepsTold (I : gb_Mem) : Option (gb_Mem) :=
  fbd (L_Mo_keepsTold_2 5000 0 I) fun I17 =>
  fbd (L_Mo_keepsTold_80 5000 0 I17) fun I46 =>
  fbd (L_Mo_keepsTold_206 5000 0 I46) fun I51 =>
  fbd (L_Mo_keepsTold_236 5000 0 I51) fun I56 =>
  fbd (L_Mo_keepsTold_266 5000 0 I56) fun I73 =>
  fbd (L_Mo_keepsTold_344 5000 0 I73) fun I78 =>
  some I78
set_option maxRecDepth 4000 in
theorem c_Mo_keepsTold (l : Launch) (d0 : Nat) (I : gb_Mem) {Iz : gb_Mem} (h : F_Mo_keepsTold I = some Iz) : gb_Cs l yMo_keepsTold (d0 + 1) [.inr (some 0)] shM I none Iz := by
  refine gb_Ct.of (lv := [(0, .inr (some 0))]) rfl (Nat.le_of_ble_eq_true rfl) rfl ?_
  unfold F_Mo_keepsTold at h
  show gb_Go l yMo_keepsTold (d0 + 1) 0 0 0 [(0, .inr (some 0))] [] shM I (gb_po shM none Iz)
  refine go_iconst (v := 0) d_Mo_keepsTold_0 (by decide) ?_
  refine go_istore_n (lv' := [(1, .inl 0), (0, .inr (some 0))]) d_Mo_keepsTold_1 rfl (by decide) rfl ?_
  refine go_lv [1, 0] (lv' := [(0, .inr (some 0)), (1, .inl 0)]) rfl ?_
  obtain ⟨I17, w1, h⟩ := fbd_e h
  refine l_Mo_keepsTold_2 l d0  5000 0 I w1 (fun I17_ e => ?_)
  cases e
  refine go_iconst (v := 0) d_Mo_keepsTold_78 (by decide) ?_
  refine go_istore_n (lv' := [(1, .inl 0), (0, .inr (some 0))]) d_Mo_keepsTold_79 rfl (by decide) rfl ?_
  refine go_lv [1, 0] (lv' := [(0, .inr (some 0)), (1, .inl 0)]) rfl ?_
  obtain ⟨I46, w1, h⟩ := fbd_e h
  refine l_Mo_keepsTold_80 l d0  5000 0 I17 w1 (fun I46_ e => ?_)
  cases e
  refine go_iconst (v := 0) d_Mo_keepsTold_204 (by decide) ?_
  refine go_istore_n (lv' := [(1, .inl 0), (0, .inr (some 0))]) d_Mo_keepsTold_205 rfl (by decide) rfl ?_
  refine go_lv [1, 0] (lv' := [(0, .inr (some 0)), (1, .inl 0)]) rfl ?_
  obtain ⟨I51, w1, h⟩ := fbd_e h
  refine l_Mo_keepsTold_206 l d0  5000 0 I46 w1 (fun I51_ e => ?_)
  cases e
  refine go_iconst (v := 0) d_Mo_keepsTold_234 (by decide) ?_
  refine go_istore_n (lv' := [(1, .inl 0), (0, .inr (some 0))]) d_Mo_keepsTold_235 rfl (by decide) rfl ?_
  refine go_lv [1, 0] (lv' := [(0, .inr (some 0)), (1, .inl 0)]) rfl ?_
  obtain ⟨I56, w1, h⟩ := fbd_e h
  refine l_Mo_keepsTold_236 l d0  5000 0 I51 w1 (fun I56_ e => ?_)
  cases e
  refine go_iconst (v := 0) d_Mo_keepsTold_264 (by decide) ?_
  refine go_istore_n (lv' := [(1, .inl 0), (0, .inr (some 0))]) d_Mo_keepsTold_265 rfl (by decide) rfl ?_
  refine go_lv [1, 0] (lv' := [(0, .inr (some 0)), (1, .inl 0)]) rfl ?_
  obtain ⟨I73, w1, h⟩ := fbd_e h
  refine l_Mo_keepsTold_266 l d0  5000 0 I56 w1 (fun I73_ e => ?_)
  cases e
  refine go_iconst (v := 0) d_Mo_keepsTold_342 (by decide) ?_
  refine go_istore_n (lv' := [(1, .inl 0), (0, .inr (some 0))]) d_Mo_keepsTold_343 rfl (by decide) rfl ?_
  refine go_lv [1, 0] (lv' := [(0, .inr (some 0)), (1, .inl 0)]) rfl ?_
  obtain ⟨I78, w1, h⟩ := fbd_e h
  refine l_Mo_keepsTold_344 l d0  5000 0 I73 w1 (fun I78_ e => ?_)
  cases e
  cases h
  exact go_return d_Mo_keepsTold_372 rfl gb_po_i
theorem d_Mo_kindOfDeed_0 : decode yMo_kindOfDeed.2.1 0 = .ok (.aload_n 0, 1) := by decide +kernel
theorem d_Mo_kindOfDeed_1 : decode yMo_kindOfDeed.2.1 1 = .ok (.bipush 16, 2) := by decide +kernel
theorem d_Mo_kindOfDeed_3 : decode yMo_kindOfDeed.2.1 3 = .ok (.invokevirtual 247, 3) := by decide +kernel
theorem d_Mo_kindOfDeed_6 : decode yMo_kindOfDeed.2.1 6 = .ok (.ifCond .eq 5, 3) := by decide +kernel
theorem d_Mo_kindOfDeed_9 : decode yMo_kindOfDeed.2.1 9 = .ok (.iconst 0, 1) := by decide +kernel
theorem d_Mo_kindOfDeed_10 : decode yMo_kindOfDeed.2.1 10 = .ok (.ireturn, 1) := by decide +kernel
theorem d_Mo_kindOfDeed_11 : decode yMo_kindOfDeed.2.1 11 = .ok (.aload_n 0, 1) := by decide +kernel
theorem d_Mo_kindOfDeed_12 : decode yMo_kindOfDeed.2.1 12 = .ok (.getfield 187, 3) := by decide +kernel
theorem d_Mo_kindOfDeed_15 : decode yMo_kindOfDeed.2.1 15 = .ok (.iconst 2, 1) := by decide +kernel
theorem d_Mo_kindOfDeed_16 : decode yMo_kindOfDeed.2.1 16 = .ok (.if_icmp .ne 30, 3) := by decide +kernel
theorem d_Mo_kindOfDeed_19 : decode yMo_kindOfDeed.2.1 19 = .ok (.aload_n 0, 1) := by decide +kernel
theorem d_Mo_kindOfDeed_20 : decode yMo_kindOfDeed.2.1 20 = .ok (.aload_n 0, 1) := by decide +kernel
theorem d_Mo_kindOfDeed_21 : decode yMo_kindOfDeed.2.1 21 = .ok (.getfield 190, 3) := by decide +kernel
theorem d_Mo_kindOfDeed_24 : decode yMo_kindOfDeed.2.1 24 = .ok (.bipush 22, 2) := by decide +kernel
theorem d_Mo_kindOfDeed_26 : decode yMo_kindOfDeed.2.1 26 = .ok (.bipush 25, 2) := by decide +kernel
theorem d_Mo_kindOfDeed_28 : decode yMo_kindOfDeed.2.1 28 = .ok (.invokevirtual 157, 3) := by decide +kernel
theorem d_Mo_kindOfDeed_31 : decode yMo_kindOfDeed.2.1 31 = .ok (.ifCond .eq 15, 3) := by decide +kernel
theorem d_Mo_kindOfDeed_34 : decode yMo_kindOfDeed.2.1 34 = .ok (.iconst 1, 1) := by decide +kernel
theorem d_Mo_kindOfDeed_35 : decode yMo_kindOfDeed.2.1 35 = .ok (.aload_n 0, 1) := by decide +kernel
theorem d_Mo_kindOfDeed_36 : decode yMo_kindOfDeed.2.1 36 = .ok (.getfield 190, 3) := by decide +kernel
theorem d_Mo_kindOfDeed_39 : decode yMo_kindOfDeed.2.1 39 = .ok (.iadd, 1) := by decide +kernel
theorem d_Mo_kindOfDeed_40 : decode yMo_kindOfDeed.2.1 40 = .ok (.bipush 22, 2) := by decide +kernel
theorem d_Mo_kindOfDeed_42 : decode yMo_kindOfDeed.2.1 42 = .ok (.isub, 1) := by decide +kernel
theorem d_Mo_kindOfDeed_43 : decode yMo_kindOfDeed.2.1 43 = .ok (.goto 4, 3) := by decide +kernel
theorem d_Mo_kindOfDeed_46 : decode yMo_kindOfDeed.2.1 46 = .ok (.iconst (-1), 1) := by decide +kernel
theorem d_Mo_kindOfDeed_47 : decode yMo_kindOfDeed.2.1 47 = .ok (.ireturn, 1) := by decide +kernel
def F_Mo_kindOfDeed (I : gb_Mem) : Int32 :=
  if (F_Mo_isWord 16 I) = 0 then
    if (I 0 16) = 2 then
      if (F_Mo_isIn (I 0 17) 22 25 I) = 0 then
        (-1)
      else
        (1 + (I 0 17)) - 22
    else
      (-1)
  else
    0
set_option maxRecDepth 4000 in
theorem c_Mo_kindOfDeed (l : Launch) (d0 : Nat) (I : gb_Mem)  : gb_Cs l yMo_kindOfDeed (d0 + 1) [.inr (some 0)] shM I (some (.inl (F_Mo_kindOfDeed I))) I := by
  refine gb_Ct.of (lv := [(0, .inr (some 0))]) rfl (Nat.le_of_ble_eq_true rfl) rfl ?_
  generalize h : F_Mo_kindOfDeed I = rz
  unfold F_Mo_kindOfDeed at h
  show gb_Go l yMo_kindOfDeed (d0 + 1) 0 0 0 [(0, .inr (some 0))] [] shM I (gb_po shM (some (.inl rz)) I)
  refine go_aload_n (k := 0) d_Mo_kindOfDeed_0 rfl rfl ?_
  refine go_bipush (v := 16) d_Mo_kindOfDeed_1 (by decide) ?_
  refine go_callV (y := yMo_isWord) (asr := [.inl 16]) (v := some (.inl (F_Mo_isWord 16 I))) (I' := I) (st1 := [.inl (F_Mo_isWord 16 I)]) d_Mo_kindOfDeed_3 s_yMo_isWord m_Mo_247 a_M_0 rfl rfl rfl (Nat.le_of_ble_eq_true rfl) rfl rfl (c_Mo_isWord l (d0 + 0) 16 I) ?_
  refine go_if_eq (tgt := 11) d_Mo_kindOfDeed_6 (by decide) (fun hc => ?_) (fun hc => ?_)
  · rw [if_pos hc] at h
    refine go_aload_n (k := 0) d_Mo_kindOfDeed_11 rfl rfl ?_
    refine go_geti (ci := 10) (k := 16) d_Mo_kindOfDeed_12 a_M_0 rfl (by decide) f_Mo_187 rfl ?_
    refine go_iconst (v := 2) d_Mo_kindOfDeed_15 (by decide) ?_
    refine go_cmp_ne (tgt := 46) d_Mo_kindOfDeed_16 (by decide) (fun hc => ?_) (fun hc => ?_)
    · rw [if_neg hc] at h
      refine go_iconst (v := (-1)) d_Mo_kindOfDeed_46 (by decide) ?_
      subst h
      exact go_ireturn d_Mo_kindOfDeed_47 rfl gb_po_i
    · rw [if_pos hc] at h
      refine go_aload_n (k := 0) d_Mo_kindOfDeed_19 rfl rfl ?_
      refine go_aload_n (k := 0) d_Mo_kindOfDeed_20 rfl rfl ?_
      refine go_geti (ci := 10) (k := 17) d_Mo_kindOfDeed_21 a_M_0 rfl (by decide) f_Mo_190 rfl ?_
      refine go_bipush (v := 22) d_Mo_kindOfDeed_24 (by decide) ?_
      refine go_bipush (v := 25) d_Mo_kindOfDeed_26 (by decide) ?_
      refine go_callV (y := yMo_isIn) (asr := [.inl (I 0 17), .inl 22, .inl 25]) (v := some (.inl (F_Mo_isIn (I 0 17) 22 25 I))) (I' := I) (st1 := [.inl (F_Mo_isIn (I 0 17) 22 25 I)]) d_Mo_kindOfDeed_28 s_yMo_isIn m_Mo_157 a_M_0 rfl rfl rfl (Nat.le_of_ble_eq_true rfl) rfl rfl (c_Mo_isIn l (d0 + 0) (I 0 17) 22 25 I) ?_
      refine go_if_eq (tgt := 46) d_Mo_kindOfDeed_31 (by decide) (fun hc => ?_) (fun hc => ?_)
      · rw [if_pos hc] at h
        refine go_iconst (v := (-1)) d_Mo_kindOfDeed_46 (by decide) ?_
        subst h
        exact go_ireturn d_Mo_kindOfDeed_47 rfl gb_po_i
      · rw [if_neg hc] at h
        refine go_iconst (v := 1) d_Mo_kindOfDeed_34 (by decide) ?_
        refine go_aload_n (k := 0) d_Mo_kindOfDeed_35 rfl rfl ?_
        refine go_geti (ci := 10) (k := 17) d_Mo_kindOfDeed_36 a_M_0 rfl (by decide) f_Mo_190 rfl ?_
        refine go_iadd d_Mo_kindOfDeed_39 ?_
        refine go_bipush (v := 22) d_Mo_kindOfDeed_40 (by decide) ?_
        refine go_isub d_Mo_kindOfDeed_42 ?_
        refine go_goto (tgt := 47) d_Mo_kindOfDeed_43 (by decide) ?_
        subst h
        exact go_ireturn d_Mo_kindOfDeed_47 rfl gb_po_i
  · rw [if_neg hc] at h
    refine go_iconst (v := 0) d_Mo_kindOfDeed_9 (by decide) ?_
    subst h
    exact go_ireturn d_Mo_kindOfDeed_10 rfl gb_po_i
theorem d_Mo_letter_0 : decode yMo_letter.2.1 0 = .ok (.aload_n 0, 1) := by decide +kernel
theorem d_Mo_letter_1 : decode yMo_letter.2.1 1 = .ok (.iconst 0, 1) := by decide +kernel
theorem d_Mo_letter_2 : decode yMo_letter.2.1 2 = .ok (.putfield 137, 3) := by decide +kernel
theorem d_Mo_letter_5 : decode yMo_letter.2.1 5 = .ok (.aload_n 0, 1) := by decide +kernel
theorem d_Mo_letter_6 : decode yMo_letter.2.1 6 = .ok (.iload_n 1, 1) := by decide +kernel
theorem d_Mo_letter_7 : decode yMo_letter.2.1 7 = .ok (.iconst 0, 1) := by decide +kernel
theorem d_Mo_letter_8 : decode yMo_letter.2.1 8 = .ok (.iconst 1, 1) := by decide +kernel
theorem d_Mo_letter_9 : decode yMo_letter.2.1 9 = .ok (.invokevirtual 157, 3) := by decide +kernel
theorem d_Mo_letter_12 : decode yMo_letter.2.1 12 = .ok (.ifCond .ne 5, 3) := by decide +kernel
theorem d_Mo_letter_15 : decode yMo_letter.2.1 15 = .ok (.iconst (-1), 1) := by decide +kernel
theorem d_Mo_letter_16 : decode yMo_letter.2.1 16 = .ok (.ireturn, 1) := by decide +kernel
theorem d_Mo_letter_17 : decode yMo_letter.2.1 17 = .ok (.iload_n 2, 1) := by decide +kernel
theorem d_Mo_letter_18 : decode yMo_letter.2.1 18 = .ok (.iconst (-1), 1) := by decide +kernel
theorem d_Mo_letter_19 : decode yMo_letter.2.1 19 = .ok (.if_icmp .ne 12, 3) := by decide +kernel
theorem d_Mo_letter_22 : decode yMo_letter.2.1 22 = .ok (.aload_n 0, 1) := by decide +kernel
theorem d_Mo_letter_23 : decode yMo_letter.2.1 23 = .ok (.getfield 89, 3) := by decide +kernel
theorem d_Mo_letter_26 : decode yMo_letter.2.1 26 = .ok (.iload_n 1, 1) := by decide +kernel
theorem d_Mo_letter_27 : decode yMo_letter.2.1 27 = .ok (.iconst 0, 1) := by decide +kernel
theorem d_Mo_letter_28 : decode yMo_letter.2.1 28 = .ok (.iastore, 1) := by decide +kernel
theorem d_Mo_letter_29 : decode yMo_letter.2.1 29 = .ok (.iconst 0, 1) := by decide +kernel
theorem d_Mo_letter_30 : decode yMo_letter.2.1 30 = .ok (.ireturn, 1) := by decide +kernel
theorem d_Mo_letter_31 : decode yMo_letter.2.1 31 = .ok (.aload_n 0, 1) := by decide +kernel
theorem d_Mo_letter_32 : decode yMo_letter.2.1 32 = .ok (.iload_n 2, 1) := by decide +kernel
theorem d_Mo_letter_33 : decode yMo_letter.2.1 33 = .ok (.iconst 0, 1) := by decide +kernel
theorem d_Mo_letter_34 : decode yMo_letter.2.1 34 = .ok (.bipush 9, 2) := by decide +kernel
theorem d_Mo_letter_36 : decode yMo_letter.2.1 36 = .ok (.invokevirtual 157, 3) := by decide +kernel
theorem d_Mo_letter_39 : decode yMo_letter.2.1 39 = .ok (.ifCond .eq 14, 3) := by decide +kernel
theorem d_Mo_letter_42 : decode yMo_letter.2.1 42 = .ok (.aload_n 0, 1) := by decide +kernel
theorem d_Mo_letter_43 : decode yMo_letter.2.1 43 = .ok (.getfield 89, 3) := by decide +kernel
theorem d_Mo_letter_46 : decode yMo_letter.2.1 46 = .ok (.iload_n 1, 1) := by decide +kernel
theorem d_Mo_letter_47 : decode yMo_letter.2.1 47 = .ok (.iaload, 1) := by decide +kernel
theorem d_Mo_letter_48 : decode yMo_letter.2.1 48 = .ok (.bipush 12, 2) := by decide +kernel
theorem d_Mo_letter_50 : decode yMo_letter.2.1 50 = .ok (.if_icmp .ne 5, 3) := by decide +kernel
theorem d_Mo_letter_53 : decode yMo_letter.2.1 53 = .ok (.iconst (-1), 1) := by decide +kernel
theorem d_Mo_letter_54 : decode yMo_letter.2.1 54 = .ok (.ireturn, 1) := by decide +kernel
theorem d_Mo_letter_55 : decode yMo_letter.2.1 55 = .ok (.aload_n 0, 1) := by decide +kernel
theorem d_Mo_letter_56 : decode yMo_letter.2.1 56 = .ok (.getfield 92, 3) := by decide +kernel
theorem d_Mo_letter_59 : decode yMo_letter.2.1 59 = .ok (.bipush 12, 2) := by decide +kernel
theorem d_Mo_letter_61 : decode yMo_letter.2.1 61 = .ok (.iload_n 1, 1) := by decide +kernel
theorem d_Mo_letter_62 : decode yMo_letter.2.1 62 = .ok (.imul, 1) := by decide +kernel
theorem d_Mo_letter_63 : decode yMo_letter.2.1 63 = .ok (.aload_n 0, 1) := by decide +kernel
theorem d_Mo_letter_64 : decode yMo_letter.2.1 64 = .ok (.getfield 89, 3) := by decide +kernel
theorem d_Mo_letter_67 : decode yMo_letter.2.1 67 = .ok (.iload_n 1, 1) := by decide +kernel
theorem d_Mo_letter_68 : decode yMo_letter.2.1 68 = .ok (.iaload, 1) := by decide +kernel
theorem d_Mo_letter_69 : decode yMo_letter.2.1 69 = .ok (.iadd, 1) := by decide +kernel
theorem d_Mo_letter_70 : decode yMo_letter.2.1 70 = .ok (.iload_n 2, 1) := by decide +kernel
theorem d_Mo_letter_71 : decode yMo_letter.2.1 71 = .ok (.iastore, 1) := by decide +kernel
theorem d_Mo_letter_72 : decode yMo_letter.2.1 72 = .ok (.aload_n 0, 1) := by decide +kernel
theorem d_Mo_letter_73 : decode yMo_letter.2.1 73 = .ok (.getfield 89, 3) := by decide +kernel
theorem d_Mo_letter_76 : decode yMo_letter.2.1 76 = .ok (.iload_n 1, 1) := by decide +kernel
theorem d_Mo_letter_77 : decode yMo_letter.2.1 77 = .ok (.aload_n 0, 1) := by decide +kernel
theorem d_Mo_letter_78 : decode yMo_letter.2.1 78 = .ok (.getfield 89, 3) := by decide +kernel
theorem d_Mo_letter_81 : decode yMo_letter.2.1 81 = .ok (.iload_n 1, 1) := by decide +kernel
theorem d_Mo_letter_82 : decode yMo_letter.2.1 82 = .ok (.iaload, 1) := by decide +kernel
theorem d_Mo_letter_83 : decode yMo_letter.2.1 83 = .ok (.iconst 1, 1) := by decide +kernel
theorem d_Mo_letter_84 : decode yMo_letter.2.1 84 = .ok (.iadd, 1) := by decide +kernel
theorem d_Mo_letter_85 : decode yMo_letter.2.1 85 = .ok (.iastore, 1) := by decide +kernel
theorem d_Mo_letter_86 : decode yMo_letter.2.1 86 = .ok (.aload_n 0, 1) := by decide +kernel
theorem d_Mo_letter_87 : decode yMo_letter.2.1 87 = .ok (.getfield 89, 3) := by decide +kernel
theorem d_Mo_letter_90 : decode yMo_letter.2.1 90 = .ok (.iload_n 1, 1) := by decide +kernel
theorem d_Mo_letter_91 : decode yMo_letter.2.1 91 = .ok (.iaload, 1) := by decide +kernel
theorem d_Mo_letter_92 : decode yMo_letter.2.1 92 = .ok (.ireturn, 1) := by decide +kernel
def F_Mo_letter (x1 x2 : Int32) (I : gb_Mem) : Option (Int32 × gb_Mem) :=
  fstf I 0 0 0 fun I1 =>
  if (F_Mo_isIn x1 0 1 I1) = 0 then
    some ((-1), I1)
  else
    if x2 = (-1) then
      fsto I1 26 2 x1 0 fun I8 =>
      some (0, I8)
    else
      if (F_Mo_isIn x2 0 9 I1) = 0 then
        some ((-1), I1)
      else
        flod I1 26 2 x1 fun v2 =>
        if v2 = 12 then
          some ((-1), I1)
        else
          flod I1 26 2 x1 fun v3 =>
          fsto I1 27 24 ((12 * x1) + v3) x2 fun I4 =>
          flod I4 26 2 x1 fun v5 =>
          fsto I4 26 2 x1 (v5 + 1) fun I6 =>
          flod I6 26 2 x1 fun v7 =>
          some (v7, I6)
set_option maxRecDepth 4000 in
theorem c_Mo_letter (l : Launch) (d0 : Nat) (x1 x2 : Int32) (I : gb_Mem) {rz : Int32} {Iz : gb_Mem} (h : F_Mo_letter x1 x2 I = some (rz, Iz)) : gb_Cs l yMo_letter (d0 + 1) [.inr (some 0), .inl x1, .inl x2] shM I (some (.inl rz)) Iz := by
  refine gb_Ct.of (lv := [(0, .inr (some 0)), (1, .inl x1), (2, .inl x2)]) rfl (Nat.le_of_ble_eq_true rfl) rfl ?_
  unfold F_Mo_letter at h
  show gb_Go l yMo_letter (d0 + 1) 0 0 0 [(0, .inr (some 0)), (1, .inl x1), (2, .inl x2)] [] shM I (gb_po shM (some (.inl rz)) Iz)
  refine go_aload_n (k := 0) d_Mo_letter_0 rfl rfl ?_
  refine go_iconst (v := 0) d_Mo_letter_1 (by decide) ?_
  obtain ⟨I1, eI1, h⟩ := fstf_e h
  refine go_putT (ci := 10) (k := 0) (I' := I1) d_Mo_letter_2 a_M_0 rfl (by decide) f_Mo_137 rfl rfl rfl rfl rfl eI1 ?_
  refine go_aload_n (k := 0) d_Mo_letter_5 rfl rfl ?_
  refine go_iload_n (k := 1) d_Mo_letter_6 rfl rfl ?_
  refine go_iconst (v := 0) d_Mo_letter_7 (by decide) ?_
  refine go_iconst (v := 1) d_Mo_letter_8 (by decide) ?_
  refine go_callV (y := yMo_isIn) (asr := [.inl x1, .inl 0, .inl 1]) (v := some (.inl (F_Mo_isIn x1 0 1 I1))) (I' := I1) (st1 := [.inl (F_Mo_isIn x1 0 1 I1)]) d_Mo_letter_9 s_yMo_isIn m_Mo_157 a_M_0 rfl rfl rfl (Nat.le_of_ble_eq_true rfl) rfl rfl (c_Mo_isIn l (d0 + 0) x1 0 1 I1) ?_
  refine go_if_ne (tgt := 17) d_Mo_letter_12 (by decide) (fun hc => ?_) (fun hc => ?_)
  · rw [if_neg hc] at h
    refine go_iload_n (k := 2) d_Mo_letter_17 rfl rfl ?_
    refine go_iconst (v := (-1)) d_Mo_letter_18 (by decide) ?_
    refine go_cmp_ne (tgt := 31) d_Mo_letter_19 (by decide) (fun hc => ?_) (fun hc => ?_)
    · rw [if_neg hc] at h
      refine go_aload_n (k := 0) d_Mo_letter_31 rfl rfl ?_
      refine go_iload_n (k := 2) d_Mo_letter_32 rfl rfl ?_
      refine go_iconst (v := 0) d_Mo_letter_33 (by decide) ?_
      refine go_bipush (v := 9) d_Mo_letter_34 (by decide) ?_
      refine go_callV (y := yMo_isIn) (asr := [.inl x2, .inl 0, .inl 9]) (v := some (.inl (F_Mo_isIn x2 0 9 I1))) (I' := I1) (st1 := [.inl (F_Mo_isIn x2 0 9 I1)]) d_Mo_letter_36 s_yMo_isIn m_Mo_157 a_M_0 rfl rfl rfl (Nat.le_of_ble_eq_true rfl) rfl rfl (c_Mo_isIn l (d0 + 0) x2 0 9 I1) ?_
      refine go_if_eq (tgt := 53) d_Mo_letter_39 (by decide) (fun hc => ?_) (fun hc => ?_)
      · rw [if_pos hc] at h
        refine go_iconst (v := (-1)) d_Mo_letter_53 (by decide) ?_
        cases h
        exact go_ireturn d_Mo_letter_54 rfl gb_po_i
      · rw [if_neg hc] at h
        refine go_aload_n (k := 0) d_Mo_letter_42 rfl rfl ?_
        refine go_getr (ci := 10) (k := 46) (r := 26) d_Mo_letter_43 a_M_0 rfl (by decide) f_Mo_89 rfl ?_
        refine go_iload_n (k := 1) d_Mo_letter_46 rfl rfl ?_
        obtain ⟨hi, v2, ev2, h⟩ := flod_e h
        refine go_iald2 d_Mo_letter_47 a_M_26 hi ev2 ?_
        refine go_bipush (v := 12) d_Mo_letter_48 (by decide) ?_
        refine go_cmp_ne (tgt := 55) d_Mo_letter_50 (by decide) (fun hc => ?_) (fun hc => ?_)
        · rw [if_neg hc] at h
          refine go_aload_n (k := 0) d_Mo_letter_55 rfl rfl ?_
          refine go_getr (ci := 10) (k := 47) (r := 27) d_Mo_letter_56 a_M_0 rfl (by decide) f_Mo_92 rfl ?_
          refine go_bipush (v := 12) d_Mo_letter_59 (by decide) ?_
          refine go_iload_n (k := 1) d_Mo_letter_61 rfl rfl ?_
          refine go_imul d_Mo_letter_62 ?_
          refine go_aload_n (k := 0) d_Mo_letter_63 rfl rfl ?_
          refine go_getr (ci := 10) (k := 46) (r := 26) d_Mo_letter_64 a_M_0 rfl (by decide) f_Mo_89 rfl ?_
          refine go_iload_n (k := 1) d_Mo_letter_67 rfl rfl ?_
          obtain ⟨hi, v3, ev3, h⟩ := flod_e h
          refine go_iald2 d_Mo_letter_68 a_M_26 hi ev3 ?_
          refine go_iadd d_Mo_letter_69 ?_
          refine go_iload_n (k := 2) d_Mo_letter_70 rfl rfl ?_
          obtain ⟨hi, I4, eI4, h⟩ := fsto_e h
          refine go_iast (I' := I4) d_Mo_letter_71 a_M_27 hi eI4 ?_
          refine go_aload_n (k := 0) d_Mo_letter_72 rfl rfl ?_
          refine go_getr (ci := 10) (k := 46) (r := 26) d_Mo_letter_73 a_M_0 rfl (by decide) f_Mo_89 rfl ?_
          refine go_iload_n (k := 1) d_Mo_letter_76 rfl rfl ?_
          refine go_aload_n (k := 0) d_Mo_letter_77 rfl rfl ?_
          refine go_getr (ci := 10) (k := 46) (r := 26) d_Mo_letter_78 a_M_0 rfl (by decide) f_Mo_89 rfl ?_
          refine go_iload_n (k := 1) d_Mo_letter_81 rfl rfl ?_
          obtain ⟨hi, v5, ev5, h⟩ := flod_e h
          refine go_iald2 d_Mo_letter_82 a_M_26 hi ev5 ?_
          refine go_iconst (v := 1) d_Mo_letter_83 (by decide) ?_
          refine go_iadd d_Mo_letter_84 ?_
          obtain ⟨hi, I6, eI6, h⟩ := fsto_e h
          refine go_iast (I' := I6) d_Mo_letter_85 a_M_26 hi eI6 ?_
          refine go_aload_n (k := 0) d_Mo_letter_86 rfl rfl ?_
          refine go_getr (ci := 10) (k := 46) (r := 26) d_Mo_letter_87 a_M_0 rfl (by decide) f_Mo_89 rfl ?_
          refine go_iload_n (k := 1) d_Mo_letter_90 rfl rfl ?_
          obtain ⟨hi, v7, ev7, h⟩ := flod_e h
          refine go_iald2 d_Mo_letter_91 a_M_26 hi ev7 ?_
          cases h
          exact go_ireturn d_Mo_letter_92 rfl gb_po_i
        · rw [if_pos hc] at h
          refine go_iconst (v := (-1)) d_Mo_letter_53 (by decide) ?_
          cases h
          exact go_ireturn d_Mo_letter_54 rfl gb_po_i
    · rw [if_pos hc] at h
      refine go_aload_n (k := 0) d_Mo_letter_22 rfl rfl ?_
      refine go_getr (ci := 10) (k := 46) (r := 26) d_Mo_letter_23 a_M_0 rfl (by decide) f_Mo_89 rfl ?_
      refine go_iload_n (k := 1) d_Mo_letter_26 rfl rfl ?_
      refine go_iconst (v := 0) d_Mo_letter_27 (by decide) ?_
      obtain ⟨hi, I8, eI8, h⟩ := fsto_e h
      refine go_iast (I' := I8) d_Mo_letter_28 a_M_26 hi eI8 ?_
      refine go_iconst (v := 0) d_Mo_letter_29 (by decide) ?_
      cases h
      exact go_ireturn d_Mo_letter_30 rfl gb_po_i
  · rw [if_pos hc] at h
    refine go_iconst (v := (-1)) d_Mo_letter_15 (by decide) ?_
    cases h
    exact go_ireturn d_Mo_letter_16 rfl gb_po_i
theorem d_Mo_litBy_0 : decode yMo_litBy.2.1 0 = .ok (.iconst 0, 1) := by decide +kernel
theorem d_Mo_litBy_1 : decode yMo_litBy.2.1 1 = .ok (.istore_n 3, 1) := by decide +kernel
theorem d_Mo_litBy_2 : decode yMo_litBy.2.1 2 = .ok (.iconst 0, 1) := by decide +kernel
theorem d_Mo_litBy_3 : decode yMo_litBy.2.1 3 = .ok (.istore 4, 2) := by decide +kernel
theorem d_Mo_litBy_5 : decode yMo_litBy.2.1 5 = .ok (.iload 4, 2) := by decide +kernel
theorem d_Mo_litBy_7 : decode yMo_litBy.2.1 7 = .ok (.bipush 12, 2) := by decide +kernel
theorem d_Mo_litBy_9 : decode yMo_litBy.2.1 9 = .ok (.if_icmp .ge 54, 3) := by decide +kernel
theorem d_Mo_litBy_12 : decode yMo_litBy.2.1 12 = .ok (.iconst 0, 1) := by decide +kernel
theorem d_Mo_litBy_13 : decode yMo_litBy.2.1 13 = .ok (.istore 5, 2) := by decide +kernel
theorem d_Mo_litBy_15 : decode yMo_litBy.2.1 15 = .ok (.iload 5, 2) := by decide +kernel
theorem d_Mo_litBy_17 : decode yMo_litBy.2.1 17 = .ok (.bipush 12, 2) := by decide +kernel
theorem d_Mo_litBy_19 : decode yMo_litBy.2.1 19 = .ok (.if_icmp .ge 38, 3) := by decide +kernel
theorem d_Mo_litBy_22 : decode yMo_litBy.2.1 22 = .ok (.aload_n 0, 1) := by decide +kernel
theorem d_Mo_litBy_23 : decode yMo_litBy.2.1 23 = .ok (.iload_n 1, 1) := by decide +kernel
theorem d_Mo_litBy_24 : decode yMo_litBy.2.1 24 = .ok (.iload 4, 2) := by decide +kernel
theorem d_Mo_litBy_26 : decode yMo_litBy.2.1 26 = .ok (.invokevirtual 391, 3) := by decide +kernel
theorem d_Mo_litBy_29 : decode yMo_litBy.2.1 29 = .ok (.ifCond .eq 22, 3) := by decide +kernel
theorem d_Mo_litBy_32 : decode yMo_litBy.2.1 32 = .ok (.aload_n 0, 1) := by decide +kernel
theorem d_Mo_litBy_33 : decode yMo_litBy.2.1 33 = .ok (.iload 4, 2) := by decide +kernel
theorem d_Mo_litBy_35 : decode yMo_litBy.2.1 35 = .ok (.iload 5, 2) := by decide +kernel
theorem d_Mo_litBy_37 : decode yMo_litBy.2.1 37 = .ok (.invokevirtual 432, 3) := by decide +kernel
theorem d_Mo_litBy_40 : decode yMo_litBy.2.1 40 = .ok (.iload_n 2, 1) := by decide +kernel
theorem d_Mo_litBy_41 : decode yMo_litBy.2.1 41 = .ok (.if_icmp .gt 10, 3) := by decide +kernel
theorem d_Mo_litBy_44 : decode yMo_litBy.2.1 44 = .ok (.iload_n 3, 1) := by decide +kernel
theorem d_Mo_litBy_45 : decode yMo_litBy.2.1 45 = .ok (.iconst 1, 1) := by decide +kernel
theorem d_Mo_litBy_46 : decode yMo_litBy.2.1 46 = .ok (.iload 5, 2) := by decide +kernel
theorem d_Mo_litBy_48 : decode yMo_litBy.2.1 48 = .ok (.ishl, 1) := by decide +kernel
theorem d_Mo_litBy_49 : decode yMo_litBy.2.1 49 = .ok (.ior, 1) := by decide +kernel
theorem d_Mo_litBy_50 : decode yMo_litBy.2.1 50 = .ok (.istore_n 3, 1) := by decide +kernel
theorem d_Mo_litBy_51 : decode yMo_litBy.2.1 51 = .ok (.iinc 5 1, 3) := by decide +kernel
theorem d_Mo_litBy_54 : decode yMo_litBy.2.1 54 = .ok (.goto (-39), 3) := by decide +kernel
theorem d_Mo_litBy_57 : decode yMo_litBy.2.1 57 = .ok (.iinc 4 1, 3) := by decide +kernel
theorem d_Mo_litBy_60 : decode yMo_litBy.2.1 60 = .ok (.goto (-55), 3) := by decide +kernel
theorem d_Mo_litBy_63 : decode yMo_litBy.2.1 63 = .ok (.iload_n 3, 1) := by decide +kernel
theorem d_Mo_litBy_64 : decode yMo_litBy.2.1 64 = .ok (.ireturn, 1) := by decide +kernel
def J_Mo_litBy_51 (k : Int32 → Int32 → Option (Int32)) (x1 x2 x3 x4 x5 : Int32) (I : gb_Mem) : Option (Int32) :=
  k x3 (x5 + 1)
set_option maxRecDepth 4000 in
theorem j_Mo_litBy_51 (l : Launch) (d0 : Nat) {post : Option gb_AV → List gb_Ce → gb_Mem → Prop} (k : Int32 → Int32 → Option (Int32)) (x1 x2 x3 x4 x5 : Int32) (I : gb_Mem) {ρ : Int32} (h : J_Mo_litBy_51 k x1 x2 x3 x4 x5 I = some ρ) (hk : ∀ (z3 z5 : Int32), k z3 z5 = some ρ → gb_Go l yMo_litBy (d0 + 1) 0 0 15 [(0, .inr (some 0)), (1, .inl x1), (2, .inl x2), (3, .inl z3), (4, .inl x4), (5, .inl z5)] [] shM I post) (hX : ∀ (o3 : Int32), ρ = o3 → gb_Go l yMo_litBy (d0 + 1) 0 0 57 [(0, .inr (some 0)), (1, .inl x1), (2, .inl x2), (3, .inl o3), (4, .inl x4)] [] shM I post) : gb_Go l yMo_litBy (d0 + 1) 0 0 51 [(0, .inr (some 0)), (1, .inl x1), (2, .inl x2), (3, .inl x3), (4, .inl x4), (5, .inl x5)] [] shM I post := by
  unfold J_Mo_litBy_51 at h
  refine go_iinc (k := 5) (v := x5 + 1) (lv' := [(5, .inl (x5 + 1)), (0, .inr (some 0)), (1, .inl x1), (2, .inl x2), (3, .inl x3), (4, .inl x4)]) d_Mo_litBy_51 rfl rfl (by decide) rfl ?_
  refine go_goto (tgt := 15) d_Mo_litBy_54 (by decide) ?_
  exact go_lv [1, 2, 3, 4, 5, 0] rfl (hk _ _ h)
def L_Mo_litBy_15 (x1 x2 x4 : Int32) (I : gb_Mem) : Nat → Int32 → Int32 → Option (Int32)
  | 0, _, _ => none
  | n + 1, x3, x5 =>
    if 12 ≤ x5 then
      some x3
    else
      if (F_Mo_has x1 x4 I) = 0 then
        J_Mo_litBy_51 (L_Mo_litBy_15 x1 x2 x4 I n) x1 x2 x3 x4 x5 I
      else
        if x2 < (F_Mo_apart x4 x5 I) then
          J_Mo_litBy_51 (L_Mo_litBy_15 x1 x2 x4 I n) x1 x2 x3 x4 x5 I
        else
          flt (x3 ||| (1 <<< (x5 &&& 31))) fun y1 =>
          J_Mo_litBy_51 (L_Mo_litBy_15 x1 x2 x4 I n) x1 x2 y1 x4 x5 I
set_option maxRecDepth 4000 in
theorem l_Mo_litBy_15 (l : Launch) (d0 : Nat) (x1 x2 x4 : Int32) (I : gb_Mem) {post : Option gb_AV → List gb_Ce → gb_Mem → Prop} : ∀ (n : Nat) (x3 x5 : Int32) {ρ : Int32} (h : L_Mo_litBy_15 x1 x2 x4 I n x3 x5 = some ρ) (hX : ∀ (o3 : Int32), ρ = o3 → gb_Go l yMo_litBy (d0 + 1) 0 0 57 [(0, .inr (some 0)), (1, .inl x1), (2, .inl x2), (3, .inl o3), (4, .inl x4)] [] shM I post) , gb_Go l yMo_litBy (d0 + 1) 0 0 15 [(0, .inr (some 0)), (1, .inl x1), (2, .inl x2), (3, .inl x3), (4, .inl x4), (5, .inl x5)] [] shM I post := by
  intro n
  induction n with
  | zero => intro x3 x5 ρ h hX; cases h
  | succ n ih =>
    intro x3 x5 ρ h hX
    rw [L_Mo_litBy_15] at h
    refine go_iload (k := 5) d_Mo_litBy_15 rfl ?_
    refine go_bipush (v := 12) d_Mo_litBy_17 (by decide) ?_
    refine go_cmp_ge (tgt := 57) d_Mo_litBy_19 (by decide) (fun hc => ?_) (fun hc => ?_)
    · rw [if_pos hc] at h
      exact go_lv [0, 1, 2, 3, 4] rfl (hX _ (Option.some.inj h).symm)
    · rw [if_neg hc] at h
      refine go_aload_n (k := 0) d_Mo_litBy_22 rfl rfl ?_
      refine go_iload_n (k := 1) d_Mo_litBy_23 rfl rfl ?_
      refine go_iload (k := 4) d_Mo_litBy_24 rfl ?_
      refine go_callV (y := yMo_has) (asr := [.inl x1, .inl x4]) (v := some (.inl (F_Mo_has x1 x4 I))) (I' := I) (st1 := [.inl (F_Mo_has x1 x4 I)]) d_Mo_litBy_26 s_yMo_has m_Mo_391 a_M_0 rfl rfl rfl (Nat.le_of_ble_eq_true rfl) rfl rfl (c_Mo_has l (d0 + 0) x1 x4 I) ?_
      refine go_if_eq (tgt := 51) d_Mo_litBy_29 (by decide) (fun hc => ?_) (fun hc => ?_)
      · rw [if_pos hc] at h
        exact go_lv [0, 1, 2, 3, 4, 5] rfl (j_Mo_litBy_51 l d0 (L_Mo_litBy_15 x1 x2 x4 I n) x1 x2 x3 x4 x5 I h (fun z3 z5 hh => ih z3 z5 hh hX) hX)
      · rw [if_neg hc] at h
        refine go_aload_n (k := 0) d_Mo_litBy_32 rfl rfl ?_
        refine go_iload (k := 4) d_Mo_litBy_33 rfl ?_
        refine go_iload (k := 5) d_Mo_litBy_35 rfl ?_
        refine go_callV (y := yMo_apart) (asr := [.inl x4, .inl x5]) (v := some (.inl (F_Mo_apart x4 x5 I))) (I' := I) (st1 := [.inl (F_Mo_apart x4 x5 I)]) d_Mo_litBy_37 s_yMo_apart m_Mo_432 a_M_0 rfl rfl rfl (Nat.le_of_ble_eq_true rfl) rfl rfl (c_Mo_apart l (d0 + 0) x4 x5 I) ?_
        refine go_iload_n (k := 2) d_Mo_litBy_40 rfl rfl ?_
        refine go_cmp_gt (tgt := 51) d_Mo_litBy_41 (by decide) (fun hc => ?_) (fun hc => ?_)
        · rw [if_pos hc] at h
          exact go_lv [0, 1, 2, 3, 4, 5] rfl (j_Mo_litBy_51 l d0 (L_Mo_litBy_15 x1 x2 x4 I n) x1 x2 x3 x4 x5 I h (fun z3 z5 hh => ih z3 z5 hh hX) hX)
        · rw [if_neg hc] at h
          refine go_iload_n (k := 3) d_Mo_litBy_44 rfl rfl ?_
          refine go_iconst (v := 1) d_Mo_litBy_45 (by decide) ?_
          refine go_iload (k := 5) d_Mo_litBy_46 rfl ?_
          refine go_ishl d_Mo_litBy_48 ?_
          refine go_ior d_Mo_litBy_49 ?_
          obtain ⟨y1, ey1, h⟩ := flt_e h
          refine go_top ey1 ?_
          refine go_istore_n (lv' := [(3, .inl y1), (0, .inr (some 0)), (1, .inl x1), (2, .inl x2), (4, .inl x4), (5, .inl x5)]) d_Mo_litBy_50 rfl (by decide) rfl ?_
          exact go_lv [1, 2, 3, 0, 4, 5] rfl (j_Mo_litBy_51 l d0 (L_Mo_litBy_15 x1 x2 x4 I n) x1 x2 y1 x4 x5 I h (fun z3 z5 hh => ih z3 z5 hh hX) hX)
def L_Mo_litBy_5 (x1 x2 : Int32) (I : gb_Mem) : Nat → Int32 → Int32 → Option (Int32)
  | 0, _, _ => none
  | n + 1, x3, x4 =>
    if 12 ≤ x4 then
      some x3
    else
      fbd (L_Mo_litBy_15 x1 x2 x4 I 5000 x3 0) fun o2 =>
      L_Mo_litBy_5 x1 x2 I n o2 (x4 + 1)
set_option maxRecDepth 4000 in
theorem l_Mo_litBy_5 (l : Launch) (d0 : Nat) (x1 x2 : Int32) (I : gb_Mem) {post : Option gb_AV → List gb_Ce → gb_Mem → Prop} : ∀ (n : Nat) (x3 x4 : Int32) {ρ : Int32} (h : L_Mo_litBy_5 x1 x2 I n x3 x4 = some ρ) (hX : ∀ (o3 : Int32), ρ = o3 → gb_Go l yMo_litBy (d0 + 1) 0 0 63 [(3, .inl o3)] [] shM I post) , gb_Go l yMo_litBy (d0 + 1) 0 0 5 [(0, .inr (some 0)), (1, .inl x1), (2, .inl x2), (3, .inl x3), (4, .inl x4)] [] shM I post := by
  intro n
  induction n with
  | zero => intro x3 x4 ρ h hX; cases h
  | succ n ih =>
    intro x3 x4 ρ h hX
    rw [L_Mo_litBy_5] at h
    refine go_iload (k := 4) d_Mo_litBy_5 rfl ?_
    refine go_bipush (v := 12) d_Mo_litBy_7 (by decide) ?_
    refine go_cmp_ge (tgt := 63) d_Mo_litBy_9 (by decide) (fun hc => ?_) (fun hc => ?_)
    · rw [if_pos hc] at h
      exact go_lv [3] rfl (hX _ (Option.some.inj h).symm)
    · rw [if_neg hc] at h
      refine go_iconst (v := 0) d_Mo_litBy_12 (by decide) ?_
      refine go_istore (lv' := [(5, .inl 0), (0, .inr (some 0)), (1, .inl x1), (2, .inl x2), (3, .inl x3), (4, .inl x4)]) d_Mo_litBy_13 (by decide) rfl ?_
      refine go_lv [1, 2, 3, 4, 5, 0] (lv' := [(0, .inr (some 0)), (1, .inl x1), (2, .inl x2), (3, .inl x3), (4, .inl x4), (5, .inl 0)]) rfl ?_
      obtain ⟨o2, w1, h⟩ := fbd_e h
      refine l_Mo_litBy_15 l d0 x1 x2 x4 I 5000 x3 0 w1 (fun o2_ e => ?_)
      cases e
      refine go_iinc (k := 4) (v := x4 + 1) (lv' := [(4, .inl (x4 + 1)), (0, .inr (some 0)), (1, .inl x1), (2, .inl x2), (3, .inl o2)]) d_Mo_litBy_57 rfl rfl (by decide) rfl ?_
      refine go_goto (tgt := 5) d_Mo_litBy_60 (by decide) ?_
      exact go_lv [1, 2, 3, 4, 0] rfl (ih o2 (x4 + 1) h hX)
def F_Mo_litBy (x1 x2 : Int32) (I : gb_Mem) : Option (Int32) :=
  fbd (L_Mo_litBy_5 x1 x2 I 5000 0 0) fun o3 =>
  some o3
set_option maxRecDepth 4000 in
theorem c_Mo_litBy (l : Launch) (d0 : Nat) (x1 x2 : Int32) (I : gb_Mem) {rz : Int32} (h : F_Mo_litBy x1 x2 I = some rz) : gb_Cs l yMo_litBy (d0 + 1) [.inr (some 0), .inl x1, .inl x2] shM I (some (.inl rz)) I := by
  refine gb_Ct.of (lv := [(0, .inr (some 0)), (1, .inl x1), (2, .inl x2)]) rfl (Nat.le_of_ble_eq_true rfl) rfl ?_
  unfold F_Mo_litBy at h
  show gb_Go l yMo_litBy (d0 + 1) 0 0 0 [(0, .inr (some 0)), (1, .inl x1), (2, .inl x2)] [] shM I (gb_po shM (some (.inl rz)) I)
  refine go_iconst (v := 0) d_Mo_litBy_0 (by decide) ?_
  refine go_istore_n (lv' := [(3, .inl 0), (0, .inr (some 0)), (1, .inl x1), (2, .inl x2)]) d_Mo_litBy_1 rfl (by decide) rfl ?_
  refine go_iconst (v := 0) d_Mo_litBy_2 (by decide) ?_
  refine go_istore (lv' := [(4, .inl 0), (3, .inl 0), (0, .inr (some 0)), (1, .inl x1), (2, .inl x2)]) d_Mo_litBy_3 (by decide) rfl ?_
  refine go_lv [2, 3, 4, 1, 0] (lv' := [(0, .inr (some 0)), (1, .inl x1), (2, .inl x2), (3, .inl 0), (4, .inl 0)]) rfl ?_
  obtain ⟨o3, w1, h⟩ := fbd_e h
  refine l_Mo_litBy_5 l d0 x1 x2 I 5000 0 0 w1 (fun o3_ e => ?_)
  cases e
  refine go_iload_n (k := 0) d_Mo_litBy_63 rfl rfl ?_
  cases h
  exact go_ireturn d_Mo_litBy_64 rfl gb_po_i
theorem d_Mo_meets_0 : decode yMo_meets.2.1 0 = .ok (.aload_n 0, 1) := by decide +kernel
theorem d_Mo_meets_1 : decode yMo_meets.2.1 1 = .ok (.iconst 0, 1) := by decide +kernel
theorem d_Mo_meets_2 : decode yMo_meets.2.1 2 = .ok (.putfield 137, 3) := by decide +kernel
theorem d_Mo_meets_5 : decode yMo_meets.2.1 5 = .ok (.aload_n 0, 1) := by decide +kernel
theorem d_Mo_meets_6 : decode yMo_meets.2.1 6 = .ok (.iload_n 1, 1) := by decide +kernel
theorem d_Mo_meets_7 : decode yMo_meets.2.1 7 = .ok (.iconst 0, 1) := by decide +kernel
theorem d_Mo_meets_8 : decode yMo_meets.2.1 8 = .ok (.iconst 1, 1) := by decide +kernel
theorem d_Mo_meets_9 : decode yMo_meets.2.1 9 = .ok (.invokevirtual 157, 3) := by decide +kernel
theorem d_Mo_meets_12 : decode yMo_meets.2.1 12 = .ok (.ifCond .ne 5, 3) := by decide +kernel
theorem d_Mo_meets_15 : decode yMo_meets.2.1 15 = .ok (.iconst (-1), 1) := by decide +kernel
theorem d_Mo_meets_16 : decode yMo_meets.2.1 16 = .ok (.ireturn, 1) := by decide +kernel
theorem d_Mo_meets_17 : decode yMo_meets.2.1 17 = .ok (.iconst 0, 1) := by decide +kernel
theorem d_Mo_meets_18 : decode yMo_meets.2.1 18 = .ok (.istore_n 2, 1) := by decide +kernel
theorem d_Mo_meets_19 : decode yMo_meets.2.1 19 = .ok (.ldc_w 425, 3) := by decide +kernel
theorem d_Mo_meets_22 : decode yMo_meets.2.1 22 = .ok (.istore_n 3, 1) := by decide +kernel
theorem d_Mo_meets_23 : decode yMo_meets.2.1 23 = .ok (.iconst 0, 1) := by decide +kernel
theorem d_Mo_meets_24 : decode yMo_meets.2.1 24 = .ok (.istore 4, 2) := by decide +kernel
theorem d_Mo_meets_26 : decode yMo_meets.2.1 26 = .ok (.iload 4, 2) := by decide +kernel
theorem d_Mo_meets_28 : decode yMo_meets.2.1 28 = .ok (.aload_n 0, 1) := by decide +kernel
theorem d_Mo_meets_29 : decode yMo_meets.2.1 29 = .ok (.getfield 441, 3) := by decide +kernel
theorem d_Mo_meets_32 : decode yMo_meets.2.1 32 = .ok (.if_icmp .ge 93, 3) := by decide +kernel
theorem d_Mo_meets_35 : decode yMo_meets.2.1 35 = .ok (.iconst 0, 1) := by decide +kernel
theorem d_Mo_meets_36 : decode yMo_meets.2.1 36 = .ok (.istore 5, 2) := by decide +kernel
theorem d_Mo_meets_38 : decode yMo_meets.2.1 38 = .ok (.iload 5, 2) := by decide +kernel
theorem d_Mo_meets_40 : decode yMo_meets.2.1 40 = .ok (.aload_n 0, 1) := by decide +kernel
theorem d_Mo_meets_41 : decode yMo_meets.2.1 41 = .ok (.getfield 441, 3) := by decide +kernel
theorem d_Mo_meets_44 : decode yMo_meets.2.1 44 = .ok (.if_icmp .ge 75, 3) := by decide +kernel
theorem d_Mo_meets_47 : decode yMo_meets.2.1 47 = .ok (.aload_n 0, 1) := by decide +kernel
theorem d_Mo_meets_48 : decode yMo_meets.2.1 48 = .ok (.getfield 104, 3) := by decide +kernel
theorem d_Mo_meets_51 : decode yMo_meets.2.1 51 = .ok (.iload 4, 2) := by decide +kernel
theorem d_Mo_meets_53 : decode yMo_meets.2.1 53 = .ok (.iaload, 1) := by decide +kernel
theorem d_Mo_meets_54 : decode yMo_meets.2.1 54 = .ok (.iconst 1, 1) := by decide +kernel
theorem d_Mo_meets_55 : decode yMo_meets.2.1 55 = .ok (.if_icmp .ne 58, 3) := by decide +kernel
theorem d_Mo_meets_58 : decode yMo_meets.2.1 58 = .ok (.aload_n 0, 1) := by decide +kernel
theorem d_Mo_meets_59 : decode yMo_meets.2.1 59 = .ok (.getfield 104, 3) := by decide +kernel
theorem d_Mo_meets_62 : decode yMo_meets.2.1 62 = .ok (.iload 5, 2) := by decide +kernel
theorem d_Mo_meets_64 : decode yMo_meets.2.1 64 = .ok (.iaload, 1) := by decide +kernel
theorem d_Mo_meets_65 : decode yMo_meets.2.1 65 = .ok (.ifCond .ne 48, 3) := by decide +kernel
theorem d_Mo_meets_68 : decode yMo_meets.2.1 68 = .ok (.aload_n 0, 1) := by decide +kernel
theorem d_Mo_meets_69 : decode yMo_meets.2.1 69 = .ok (.getfield 101, 3) := by decide +kernel
theorem d_Mo_meets_72 : decode yMo_meets.2.1 72 = .ok (.iload 4, 2) := by decide +kernel
theorem d_Mo_meets_74 : decode yMo_meets.2.1 74 = .ok (.iaload, 1) := by decide +kernel
theorem d_Mo_meets_75 : decode yMo_meets.2.1 75 = .ok (.aload_n 0, 1) := by decide +kernel
theorem d_Mo_meets_76 : decode yMo_meets.2.1 76 = .ok (.getfield 101, 3) := by decide +kernel
theorem d_Mo_meets_79 : decode yMo_meets.2.1 79 = .ok (.iload 5, 2) := by decide +kernel
theorem d_Mo_meets_81 : decode yMo_meets.2.1 81 = .ok (.iaload, 1) := by decide +kernel
theorem d_Mo_meets_82 : decode yMo_meets.2.1 82 = .ok (.if_icmp .lt 6, 3) := by decide +kernel
theorem d_Mo_meets_85 : decode yMo_meets.2.1 85 = .ok (.goto 28, 3) := by decide +kernel
theorem d_Mo_meets_88 : decode yMo_meets.2.1 88 = .ok (.iload_n 2, 1) := by decide +kernel
theorem d_Mo_meets_89 : decode yMo_meets.2.1 89 = .ok (.iconst 1, 1) := by decide +kernel
theorem d_Mo_meets_90 : decode yMo_meets.2.1 90 = .ok (.iadd, 1) := by decide +kernel
theorem d_Mo_meets_91 : decode yMo_meets.2.1 91 = .ok (.istore_n 2, 1) := by decide +kernel
theorem d_Mo_meets_92 : decode yMo_meets.2.1 92 = .ok (.aload_n 0, 1) := by decide +kernel
theorem d_Mo_meets_93 : decode yMo_meets.2.1 93 = .ok (.iload_n 3, 1) := by decide +kernel
theorem d_Mo_meets_94 : decode yMo_meets.2.1 94 = .ok (.aload_n 0, 1) := by decide +kernel
theorem d_Mo_meets_95 : decode yMo_meets.2.1 95 = .ok (.getfield 101, 3) := by decide +kernel
theorem d_Mo_meets_98 : decode yMo_meets.2.1 98 = .ok (.iload 5, 2) := by decide +kernel
theorem d_Mo_meets_100 : decode yMo_meets.2.1 100 = .ok (.iaload, 1) := by decide +kernel
theorem d_Mo_meets_101 : decode yMo_meets.2.1 101 = .ok (.aload_n 0, 1) := by decide +kernel
theorem d_Mo_meets_102 : decode yMo_meets.2.1 102 = .ok (.getfield 101, 3) := by decide +kernel
theorem d_Mo_meets_105 : decode yMo_meets.2.1 105 = .ok (.iload 4, 2) := by decide +kernel
theorem d_Mo_meets_107 : decode yMo_meets.2.1 107 = .ok (.iaload, 1) := by decide +kernel
theorem d_Mo_meets_108 : decode yMo_meets.2.1 108 = .ok (.isub, 1) := by decide +kernel
theorem d_Mo_meets_109 : decode yMo_meets.2.1 109 = .ok (.invokevirtual 364, 3) := by decide +kernel
theorem d_Mo_meets_112 : decode yMo_meets.2.1 112 = .ok (.istore_n 3, 1) := by decide +kernel
theorem d_Mo_meets_113 : decode yMo_meets.2.1 113 = .ok (.iinc 5 1, 3) := by decide +kernel
theorem d_Mo_meets_116 : decode yMo_meets.2.1 116 = .ok (.goto (-78), 3) := by decide +kernel
theorem d_Mo_meets_119 : decode yMo_meets.2.1 119 = .ok (.iinc 4 1, 3) := by decide +kernel
theorem d_Mo_meets_122 : decode yMo_meets.2.1 122 = .ok (.goto (-96), 3) := by decide +kernel
theorem d_Mo_meets_125 : decode yMo_meets.2.1 125 = .ok (.iload_n 1, 1) := by decide +kernel
theorem d_Mo_meets_126 : decode yMo_meets.2.1 126 = .ok (.ifCond .ne 7, 3) := by decide +kernel
theorem d_Mo_meets_129 : decode yMo_meets.2.1 129 = .ok (.iload_n 2, 1) := by decide +kernel
theorem d_Mo_meets_130 : decode yMo_meets.2.1 130 = .ok (.goto 12, 3) := by decide +kernel
theorem d_Mo_meets_133 : decode yMo_meets.2.1 133 = .ok (.iload_n 2, 1) := by decide +kernel
theorem d_Mo_meets_134 : decode yMo_meets.2.1 134 = .ok (.ifCond .ne 7, 3) := by decide +kernel
theorem d_Mo_meets_137 : decode yMo_meets.2.1 137 = .ok (.iconst (-1), 1) := by decide +kernel
theorem d_Mo_meets_138 : decode yMo_meets.2.1 138 = .ok (.goto 4, 3) := by decide +kernel
theorem d_Mo_meets_141 : decode yMo_meets.2.1 141 = .ok (.iload_n 3, 1) := by decide +kernel
theorem d_Mo_meets_142 : decode yMo_meets.2.1 142 = .ok (.ireturn, 1) := by decide +kernel
def J_Mo_meets_113 (k : Int32 → Int32 → Int32 → Option (Int32 × Int32)) (x1 x2 x3 x4 x5 : Int32) (I : gb_Mem) : Option (Int32 × Int32) :=
  k x2 x3 (x5 + 1)
set_option maxRecDepth 4000 in
theorem j_Mo_meets_113 (l : Launch) (d0 : Nat) {post : Option gb_AV → List gb_Ce → gb_Mem → Prop} (k : Int32 → Int32 → Int32 → Option (Int32 × Int32)) (x1 x2 x3 x4 x5 : Int32) (I : gb_Mem) {ρ : Int32 × Int32} (h : J_Mo_meets_113 k x1 x2 x3 x4 x5 I = some ρ) (hk : ∀ (z2 z3 z5 : Int32), k z2 z3 z5 = some ρ → gb_Go l yMo_meets (d0 + 1) 0 0 38 [(0, .inr (some 0)), (1, .inl x1), (2, .inl z2), (3, .inl z3), (4, .inl x4), (5, .inl z5)] [] shM I post) (hX : ∀ (o2 : Int32) (o3 : Int32), ρ = (o2, o3) → gb_Go l yMo_meets (d0 + 1) 0 0 119 [(0, .inr (some 0)), (1, .inl x1), (2, .inl o2), (3, .inl o3), (4, .inl x4)] [] shM I post) : gb_Go l yMo_meets (d0 + 1) 0 0 113 [(0, .inr (some 0)), (1, .inl x1), (2, .inl x2), (3, .inl x3), (4, .inl x4), (5, .inl x5)] [] shM I post := by
  unfold J_Mo_meets_113 at h
  refine go_iinc (k := 5) (v := x5 + 1) (lv' := [(5, .inl (x5 + 1)), (0, .inr (some 0)), (1, .inl x1), (2, .inl x2), (3, .inl x3), (4, .inl x4)]) d_Mo_meets_113 rfl rfl (by decide) rfl ?_
  refine go_goto (tgt := 38) d_Mo_meets_116 (by decide) ?_
  exact go_lv [1, 2, 3, 4, 5, 0] rfl (hk _ _ _ h)
def L_Mo_meets_38 (x1 x4 : Int32) (I : gb_Mem) : Nat → Int32 → Int32 → Int32 → Option (Int32 × Int32)
  | 0, _, _, _ => none
  | n + 1, x2, x3, x5 =>
    if (I 0 50) ≤ x5 then
      some (x2, x3)
    else
      flod I 31 8 x4 fun v2 =>
      if v2 = 1 then
        flod I 31 8 x5 fun v3 =>
        if v3 = 0 then
          flod I 30 8 x4 fun v4 =>
          flod I 30 8 x5 fun v5 =>
          if v4 < v5 then
            flod I 30 8 x5 fun v6 =>
            flod I 30 8 x4 fun v7 =>
            flt (F_Mo_lesser x3 (v6 - v7) I) fun y8 =>
            J_Mo_meets_113 (L_Mo_meets_38 x1 x4 I n) x1 (x2 + 1) y8 x4 x5 I
          else
            J_Mo_meets_113 (L_Mo_meets_38 x1 x4 I n) x1 x2 x3 x4 x5 I
        else
          J_Mo_meets_113 (L_Mo_meets_38 x1 x4 I n) x1 x2 x3 x4 x5 I
      else
        J_Mo_meets_113 (L_Mo_meets_38 x1 x4 I n) x1 x2 x3 x4 x5 I
set_option maxRecDepth 4000 in
theorem l_Mo_meets_38 (l : Launch) (d0 : Nat) (x1 x4 : Int32) (I : gb_Mem) {post : Option gb_AV → List gb_Ce → gb_Mem → Prop} : ∀ (n : Nat) (x2 x3 x5 : Int32) {ρ : Int32 × Int32} (h : L_Mo_meets_38 x1 x4 I n x2 x3 x5 = some ρ) (hX : ∀ (o2 : Int32) (o3 : Int32), ρ = (o2, o3) → gb_Go l yMo_meets (d0 + 1) 0 0 119 [(0, .inr (some 0)), (1, .inl x1), (2, .inl o2), (3, .inl o3), (4, .inl x4)] [] shM I post) , gb_Go l yMo_meets (d0 + 1) 0 0 38 [(0, .inr (some 0)), (1, .inl x1), (2, .inl x2), (3, .inl x3), (4, .inl x4), (5, .inl x5)] [] shM I post := by
  intro n
  induction n with
  | zero => intro x2 x3 x5 ρ h hX; cases h
  | succ n ih =>
    intro x2 x3 x5 ρ h hX
    rw [L_Mo_meets_38] at h
    refine go_iload (k := 5) d_Mo_meets_38 rfl ?_
    refine go_aload_n (k := 0) d_Mo_meets_40 rfl rfl ?_
    refine go_geti (ci := 10) (k := 50) d_Mo_meets_41 a_M_0 rfl (by decide) f_Mo_441 rfl ?_
    refine go_cmp_ge (tgt := 119) d_Mo_meets_44 (by decide) (fun hc => ?_) (fun hc => ?_)
    · rw [if_pos hc] at h
      exact go_lv [0, 1, 2, 3, 4] rfl (hX _ _ (Option.some.inj h).symm)
    · rw [if_neg hc] at h
      refine go_aload_n (k := 0) d_Mo_meets_47 rfl rfl ?_
      refine go_getr (ci := 10) (k := 52) (r := 31) d_Mo_meets_48 a_M_0 rfl (by decide) f_Mo_104 rfl ?_
      refine go_iload (k := 4) d_Mo_meets_51 rfl ?_
      obtain ⟨hi, v2, ev2, h⟩ := flod_e h
      refine go_iald2 d_Mo_meets_53 a_M_31 hi ev2 ?_
      refine go_iconst (v := 1) d_Mo_meets_54 (by decide) ?_
      refine go_cmp_ne (tgt := 113) d_Mo_meets_55 (by decide) (fun hc => ?_) (fun hc => ?_)
      · rw [if_neg hc] at h
        exact go_lv [0, 1, 2, 3, 4, 5] rfl (j_Mo_meets_113 l d0 (L_Mo_meets_38 x1 x4 I n) x1 x2 x3 x4 x5 I h (fun z2 z3 z5 hh => ih z2 z3 z5 hh hX) hX)
      · rw [if_pos hc] at h
        refine go_aload_n (k := 0) d_Mo_meets_58 rfl rfl ?_
        refine go_getr (ci := 10) (k := 52) (r := 31) d_Mo_meets_59 a_M_0 rfl (by decide) f_Mo_104 rfl ?_
        refine go_iload (k := 5) d_Mo_meets_62 rfl ?_
        obtain ⟨hi, v3, ev3, h⟩ := flod_e h
        refine go_iald2 d_Mo_meets_64 a_M_31 hi ev3 ?_
        refine go_if_ne (tgt := 113) d_Mo_meets_65 (by decide) (fun hc => ?_) (fun hc => ?_)
        · rw [if_neg hc] at h
          exact go_lv [0, 1, 2, 3, 4, 5] rfl (j_Mo_meets_113 l d0 (L_Mo_meets_38 x1 x4 I n) x1 x2 x3 x4 x5 I h (fun z2 z3 z5 hh => ih z2 z3 z5 hh hX) hX)
        · rw [if_pos hc] at h
          refine go_aload_n (k := 0) d_Mo_meets_68 rfl rfl ?_
          refine go_getr (ci := 10) (k := 51) (r := 30) d_Mo_meets_69 a_M_0 rfl (by decide) f_Mo_101 rfl ?_
          refine go_iload (k := 4) d_Mo_meets_72 rfl ?_
          obtain ⟨hi, v4, ev4, h⟩ := flod_e h
          refine go_iald2 d_Mo_meets_74 a_M_30 hi ev4 ?_
          refine go_aload_n (k := 0) d_Mo_meets_75 rfl rfl ?_
          refine go_getr (ci := 10) (k := 51) (r := 30) d_Mo_meets_76 a_M_0 rfl (by decide) f_Mo_101 rfl ?_
          refine go_iload (k := 5) d_Mo_meets_79 rfl ?_
          obtain ⟨hi, v5, ev5, h⟩ := flod_e h
          refine go_iald2 d_Mo_meets_81 a_M_30 hi ev5 ?_
          refine go_cmp_lt (tgt := 88) d_Mo_meets_82 (by decide) (fun hc => ?_) (fun hc => ?_)
          · rw [if_pos hc] at h
            refine go_iload_n (k := 2) d_Mo_meets_88 rfl rfl ?_
            refine go_iconst (v := 1) d_Mo_meets_89 (by decide) ?_
            refine go_iadd d_Mo_meets_90 ?_
            refine go_istore_n (lv' := [(2, .inl (x2 + 1)), (0, .inr (some 0)), (1, .inl x1), (3, .inl x3), (4, .inl x4), (5, .inl x5)]) d_Mo_meets_91 rfl (by decide) rfl ?_
            refine go_aload_n (k := 1) d_Mo_meets_92 rfl rfl ?_
            refine go_iload_n (k := 3) d_Mo_meets_93 rfl rfl ?_
            refine go_aload_n (k := 1) d_Mo_meets_94 rfl rfl ?_
            refine go_getr (ci := 10) (k := 51) (r := 30) d_Mo_meets_95 a_M_0 rfl (by decide) f_Mo_101 rfl ?_
            refine go_iload (k := 5) d_Mo_meets_98 rfl ?_
            obtain ⟨hi, v6, ev6, h⟩ := flod_e h
            refine go_iald2 d_Mo_meets_100 a_M_30 hi ev6 ?_
            refine go_aload_n (k := 1) d_Mo_meets_101 rfl rfl ?_
            refine go_getr (ci := 10) (k := 51) (r := 30) d_Mo_meets_102 a_M_0 rfl (by decide) f_Mo_101 rfl ?_
            refine go_iload (k := 4) d_Mo_meets_105 rfl ?_
            obtain ⟨hi, v7, ev7, h⟩ := flod_e h
            refine go_iald2 d_Mo_meets_107 a_M_30 hi ev7 ?_
            refine go_isub d_Mo_meets_108 ?_
            refine go_callV (y := yMo_lesser) (asr := [.inl x3, .inl (v6 - v7)]) (v := some (.inl (F_Mo_lesser x3 (v6 - v7) I))) (I' := I) (st1 := [.inl (F_Mo_lesser x3 (v6 - v7) I)]) d_Mo_meets_109 s_yMo_lesser m_Mo_364 a_M_0 rfl rfl rfl (Nat.le_of_ble_eq_true rfl) rfl rfl (c_Mo_lesser l (d0 + 0) x3 (v6 - v7) I) ?_
            obtain ⟨y8, ey8, h⟩ := flt_e h
            refine go_top ey8 ?_
            refine go_istore_n (lv' := [(3, .inl y8), (2, .inl (x2 + 1)), (0, .inr (some 0)), (1, .inl x1), (4, .inl x4), (5, .inl x5)]) d_Mo_meets_112 rfl (by decide) rfl ?_
            exact go_lv [2, 3, 1, 0, 4, 5] rfl (j_Mo_meets_113 l d0 (L_Mo_meets_38 x1 x4 I n) x1 (x2 + 1) y8 x4 x5 I h (fun z2 z3 z5 hh => ih z2 z3 z5 hh hX) hX)
          · rw [if_neg hc] at h
            refine go_goto (tgt := 113) d_Mo_meets_85 (by decide) ?_
            exact go_lv [0, 1, 2, 3, 4, 5] rfl (j_Mo_meets_113 l d0 (L_Mo_meets_38 x1 x4 I n) x1 x2 x3 x4 x5 I h (fun z2 z3 z5 hh => ih z2 z3 z5 hh hX) hX)
def L_Mo_meets_26 (x1 : Int32) (I : gb_Mem) : Nat → Int32 → Int32 → Int32 → Option (Int32 × Int32)
  | 0, _, _, _ => none
  | n + 1, x2, x3, x4 =>
    if (I 0 50) ≤ x4 then
      some (x2, x3)
    else
      fbd (L_Mo_meets_38 x1 x4 I 5000 x2 x3 0) fun (o9, o10) =>
      L_Mo_meets_26 x1 I n o9 o10 (x4 + 1)
set_option maxRecDepth 4000 in
theorem l_Mo_meets_26 (l : Launch) (d0 : Nat) (x1 : Int32) (I : gb_Mem) {post : Option gb_AV → List gb_Ce → gb_Mem → Prop} : ∀ (n : Nat) (x2 x3 x4 : Int32) {ρ : Int32 × Int32} (h : L_Mo_meets_26 x1 I n x2 x3 x4 = some ρ) (hX : ∀ (o2 : Int32) (o3 : Int32), ρ = (o2, o3) → gb_Go l yMo_meets (d0 + 1) 0 0 125 [(1, .inl x1), (2, .inl o2), (3, .inl o3)] [] shM I post) , gb_Go l yMo_meets (d0 + 1) 0 0 26 [(0, .inr (some 0)), (1, .inl x1), (2, .inl x2), (3, .inl x3), (4, .inl x4)] [] shM I post := by
  intro n
  induction n with
  | zero => intro x2 x3 x4 ρ h hX; cases h
  | succ n ih =>
    intro x2 x3 x4 ρ h hX
    rw [L_Mo_meets_26] at h
    refine go_iload (k := 4) d_Mo_meets_26 rfl ?_
    refine go_aload_n (k := 0) d_Mo_meets_28 rfl rfl ?_
    refine go_geti (ci := 10) (k := 50) d_Mo_meets_29 a_M_0 rfl (by decide) f_Mo_441 rfl ?_
    refine go_cmp_ge (tgt := 125) d_Mo_meets_32 (by decide) (fun hc => ?_) (fun hc => ?_)
    · rw [if_pos hc] at h
      exact go_lv [1, 2, 3] rfl (hX _ _ (Option.some.inj h).symm)
    · rw [if_neg hc] at h
      refine go_iconst (v := 0) d_Mo_meets_35 (by decide) ?_
      refine go_istore (lv' := [(5, .inl 0), (0, .inr (some 0)), (1, .inl x1), (2, .inl x2), (3, .inl x3), (4, .inl x4)]) d_Mo_meets_36 (by decide) rfl ?_
      refine go_lv [1, 2, 3, 4, 5, 0] (lv' := [(0, .inr (some 0)), (1, .inl x1), (2, .inl x2), (3, .inl x3), (4, .inl x4), (5, .inl 0)]) rfl ?_
      obtain ⟨⟨o9, o10⟩, w1, h⟩ := fbd_e h
      try dsimp only at h
      refine l_Mo_meets_38 l d0 x1 x4 I 5000 x2 x3 0 w1 (fun o9_ o10_ e => ?_)
      cases e
      refine go_iinc (k := 4) (v := x4 + 1) (lv' := [(4, .inl (x4 + 1)), (0, .inr (some 0)), (1, .inl x1), (2, .inl o9), (3, .inl o10)]) d_Mo_meets_119 rfl rfl (by decide) rfl ?_
      refine go_goto (tgt := 26) d_Mo_meets_122 (by decide) ?_
      exact go_lv [1, 2, 3, 4, 0] rfl (ih o9 o10 (x4 + 1) h hX)
def F_Mo_meets (x1 : Int32) (I : gb_Mem) : Option (Int32 × gb_Mem) :=
  fstf I 0 0 0 fun I1 =>
  if (F_Mo_isIn x1 0 1 I1) = 0 then
    some ((-1), I1)
  else
    fbd (L_Mo_meets_26 x1 I1 5000 0 100000000 0) fun (o11, o12) =>
    if x1 = 0 then
      some (o11, I1)
    else
      if o11 = 0 then
        some ((-1), I1)
      else
        some (o12, I1)
set_option maxRecDepth 4000 in
theorem c_Mo_meets (l : Launch) (d0 : Nat) (x1 : Int32) (I : gb_Mem) {rz : Int32} {Iz : gb_Mem} (h : F_Mo_meets x1 I = some (rz, Iz)) : gb_Cs l yMo_meets (d0 + 1) [.inr (some 0), .inl x1] shM I (some (.inl rz)) Iz := by
  refine gb_Ct.of (lv := [(0, .inr (some 0)), (1, .inl x1)]) rfl (Nat.le_of_ble_eq_true rfl) rfl ?_
  unfold F_Mo_meets at h
  show gb_Go l yMo_meets (d0 + 1) 0 0 0 [(0, .inr (some 0)), (1, .inl x1)] [] shM I (gb_po shM (some (.inl rz)) Iz)
  refine go_aload_n (k := 0) d_Mo_meets_0 rfl rfl ?_
  refine go_iconst (v := 0) d_Mo_meets_1 (by decide) ?_
  obtain ⟨I1, eI1, h⟩ := fstf_e h
  refine go_putT (ci := 10) (k := 0) (I' := I1) d_Mo_meets_2 a_M_0 rfl (by decide) f_Mo_137 rfl rfl rfl rfl rfl eI1 ?_
  refine go_aload_n (k := 0) d_Mo_meets_5 rfl rfl ?_
  refine go_iload_n (k := 1) d_Mo_meets_6 rfl rfl ?_
  refine go_iconst (v := 0) d_Mo_meets_7 (by decide) ?_
  refine go_iconst (v := 1) d_Mo_meets_8 (by decide) ?_
  refine go_callV (y := yMo_isIn) (asr := [.inl x1, .inl 0, .inl 1]) (v := some (.inl (F_Mo_isIn x1 0 1 I1))) (I' := I1) (st1 := [.inl (F_Mo_isIn x1 0 1 I1)]) d_Mo_meets_9 s_yMo_isIn m_Mo_157 a_M_0 rfl rfl rfl (Nat.le_of_ble_eq_true rfl) rfl rfl (c_Mo_isIn l (d0 + 0) x1 0 1 I1) ?_
  refine go_if_ne (tgt := 17) d_Mo_meets_12 (by decide) (fun hc => ?_) (fun hc => ?_)
  · rw [if_neg hc] at h
    refine go_iconst (v := 0) d_Mo_meets_17 (by decide) ?_
    refine go_istore_n (lv' := [(2, .inl 0), (0, .inr (some 0)), (1, .inl x1)]) d_Mo_meets_18 rfl (by decide) rfl ?_
    refine go_ldcw (v := 100000000) d_Mo_meets_19 k_Mo_425 ?_
    refine go_istore_n (lv' := [(3, .inl 100000000), (2, .inl 0), (0, .inr (some 0)), (1, .inl x1)]) d_Mo_meets_22 rfl (by decide) rfl ?_
    refine go_iconst (v := 0) d_Mo_meets_23 (by decide) ?_
    refine go_istore (lv' := [(4, .inl 0), (3, .inl 100000000), (2, .inl 0), (0, .inr (some 0)), (1, .inl x1)]) d_Mo_meets_24 (by decide) rfl ?_
    refine go_lv [3, 4, 2, 1, 0] (lv' := [(0, .inr (some 0)), (1, .inl x1), (2, .inl 0), (3, .inl 100000000), (4, .inl 0)]) rfl ?_
    obtain ⟨⟨o11, o12⟩, w1, h⟩ := fbd_e h
    try dsimp only at h
    refine l_Mo_meets_26 l d0 x1 I1 5000 0 100000000 0 w1 (fun o11_ o12_ e => ?_)
    cases e
    refine go_iload_n (k := 0) d_Mo_meets_125 rfl rfl ?_
    refine go_if_ne (tgt := 133) d_Mo_meets_126 (by decide) (fun hc => ?_) (fun hc => ?_)
    · rw [if_neg hc] at h
      refine go_iload_n (k := 1) d_Mo_meets_133 rfl rfl ?_
      refine go_if_ne (tgt := 141) d_Mo_meets_134 (by decide) (fun hc => ?_) (fun hc => ?_)
      · rw [if_neg hc] at h
        refine go_iload_n (k := 2) d_Mo_meets_141 rfl rfl ?_
        cases h
        exact go_ireturn d_Mo_meets_142 rfl gb_po_i
      · rw [if_pos hc] at h
        refine go_iconst (v := (-1)) d_Mo_meets_137 (by decide) ?_
        refine go_goto (tgt := 142) d_Mo_meets_138 (by decide) ?_
        cases h
        exact go_ireturn d_Mo_meets_142 rfl gb_po_i
    · rw [if_pos hc] at h
      refine go_iload_n (k := 1) d_Mo_meets_129 rfl rfl ?_
      refine go_goto (tgt := 142) d_Mo_meets_130 (by decide) ?_
      cases h
      exact go_ireturn d_Mo_meets_142 rfl gb_po_i
  · rw [if_pos hc] at h
    refine go_iconst (v := (-1)) d_Mo_meets_15 (by decide) ?_
    cases h
    exact go_ireturn d_Mo_meets_16 rfl gb_po_i
theorem d_Mo_report_0 : decode yMo_report.2.1 0 = .ok (.aload_n 0, 1) := by decide +kernel
theorem d_Mo_report_1 : decode yMo_report.2.1 1 = .ok (.iconst 0, 1) := by decide +kernel
theorem d_Mo_report_2 : decode yMo_report.2.1 2 = .ok (.putfield 137, 3) := by decide +kernel
theorem d_Mo_report_5 : decode yMo_report.2.1 5 = .ok (.iload_n 1, 1) := by decide +kernel
theorem d_Mo_report_6 : decode yMo_report.2.1 6 = .ok (.iconst (-1), 1) := by decide +kernel
theorem d_Mo_report_7 : decode yMo_report.2.1 7 = .ok (.if_icmp .ne 10, 3) := by decide +kernel
theorem d_Mo_report_10 : decode yMo_report.2.1 10 = .ok (.aload_n 0, 1) := by decide +kernel
theorem d_Mo_report_11 : decode yMo_report.2.1 11 = .ok (.iconst 0, 1) := by decide +kernel
theorem d_Mo_report_12 : decode yMo_report.2.1 12 = .ok (.putfield 471, 3) := by decide +kernel
theorem d_Mo_report_15 : decode yMo_report.2.1 15 = .ok (.iconst 0, 1) := by decide +kernel
theorem d_Mo_report_16 : decode yMo_report.2.1 16 = .ok (.ireturn, 1) := by decide +kernel
theorem d_Mo_report_17 : decode yMo_report.2.1 17 = .ok (.aload_n 0, 1) := by decide +kernel
theorem d_Mo_report_18 : decode yMo_report.2.1 18 = .ok (.iload_n 1, 1) := by decide +kernel
theorem d_Mo_report_19 : decode yMo_report.2.1 19 = .ok (.iconst 0, 1) := by decide +kernel
theorem d_Mo_report_20 : decode yMo_report.2.1 20 = .ok (.iload_n 2, 1) := by decide +kernel
theorem d_Mo_report_21 : decode yMo_report.2.1 21 = .ok (.invokevirtual 157, 3) := by decide +kernel
theorem d_Mo_report_24 : decode yMo_report.2.1 24 = .ok (.ifCond .eq 23, 3) := by decide +kernel
theorem d_Mo_report_27 : decode yMo_report.2.1 27 = .ok (.aload_n 0, 1) := by decide +kernel
theorem d_Mo_report_28 : decode yMo_report.2.1 28 = .ok (.iload_n 2, 1) := by decide +kernel
theorem d_Mo_report_29 : decode yMo_report.2.1 29 = .ok (.iconst 0, 1) := by decide +kernel
theorem d_Mo_report_30 : decode yMo_report.2.1 30 = .ok (.bipush 99, 2) := by decide +kernel
theorem d_Mo_report_32 : decode yMo_report.2.1 32 = .ok (.invokevirtual 157, 3) := by decide +kernel
theorem d_Mo_report_35 : decode yMo_report.2.1 35 = .ok (.ifCond .eq 12, 3) := by decide +kernel
theorem d_Mo_report_38 : decode yMo_report.2.1 38 = .ok (.aload_n 0, 1) := by decide +kernel
theorem d_Mo_report_39 : decode yMo_report.2.1 39 = .ok (.getfield 471, 3) := by decide +kernel
theorem d_Mo_report_42 : decode yMo_report.2.1 42 = .ok (.bipush 8, 2) := by decide +kernel
theorem d_Mo_report_44 : decode yMo_report.2.1 44 = .ok (.if_icmp .ne 5, 3) := by decide +kernel
theorem d_Mo_report_47 : decode yMo_report.2.1 47 = .ok (.iconst (-1), 1) := by decide +kernel
theorem d_Mo_report_48 : decode yMo_report.2.1 48 = .ok (.ireturn, 1) := by decide +kernel
theorem d_Mo_report_49 : decode yMo_report.2.1 49 = .ok (.aload_n 0, 1) := by decide +kernel
theorem d_Mo_report_50 : decode yMo_report.2.1 50 = .ok (.getfield 122, 3) := by decide +kernel
theorem d_Mo_report_53 : decode yMo_report.2.1 53 = .ok (.aload_n 0, 1) := by decide +kernel
theorem d_Mo_report_54 : decode yMo_report.2.1 54 = .ok (.getfield 471, 3) := by decide +kernel
theorem d_Mo_report_57 : decode yMo_report.2.1 57 = .ok (.iload_n 1, 1) := by decide +kernel
theorem d_Mo_report_58 : decode yMo_report.2.1 58 = .ok (.iastore, 1) := by decide +kernel
theorem d_Mo_report_59 : decode yMo_report.2.1 59 = .ok (.aload_n 0, 1) := by decide +kernel
theorem d_Mo_report_60 : decode yMo_report.2.1 60 = .ok (.getfield 125, 3) := by decide +kernel
theorem d_Mo_report_63 : decode yMo_report.2.1 63 = .ok (.aload_n 0, 1) := by decide +kernel
theorem d_Mo_report_64 : decode yMo_report.2.1 64 = .ok (.getfield 471, 3) := by decide +kernel
theorem d_Mo_report_67 : decode yMo_report.2.1 67 = .ok (.iload_n 2, 1) := by decide +kernel
theorem d_Mo_report_68 : decode yMo_report.2.1 68 = .ok (.iastore, 1) := by decide +kernel
theorem d_Mo_report_69 : decode yMo_report.2.1 69 = .ok (.aload_n 0, 1) := by decide +kernel
theorem d_Mo_report_70 : decode yMo_report.2.1 70 = .ok (.aload_n 0, 1) := by decide +kernel
theorem d_Mo_report_71 : decode yMo_report.2.1 71 = .ok (.getfield 471, 3) := by decide +kernel
theorem d_Mo_report_74 : decode yMo_report.2.1 74 = .ok (.iconst 1, 1) := by decide +kernel
theorem d_Mo_report_75 : decode yMo_report.2.1 75 = .ok (.iadd, 1) := by decide +kernel
theorem d_Mo_report_76 : decode yMo_report.2.1 76 = .ok (.putfield 471, 3) := by decide +kernel
theorem d_Mo_report_79 : decode yMo_report.2.1 79 = .ok (.aload_n 0, 1) := by decide +kernel
theorem d_Mo_report_80 : decode yMo_report.2.1 80 = .ok (.getfield 471, 3) := by decide +kernel
theorem d_Mo_report_83 : decode yMo_report.2.1 83 = .ok (.ireturn, 1) := by decide +kernel
def F_Mo_report (x1 x2 : Int32) (I : gb_Mem) : Option (Int32 × gb_Mem) :=
  fstf I 0 0 0 fun I1 =>
  if x1 = (-1) then
    fstf I1 0 61 0 fun I5 =>
    some (0, I5)
  else
    if (F_Mo_isIn x1 0 x2 I1) = 0 then
      some ((-1), I1)
    else
      if (F_Mo_isIn x2 0 99 I1) = 0 then
        some ((-1), I1)
      else
        if (I1 0 61) = 8 then
          some ((-1), I1)
        else
          fsto I1 37 8 (I1 0 61) x1 fun I2 =>
          fsto I2 38 8 (I2 0 61) x2 fun I3 =>
          fstf I3 0 61 ((I3 0 61) + 1) fun I4 =>
          some (I4 0 61, I4)
set_option maxRecDepth 4000 in
theorem c_Mo_report (l : Launch) (d0 : Nat) (x1 x2 : Int32) (I : gb_Mem) {rz : Int32} {Iz : gb_Mem} (h : F_Mo_report x1 x2 I = some (rz, Iz)) : gb_Cs l yMo_report (d0 + 1) [.inr (some 0), .inl x1, .inl x2] shM I (some (.inl rz)) Iz := by
  refine gb_Ct.of (lv := [(0, .inr (some 0)), (1, .inl x1), (2, .inl x2)]) rfl (Nat.le_of_ble_eq_true rfl) rfl ?_
  unfold F_Mo_report at h
  show gb_Go l yMo_report (d0 + 1) 0 0 0 [(0, .inr (some 0)), (1, .inl x1), (2, .inl x2)] [] shM I (gb_po shM (some (.inl rz)) Iz)
  refine go_aload_n (k := 0) d_Mo_report_0 rfl rfl ?_
  refine go_iconst (v := 0) d_Mo_report_1 (by decide) ?_
  obtain ⟨I1, eI1, h⟩ := fstf_e h
  refine go_putT (ci := 10) (k := 0) (I' := I1) d_Mo_report_2 a_M_0 rfl (by decide) f_Mo_137 rfl rfl rfl rfl rfl eI1 ?_
  refine go_iload_n (k := 1) d_Mo_report_5 rfl rfl ?_
  refine go_iconst (v := (-1)) d_Mo_report_6 (by decide) ?_
  refine go_cmp_ne (tgt := 17) d_Mo_report_7 (by decide) (fun hc => ?_) (fun hc => ?_)
  · rw [if_neg hc] at h
    refine go_aload_n (k := 0) d_Mo_report_17 rfl rfl ?_
    refine go_iload_n (k := 1) d_Mo_report_18 rfl rfl ?_
    refine go_iconst (v := 0) d_Mo_report_19 (by decide) ?_
    refine go_iload_n (k := 2) d_Mo_report_20 rfl rfl ?_
    refine go_callV (y := yMo_isIn) (asr := [.inl x1, .inl 0, .inl x2]) (v := some (.inl (F_Mo_isIn x1 0 x2 I1))) (I' := I1) (st1 := [.inl (F_Mo_isIn x1 0 x2 I1)]) d_Mo_report_21 s_yMo_isIn m_Mo_157 a_M_0 rfl rfl rfl (Nat.le_of_ble_eq_true rfl) rfl rfl (c_Mo_isIn l (d0 + 0) x1 0 x2 I1) ?_
    refine go_if_eq (tgt := 47) d_Mo_report_24 (by decide) (fun hc => ?_) (fun hc => ?_)
    · rw [if_pos hc] at h
      refine go_iconst (v := (-1)) d_Mo_report_47 (by decide) ?_
      cases h
      exact go_ireturn d_Mo_report_48 rfl gb_po_i
    · rw [if_neg hc] at h
      refine go_aload_n (k := 0) d_Mo_report_27 rfl rfl ?_
      refine go_iload_n (k := 2) d_Mo_report_28 rfl rfl ?_
      refine go_iconst (v := 0) d_Mo_report_29 (by decide) ?_
      refine go_bipush (v := 99) d_Mo_report_30 (by decide) ?_
      refine go_callV (y := yMo_isIn) (asr := [.inl x2, .inl 0, .inl 99]) (v := some (.inl (F_Mo_isIn x2 0 99 I1))) (I' := I1) (st1 := [.inl (F_Mo_isIn x2 0 99 I1)]) d_Mo_report_32 s_yMo_isIn m_Mo_157 a_M_0 rfl rfl rfl (Nat.le_of_ble_eq_true rfl) rfl rfl (c_Mo_isIn l (d0 + 0) x2 0 99 I1) ?_
      refine go_if_eq (tgt := 47) d_Mo_report_35 (by decide) (fun hc => ?_) (fun hc => ?_)
      · rw [if_pos hc] at h
        refine go_iconst (v := (-1)) d_Mo_report_47 (by decide) ?_
        cases h
        exact go_ireturn d_Mo_report_48 rfl gb_po_i
      · rw [if_neg hc] at h
        refine go_aload_n (k := 0) d_Mo_report_38 rfl rfl ?_
        refine go_geti (ci := 10) (k := 61) d_Mo_report_39 a_M_0 rfl (by decide) f_Mo_471 rfl ?_
        refine go_bipush (v := 8) d_Mo_report_42 (by decide) ?_
        refine go_cmp_ne (tgt := 49) d_Mo_report_44 (by decide) (fun hc => ?_) (fun hc => ?_)
        · rw [if_neg hc] at h
          refine go_aload_n (k := 0) d_Mo_report_49 rfl rfl ?_
          refine go_getr (ci := 10) (k := 62) (r := 37) d_Mo_report_50 a_M_0 rfl (by decide) f_Mo_122 rfl ?_
          refine go_aload_n (k := 0) d_Mo_report_53 rfl rfl ?_
          refine go_geti (ci := 10) (k := 61) d_Mo_report_54 a_M_0 rfl (by decide) f_Mo_471 rfl ?_
          refine go_iload_n (k := 1) d_Mo_report_57 rfl rfl ?_
          obtain ⟨hi, I2, eI2, h⟩ := fsto_e h
          refine go_iast (I' := I2) d_Mo_report_58 a_M_37 hi eI2 ?_
          refine go_aload_n (k := 0) d_Mo_report_59 rfl rfl ?_
          refine go_getr (ci := 10) (k := 63) (r := 38) d_Mo_report_60 a_M_0 rfl (by decide) f_Mo_125 rfl ?_
          refine go_aload_n (k := 0) d_Mo_report_63 rfl rfl ?_
          refine go_geti (ci := 10) (k := 61) d_Mo_report_64 a_M_0 rfl (by decide) f_Mo_471 rfl ?_
          refine go_iload_n (k := 2) d_Mo_report_67 rfl rfl ?_
          obtain ⟨hi, I3, eI3, h⟩ := fsto_e h
          refine go_iast (I' := I3) d_Mo_report_68 a_M_38 hi eI3 ?_
          refine go_aload_n (k := 0) d_Mo_report_69 rfl rfl ?_
          refine go_aload_n (k := 0) d_Mo_report_70 rfl rfl ?_
          refine go_geti (ci := 10) (k := 61) d_Mo_report_71 a_M_0 rfl (by decide) f_Mo_471 rfl ?_
          refine go_iconst (v := 1) d_Mo_report_74 (by decide) ?_
          refine go_iadd d_Mo_report_75 ?_
          obtain ⟨I4, eI4, h⟩ := fstf_e h
          refine go_putT (ci := 10) (k := 61) (I' := I4) d_Mo_report_76 a_M_0 rfl (by decide) f_Mo_471 rfl rfl rfl rfl rfl eI4 ?_
          refine go_aload_n (k := 0) d_Mo_report_79 rfl rfl ?_
          refine go_geti (ci := 10) (k := 61) d_Mo_report_80 a_M_0 rfl (by decide) f_Mo_471 rfl ?_
          cases h
          exact go_ireturn d_Mo_report_83 rfl gb_po_i
        · rw [if_pos hc] at h
          refine go_iconst (v := (-1)) d_Mo_report_47 (by decide) ?_
          cases h
          exact go_ireturn d_Mo_report_48 rfl gb_po_i
  · rw [if_pos hc] at h
    refine go_aload_n (k := 0) d_Mo_report_10 rfl rfl ?_
    refine go_iconst (v := 0) d_Mo_report_11 (by decide) ?_
    obtain ⟨I5, eI5, h⟩ := fstf_e h
    refine go_putT (ci := 10) (k := 61) (I' := I5) d_Mo_report_12 a_M_0 rfl (by decide) f_Mo_471 rfl rfl rfl rfl rfl eI5 ?_
    refine go_iconst (v := 0) d_Mo_report_15 (by decide) ?_
    cases h
    exact go_ireturn d_Mo_report_16 rfl gb_po_i
theorem d_Mo_runs_0 : decode yMo_runs.2.1 0 = .ok (.iconst 0, 1) := by decide +kernel
theorem d_Mo_runs_1 : decode yMo_runs.2.1 1 = .ok (.istore 4, 2) := by decide +kernel
theorem d_Mo_runs_3 : decode yMo_runs.2.1 3 = .ok (.sipush 400, 3) := by decide +kernel
theorem d_Mo_runs_6 : decode yMo_runs.2.1 6 = .ok (.iload_n 1, 1) := by decide +kernel
theorem d_Mo_runs_7 : decode yMo_runs.2.1 7 = .ok (.imul, 1) := by decide +kernel
theorem d_Mo_runs_8 : decode yMo_runs.2.1 8 = .ok (.iload_n 2, 1) := by decide +kernel
theorem d_Mo_runs_9 : decode yMo_runs.2.1 9 = .ok (.iadd, 1) := by decide +kernel
theorem d_Mo_runs_10 : decode yMo_runs.2.1 10 = .ok (.istore 5, 2) := by decide +kernel
theorem d_Mo_runs_12 : decode yMo_runs.2.1 12 = .ok (.iload 5, 2) := by decide +kernel
theorem d_Mo_runs_14 : decode yMo_runs.2.1 14 = .ok (.sipush 400, 3) := by decide +kernel
theorem d_Mo_runs_17 : decode yMo_runs.2.1 17 = .ok (.iload_n 1, 1) := by decide +kernel
theorem d_Mo_runs_18 : decode yMo_runs.2.1 18 = .ok (.imul, 1) := by decide +kernel
theorem d_Mo_runs_19 : decode yMo_runs.2.1 19 = .ok (.iload_n 3, 1) := by decide +kernel
theorem d_Mo_runs_20 : decode yMo_runs.2.1 20 = .ok (.iadd, 1) := by decide +kernel
theorem d_Mo_runs_21 : decode yMo_runs.2.1 21 = .ok (.if_icmp .ge 155, 3) := by decide +kernel
theorem d_Mo_runs_24 : decode yMo_runs.2.1 24 = .ok (.aload_n 0, 1) := by decide +kernel
theorem d_Mo_runs_25 : decode yMo_runs.2.1 25 = .ok (.getfield 55, 3) := by decide +kernel
theorem d_Mo_runs_28 : decode yMo_runs.2.1 28 = .ok (.iload 5, 2) := by decide +kernel
theorem d_Mo_runs_30 : decode yMo_runs.2.1 30 = .ok (.iaload, 1) := by decide +kernel
theorem d_Mo_runs_31 : decode yMo_runs.2.1 31 = .ok (.ifCond .eq 14, 3) := by decide +kernel
theorem d_Mo_runs_34 : decode yMo_runs.2.1 34 = .ok (.aload_n 0, 1) := by decide +kernel
theorem d_Mo_runs_35 : decode yMo_runs.2.1 35 = .ok (.getfield 55, 3) := by decide +kernel
theorem d_Mo_runs_38 : decode yMo_runs.2.1 38 = .ok (.iload 5, 2) := by decide +kernel
theorem d_Mo_runs_40 : decode yMo_runs.2.1 40 = .ok (.iaload, 1) := by decide +kernel
theorem d_Mo_runs_41 : decode yMo_runs.2.1 41 = .ok (.iconst 1, 1) := by decide +kernel
theorem d_Mo_runs_42 : decode yMo_runs.2.1 42 = .ok (.if_icmp .ne 51, 3) := by decide +kernel
theorem d_Mo_runs_45 : decode yMo_runs.2.1 45 = .ok (.aload_n 0, 1) := by decide +kernel
theorem d_Mo_runs_46 : decode yMo_runs.2.1 46 = .ok (.getfield 80, 3) := by decide +kernel
theorem d_Mo_runs_49 : decode yMo_runs.2.1 49 = .ok (.iload 4, 2) := by decide +kernel
theorem d_Mo_runs_51 : decode yMo_runs.2.1 51 = .ok (.aload_n 0, 1) := by decide +kernel
theorem d_Mo_runs_52 : decode yMo_runs.2.1 52 = .ok (.getfield 55, 3) := by decide +kernel
theorem d_Mo_runs_55 : decode yMo_runs.2.1 55 = .ok (.iload 5, 2) := by decide +kernel
theorem d_Mo_runs_57 : decode yMo_runs.2.1 57 = .ok (.iaload, 1) := by decide +kernel
theorem d_Mo_runs_58 : decode yMo_runs.2.1 58 = .ok (.ifCond .ne 13, 3) := by decide +kernel
theorem d_Mo_runs_61 : decode yMo_runs.2.1 61 = .ok (.aload_n 0, 1) := by decide +kernel
theorem d_Mo_runs_62 : decode yMo_runs.2.1 62 = .ok (.getfield 58, 3) := by decide +kernel
theorem d_Mo_runs_65 : decode yMo_runs.2.1 65 = .ok (.iload 5, 2) := by decide +kernel
theorem d_Mo_runs_67 : decode yMo_runs.2.1 67 = .ok (.iaload, 1) := by decide +kernel
theorem d_Mo_runs_68 : decode yMo_runs.2.1 68 = .ok (.goto 15, 3) := by decide +kernel
theorem d_Mo_runs_71 : decode yMo_runs.2.1 71 = .ok (.aload_n 0, 1) := by decide +kernel
theorem d_Mo_runs_72 : decode yMo_runs.2.1 72 = .ok (.getfield 77, 3) := by decide +kernel
theorem d_Mo_runs_75 : decode yMo_runs.2.1 75 = .ok (.aload_n 0, 1) := by decide +kernel
theorem d_Mo_runs_76 : decode yMo_runs.2.1 76 = .ok (.getfield 58, 3) := by decide +kernel
theorem d_Mo_runs_79 : decode yMo_runs.2.1 79 = .ok (.iload 5, 2) := by decide +kernel
theorem d_Mo_runs_81 : decode yMo_runs.2.1 81 = .ok (.iaload, 1) := by decide +kernel
theorem d_Mo_runs_82 : decode yMo_runs.2.1 82 = .ok (.iaload, 1) := by decide +kernel
theorem d_Mo_runs_83 : decode yMo_runs.2.1 83 = .ok (.iastore, 1) := by decide +kernel
theorem d_Mo_runs_84 : decode yMo_runs.2.1 84 = .ok (.iload 4, 2) := by decide +kernel
theorem d_Mo_runs_86 : decode yMo_runs.2.1 86 = .ok (.iconst 1, 1) := by decide +kernel
theorem d_Mo_runs_87 : decode yMo_runs.2.1 87 = .ok (.iadd, 1) := by decide +kernel
theorem d_Mo_runs_88 : decode yMo_runs.2.1 88 = .ok (.istore 4, 2) := by decide +kernel
theorem d_Mo_runs_90 : decode yMo_runs.2.1 90 = .ok (.goto 80, 3) := by decide +kernel
theorem d_Mo_runs_93 : decode yMo_runs.2.1 93 = .ok (.aload_n 0, 1) := by decide +kernel
theorem d_Mo_runs_94 : decode yMo_runs.2.1 94 = .ok (.getfield 55, 3) := by decide +kernel
theorem d_Mo_runs_97 : decode yMo_runs.2.1 97 = .ok (.iload 5, 2) := by decide +kernel
theorem d_Mo_runs_99 : decode yMo_runs.2.1 99 = .ok (.iaload, 1) := by decide +kernel
theorem d_Mo_runs_100 : decode yMo_runs.2.1 100 = .ok (.bipush 9, 2) := by decide +kernel
theorem d_Mo_runs_102 : decode yMo_runs.2.1 102 = .ok (.if_icmp .ne 26, 3) := by decide +kernel
theorem d_Mo_runs_105 : decode yMo_runs.2.1 105 = .ok (.aload_n 0, 1) := by decide +kernel
theorem d_Mo_runs_106 : decode yMo_runs.2.1 106 = .ok (.getfield 80, 3) := by decide +kernel
theorem d_Mo_runs_109 : decode yMo_runs.2.1 109 = .ok (.iload 4, 2) := by decide +kernel
theorem d_Mo_runs_111 : decode yMo_runs.2.1 111 = .ok (.iconst 1, 1) := by decide +kernel
theorem d_Mo_runs_112 : decode yMo_runs.2.1 112 = .ok (.isub, 1) := by decide +kernel
theorem d_Mo_runs_113 : decode yMo_runs.2.1 113 = .ok (.iconst 1, 1) := by decide +kernel
theorem d_Mo_runs_114 : decode yMo_runs.2.1 114 = .ok (.aload_n 0, 1) := by decide +kernel
theorem d_Mo_runs_115 : decode yMo_runs.2.1 115 = .ok (.getfield 80, 3) := by decide +kernel
theorem d_Mo_runs_118 : decode yMo_runs.2.1 118 = .ok (.iload 4, 2) := by decide +kernel
theorem d_Mo_runs_120 : decode yMo_runs.2.1 120 = .ok (.iconst 1, 1) := by decide +kernel
theorem d_Mo_runs_121 : decode yMo_runs.2.1 121 = .ok (.isub, 1) := by decide +kernel
theorem d_Mo_runs_122 : decode yMo_runs.2.1 122 = .ok (.iaload, 1) := by decide +kernel
theorem d_Mo_runs_123 : decode yMo_runs.2.1 123 = .ok (.isub, 1) := by decide +kernel
theorem d_Mo_runs_124 : decode yMo_runs.2.1 124 = .ok (.iastore, 1) := by decide +kernel
theorem d_Mo_runs_125 : decode yMo_runs.2.1 125 = .ok (.goto 45, 3) := by decide +kernel
theorem d_Mo_runs_128 : decode yMo_runs.2.1 128 = .ok (.iload 4, 2) := by decide +kernel
theorem d_Mo_runs_130 : decode yMo_runs.2.1 130 = .ok (.iconst 1, 1) := by decide +kernel
theorem d_Mo_runs_131 : decode yMo_runs.2.1 131 = .ok (.isub, 1) := by decide +kernel
theorem d_Mo_runs_132 : decode yMo_runs.2.1 132 = .ok (.istore 4, 2) := by decide +kernel
theorem d_Mo_runs_134 : decode yMo_runs.2.1 134 = .ok (.aload_n 0, 1) := by decide +kernel
theorem d_Mo_runs_135 : decode yMo_runs.2.1 135 = .ok (.getfield 80, 3) := by decide +kernel
theorem d_Mo_runs_138 : decode yMo_runs.2.1 138 = .ok (.iload 4, 2) := by decide +kernel
theorem d_Mo_runs_140 : decode yMo_runs.2.1 140 = .ok (.iconst 1, 1) := by decide +kernel
theorem d_Mo_runs_141 : decode yMo_runs.2.1 141 = .ok (.isub, 1) := by decide +kernel
theorem d_Mo_runs_142 : decode yMo_runs.2.1 142 = .ok (.aload_n 0, 1) := by decide +kernel
theorem d_Mo_runs_143 : decode yMo_runs.2.1 143 = .ok (.aload_n 0, 1) := by decide +kernel
theorem d_Mo_runs_144 : decode yMo_runs.2.1 144 = .ok (.getfield 55, 3) := by decide +kernel
theorem d_Mo_runs_147 : decode yMo_runs.2.1 147 = .ok (.iload 5, 2) := by decide +kernel
theorem d_Mo_runs_149 : decode yMo_runs.2.1 149 = .ok (.iaload, 1) := by decide +kernel
theorem d_Mo_runs_150 : decode yMo_runs.2.1 150 = .ok (.aload_n 0, 1) := by decide +kernel
theorem d_Mo_runs_151 : decode yMo_runs.2.1 151 = .ok (.getfield 80, 3) := by decide +kernel
theorem d_Mo_runs_154 : decode yMo_runs.2.1 154 = .ok (.iload 4, 2) := by decide +kernel
theorem d_Mo_runs_156 : decode yMo_runs.2.1 156 = .ok (.iconst 1, 1) := by decide +kernel
theorem d_Mo_runs_157 : decode yMo_runs.2.1 157 = .ok (.isub, 1) := by decide +kernel
theorem d_Mo_runs_158 : decode yMo_runs.2.1 158 = .ok (.iaload, 1) := by decide +kernel
theorem d_Mo_runs_159 : decode yMo_runs.2.1 159 = .ok (.aload_n 0, 1) := by decide +kernel
theorem d_Mo_runs_160 : decode yMo_runs.2.1 160 = .ok (.getfield 80, 3) := by decide +kernel
theorem d_Mo_runs_163 : decode yMo_runs.2.1 163 = .ok (.iload 4, 2) := by decide +kernel
theorem d_Mo_runs_165 : decode yMo_runs.2.1 165 = .ok (.iaload, 1) := by decide +kernel
theorem d_Mo_runs_166 : decode yMo_runs.2.1 166 = .ok (.invokevirtual 324, 3) := by decide +kernel
theorem d_Mo_runs_169 : decode yMo_runs.2.1 169 = .ok (.iastore, 1) := by decide +kernel
theorem d_Mo_runs_170 : decode yMo_runs.2.1 170 = .ok (.iinc 5 1, 3) := by decide +kernel
theorem d_Mo_runs_173 : decode yMo_runs.2.1 173 = .ok (.goto (-161), 3) := by decide +kernel
theorem d_Mo_runs_176 : decode yMo_runs.2.1 176 = .ok (.aload_n 0, 1) := by decide +kernel
theorem d_Mo_runs_177 : decode yMo_runs.2.1 177 = .ok (.getfield 80, 3) := by decide +kernel
theorem d_Mo_runs_180 : decode yMo_runs.2.1 180 = .ok (.iconst 0, 1) := by decide +kernel
theorem d_Mo_runs_181 : decode yMo_runs.2.1 181 = .ok (.iaload, 1) := by decide +kernel
theorem d_Mo_runs_182 : decode yMo_runs.2.1 182 = .ok (.ireturn, 1) := by decide +kernel
def J_Mo_runs_170 (k : Int32 → Int32 → gb_Mem → Option (gb_Mem)) (x1 x3 x4 x5 : Int32) (I : gb_Mem) : Option (gb_Mem) :=
  k x4 (x5 + 1) I
set_option maxRecDepth 4000 in
theorem j_Mo_runs_170 (l : Launch) (d0 : Nat) {post : Option gb_AV → List gb_Ce → gb_Mem → Prop} (k : Int32 → Int32 → gb_Mem → Option (gb_Mem)) (x1 x3 x4 x5 : Int32) (I : gb_Mem) {ρ : gb_Mem} (h : J_Mo_runs_170 k x1 x3 x4 x5 I = some ρ) (hk : ∀ (z4 z5 : Int32) (Iw : gb_Mem), k z4 z5 Iw = some ρ → gb_Go l yMo_runs (d0 + 1) 0 0 12 [(0, .inr (some 0)), (1, .inl x1), (3, .inl x3), (4, .inl z4), (5, .inl z5)] [] shM Iw post) (hX : ∀ (I2 : gb_Mem), ρ = I2 → gb_Go l yMo_runs (d0 + 1) 0 0 176 [(0, .inr (some 0))] [] shM I2 post) : gb_Go l yMo_runs (d0 + 1) 0 0 170 [(0, .inr (some 0)), (1, .inl x1), (3, .inl x3), (4, .inl x4), (5, .inl x5)] [] shM I post := by
  unfold J_Mo_runs_170 at h
  refine go_iinc (k := 4) (v := x5 + 1) (lv' := [(5, .inl (x5 + 1)), (0, .inr (some 0)), (1, .inl x1), (3, .inl x3), (4, .inl x4)]) d_Mo_runs_170 rfl rfl (by decide) rfl ?_
  refine go_goto (tgt := 12) d_Mo_runs_173 (by decide) ?_
  exact go_lv [1, 2, 3, 4, 0] rfl (hk _ _ _ h)
def J_Mo_runs_83 (k : Int32 → Int32 → gb_Mem → Option (gb_Mem)) (x1 x3 x4 x5 s0 s1 : Int32) (I : gb_Mem) : Option (gb_Mem) :=
  fsto I 23 420 s1 s0 fun I6 =>
  J_Mo_runs_170 k x1 x3 (x4 + 1) x5 I6
set_option maxRecDepth 4000 in
theorem j_Mo_runs_83 (l : Launch) (d0 : Nat) {post : Option gb_AV → List gb_Ce → gb_Mem → Prop} (k : Int32 → Int32 → gb_Mem → Option (gb_Mem)) (x1 x3 x4 x5 s0 s1 : Int32) (I : gb_Mem) {ρ : gb_Mem} (h : J_Mo_runs_83 k x1 x3 x4 x5 s0 s1 I = some ρ) (hk : ∀ (z4 z5 : Int32) (Iw : gb_Mem), k z4 z5 Iw = some ρ → gb_Go l yMo_runs (d0 + 1) 0 0 12 [(0, .inr (some 0)), (1, .inl x1), (3, .inl x3), (4, .inl z4), (5, .inl z5)] [] shM Iw post) (hX : ∀ (I2 : gb_Mem), ρ = I2 → gb_Go l yMo_runs (d0 + 1) 0 0 176 [(0, .inr (some 0))] [] shM I2 post) : gb_Go l yMo_runs (d0 + 1) 0 0 83 [(0, .inr (some 0)), (1, .inl x1), (3, .inl x3), (4, .inl x4), (5, .inl x5)] [.inl s0, .inl s1, .inr (some 23)] shM I post := by
  unfold J_Mo_runs_83 at h
  obtain ⟨hi, I6, eI6, h⟩ := fsto_e h
  refine go_iast (I' := I6) d_Mo_runs_83 a_M_23 hi eI6 ?_
  refine go_iload (k := 3) d_Mo_runs_84 rfl ?_
  refine go_iconst (v := 1) d_Mo_runs_86 (by decide) ?_
  refine go_iadd d_Mo_runs_87 ?_
  refine go_istore (lv' := [(4, .inl (x4 + 1)), (0, .inr (some 0)), (1, .inl x1), (3, .inl x3), (5, .inl x5)]) d_Mo_runs_88 (by decide) rfl ?_
  refine go_goto (tgt := 170) d_Mo_runs_90 (by decide) ?_
  exact go_lv [1, 2, 3, 0, 4] rfl (j_Mo_runs_170 l d0 k x1 x3 (x4 + 1) x5 I6 h hk hX)
def J_Mo_runs_45 (k : Int32 → Int32 → gb_Mem → Option (gb_Mem)) (x1 x3 x4 x5 : Int32) (I : gb_Mem) : Option (gb_Mem) :=
  flod I 16 1200 x5 fun v3 =>
  if v3 = 0 then
    flod I 17 1200 x5 fun v7 =>
    J_Mo_runs_83 k x1 x3 x4 x5 v7 x4 I
  else
    flod I 17 1200 x5 fun v4 =>
    flod I 22 12 v4 fun v5 =>
    J_Mo_runs_83 k x1 x3 x4 x5 v5 x4 I
set_option maxRecDepth 4000 in
theorem j_Mo_runs_45 (l : Launch) (d0 : Nat) {post : Option gb_AV → List gb_Ce → gb_Mem → Prop} (k : Int32 → Int32 → gb_Mem → Option (gb_Mem)) (x1 x3 x4 x5 : Int32) (I : gb_Mem) {ρ : gb_Mem} (h : J_Mo_runs_45 k x1 x3 x4 x5 I = some ρ) (hk : ∀ (z4 z5 : Int32) (Iw : gb_Mem), k z4 z5 Iw = some ρ → gb_Go l yMo_runs (d0 + 1) 0 0 12 [(0, .inr (some 0)), (1, .inl x1), (3, .inl x3), (4, .inl z4), (5, .inl z5)] [] shM Iw post) (hX : ∀ (I2 : gb_Mem), ρ = I2 → gb_Go l yMo_runs (d0 + 1) 0 0 176 [(0, .inr (some 0))] [] shM I2 post) : gb_Go l yMo_runs (d0 + 1) 0 0 45 [(0, .inr (some 0)), (1, .inl x1), (3, .inl x3), (4, .inl x4), (5, .inl x5)] [] shM I post := by
  unfold J_Mo_runs_45 at h
  refine go_aload_n (k := 0) d_Mo_runs_45 rfl rfl ?_
  refine go_getr (ci := 10) (k := 42) (r := 23) d_Mo_runs_46 a_M_0 rfl (by decide) f_Mo_80 rfl ?_
  refine go_iload (k := 3) d_Mo_runs_49 rfl ?_
  refine go_aload_n (k := 0) d_Mo_runs_51 rfl rfl ?_
  refine go_getr (ci := 10) (k := 24) (r := 16) d_Mo_runs_52 a_M_0 rfl (by decide) f_Mo_55 rfl ?_
  refine go_iload (k := 4) d_Mo_runs_55 rfl ?_
  obtain ⟨hi, v3, ev3, h⟩ := flod_e h
  refine go_iald2 d_Mo_runs_57 a_M_16 hi ev3 ?_
  refine go_if_ne (tgt := 71) d_Mo_runs_58 (by decide) (fun hc => ?_) (fun hc => ?_)
  · rw [if_neg hc] at h
    refine go_aload_n (k := 0) d_Mo_runs_71 rfl rfl ?_
    refine go_getr (ci := 10) (k := 41) (r := 22) d_Mo_runs_72 a_M_0 rfl (by decide) f_Mo_77 rfl ?_
    refine go_aload_n (k := 0) d_Mo_runs_75 rfl rfl ?_
    refine go_getr (ci := 10) (k := 25) (r := 17) d_Mo_runs_76 a_M_0 rfl (by decide) f_Mo_58 rfl ?_
    refine go_iload (k := 4) d_Mo_runs_79 rfl ?_
    obtain ⟨hi, v4, ev4, h⟩ := flod_e h
    refine go_iald2 d_Mo_runs_81 a_M_17 hi ev4 ?_
    obtain ⟨hi, v5, ev5, h⟩ := flod_e h
    refine go_iald2 d_Mo_runs_82 a_M_22 hi ev5 ?_
    exact go_lv [0, 1, 2, 3, 4] rfl (j_Mo_runs_83 l d0 k x1 x3 x4 x5 v5 x4 I h hk hX)
  · rw [if_pos hc] at h
    refine go_aload_n (k := 0) d_Mo_runs_61 rfl rfl ?_
    refine go_getr (ci := 10) (k := 25) (r := 17) d_Mo_runs_62 a_M_0 rfl (by decide) f_Mo_58 rfl ?_
    refine go_iload (k := 4) d_Mo_runs_65 rfl ?_
    obtain ⟨hi, v7, ev7, h⟩ := flod_e h
    refine go_iald2 d_Mo_runs_67 a_M_17 hi ev7 ?_
    refine go_goto (tgt := 83) d_Mo_runs_68 (by decide) ?_
    exact go_lv [0, 1, 2, 3, 4] rfl (j_Mo_runs_83 l d0 k x1 x3 x4 x5 v7 x4 I h hk hX)
def L_Mo_runs_12 (x1 x3 : Int32) : Nat → Int32 → Int32 → gb_Mem → Option (gb_Mem)
  | 0, _, _, _ => none
  | n + 1, x4, x5, I =>
    if ((400 * x1) + x3) ≤ x5 then
      some I
    else
      flod I 16 1200 x5 fun v2 =>
      if v2 = 0 then
        J_Mo_runs_45 (L_Mo_runs_12 x1 x3 n) x1 x3 x4 x5 I
      else
        flod I 16 1200 x5 fun v8 =>
        if v8 = 1 then
          J_Mo_runs_45 (L_Mo_runs_12 x1 x3 n) x1 x3 x4 x5 I
        else
          flod I 16 1200 x5 fun v9 =>
          if v9 = 9 then
            flod I 23 420 (x4 - 1) fun v15 =>
            fsto I 23 420 (x4 - 1) (1 - v15) fun I16 =>
            J_Mo_runs_170 (L_Mo_runs_12 x1 x3 n) x1 x3 x4 x5 I16
          else
            flod I 16 1200 x5 fun v10 =>
            flod I 23 420 ((x4 - 1) - 1) fun v11 =>
            flod I 23 420 (x4 - 1) fun v12 =>
            fbd (F_Mo_twoOf v10 v11 v12 I) fun r13 =>
            fsto I 23 420 ((x4 - 1) - 1) r13 fun I14 =>
            J_Mo_runs_170 (L_Mo_runs_12 x1 x3 n) x1 x3 (x4 - 1) x5 I14
set_option maxRecDepth 4000 in
theorem l_Mo_runs_12 (l : Launch) (d0 : Nat) (x1 x3 : Int32) {post : Option gb_AV → List gb_Ce → gb_Mem → Prop} : ∀ (n : Nat) (x4 x5 : Int32) (I : gb_Mem) {ρ : gb_Mem} (h : L_Mo_runs_12 x1 x3 n x4 x5 I = some ρ) (hX : ∀ (I2 : gb_Mem), ρ = I2 → gb_Go l yMo_runs (d0 + 1) 0 0 176 [(0, .inr (some 0))] [] shM I2 post) , gb_Go l yMo_runs (d0 + 1) 0 0 12 [(0, .inr (some 0)), (1, .inl x1), (3, .inl x3), (4, .inl x4), (5, .inl x5)] [] shM I post := by
  intro n
  induction n with
  | zero => intro x4 x5 I ρ h hX; cases h
  | succ n ih =>
    intro x4 x5 I ρ h hX
    rw [L_Mo_runs_12] at h
    refine go_iload (k := 4) d_Mo_runs_12 rfl ?_
    refine go_sipush (v := 400) d_Mo_runs_14 (by decide) ?_
    refine go_iload_n (k := 1) d_Mo_runs_17 rfl rfl ?_
    refine go_imul d_Mo_runs_18 ?_
    refine go_iload_n (k := 2) d_Mo_runs_19 rfl rfl ?_
    refine go_iadd d_Mo_runs_20 ?_
    refine go_cmp_ge (tgt := 176) d_Mo_runs_21 (by decide) (fun hc => ?_) (fun hc => ?_)
    · rw [if_pos hc] at h
      exact go_lv [0] rfl (hX _ (Option.some.inj h).symm)
    · rw [if_neg hc] at h
      refine go_aload_n (k := 0) d_Mo_runs_24 rfl rfl ?_
      refine go_getr (ci := 10) (k := 24) (r := 16) d_Mo_runs_25 a_M_0 rfl (by decide) f_Mo_55 rfl ?_
      refine go_iload (k := 4) d_Mo_runs_28 rfl ?_
      obtain ⟨hi, v2, ev2, h⟩ := flod_e h
      refine go_iald2 d_Mo_runs_30 a_M_16 hi ev2 ?_
      refine go_if_eq (tgt := 45) d_Mo_runs_31 (by decide) (fun hc => ?_) (fun hc => ?_)
      · rw [if_pos hc] at h
        exact go_lv [0, 1, 2, 3, 4] rfl (j_Mo_runs_45 l d0 (L_Mo_runs_12 x1 x3 n) x1 x3 x4 x5 I h (fun z4 z5 Iw hh => ih z4 z5 Iw hh hX) hX)
      · rw [if_neg hc] at h
        refine go_aload_n (k := 0) d_Mo_runs_34 rfl rfl ?_
        refine go_getr (ci := 10) (k := 24) (r := 16) d_Mo_runs_35 a_M_0 rfl (by decide) f_Mo_55 rfl ?_
        refine go_iload (k := 4) d_Mo_runs_38 rfl ?_
        obtain ⟨hi, v8, ev8, h⟩ := flod_e h
        refine go_iald2 d_Mo_runs_40 a_M_16 hi ev8 ?_
        refine go_iconst (v := 1) d_Mo_runs_41 (by decide) ?_
        refine go_cmp_ne (tgt := 93) d_Mo_runs_42 (by decide) (fun hc => ?_) (fun hc => ?_)
        · rw [if_neg hc] at h
          refine go_aload_n (k := 0) d_Mo_runs_93 rfl rfl ?_
          refine go_getr (ci := 10) (k := 24) (r := 16) d_Mo_runs_94 a_M_0 rfl (by decide) f_Mo_55 rfl ?_
          refine go_iload (k := 4) d_Mo_runs_97 rfl ?_
          obtain ⟨hi, v9, ev9, h⟩ := flod_e h
          refine go_iald2 d_Mo_runs_99 a_M_16 hi ev9 ?_
          refine go_bipush (v := 9) d_Mo_runs_100 (by decide) ?_
          refine go_cmp_ne (tgt := 128) d_Mo_runs_102 (by decide) (fun hc => ?_) (fun hc => ?_)
          · rw [if_neg hc] at h
            refine go_iload (k := 3) d_Mo_runs_128 rfl ?_
            refine go_iconst (v := 1) d_Mo_runs_130 (by decide) ?_
            refine go_isub d_Mo_runs_131 ?_
            refine go_istore (lv' := [(4, .inl (x4 - 1)), (0, .inr (some 0)), (1, .inl x1), (3, .inl x3), (5, .inl x5)]) d_Mo_runs_132 (by decide) rfl ?_
            refine go_aload_n (k := 1) d_Mo_runs_134 rfl rfl ?_
            refine go_getr (ci := 10) (k := 42) (r := 23) d_Mo_runs_135 a_M_0 rfl (by decide) f_Mo_80 rfl ?_
            refine go_iload (k := 0) d_Mo_runs_138 rfl ?_
            refine go_iconst (v := 1) d_Mo_runs_140 (by decide) ?_
            refine go_isub d_Mo_runs_141 ?_
            refine go_aload_n (k := 1) d_Mo_runs_142 rfl rfl ?_
            refine go_aload_n (k := 1) d_Mo_runs_143 rfl rfl ?_
            refine go_getr (ci := 10) (k := 24) (r := 16) d_Mo_runs_144 a_M_0 rfl (by decide) f_Mo_55 rfl ?_
            refine go_iload (k := 4) d_Mo_runs_147 rfl ?_
            obtain ⟨hi, v10, ev10, h⟩ := flod_e h
            refine go_iald2 d_Mo_runs_149 a_M_16 hi ev10 ?_
            refine go_aload_n (k := 1) d_Mo_runs_150 rfl rfl ?_
            refine go_getr (ci := 10) (k := 42) (r := 23) d_Mo_runs_151 a_M_0 rfl (by decide) f_Mo_80 rfl ?_
            refine go_iload (k := 0) d_Mo_runs_154 rfl ?_
            refine go_iconst (v := 1) d_Mo_runs_156 (by decide) ?_
            refine go_isub d_Mo_runs_157 ?_
            obtain ⟨hi, v11, ev11, h⟩ := flod_e h
            refine go_iald2 d_Mo_runs_158 a_M_23 hi ev11 ?_
            refine go_aload_n (k := 1) d_Mo_runs_159 rfl rfl ?_
            refine go_getr (ci := 10) (k := 42) (r := 23) d_Mo_runs_160 a_M_0 rfl (by decide) f_Mo_80 rfl ?_
            refine go_iload (k := 0) d_Mo_runs_163 rfl ?_
            obtain ⟨hi, v12, ev12, h⟩ := flod_e h
            refine go_iald2 d_Mo_runs_165 a_M_23 hi ev12 ?_
            obtain ⟨r13, w1, h⟩ := fbd_e h
            refine go_callV (y := yMo_twoOf) (asr := [.inl v10, .inl v11, .inl v12]) (v := some (.inl r13)) (I' := I) (st1 := [.inl r13, .inl ((x4 - 1) - 1), .inr (some 23)]) d_Mo_runs_166 s_yMo_twoOf m_Mo_324 a_M_0 rfl rfl rfl (Nat.le_of_ble_eq_true rfl) rfl rfl (c_Mo_twoOf l (d0 + 0) v10 v11 v12 I w1) ?_
            obtain ⟨hi, I14, eI14, h⟩ := fsto_e h
            refine go_iast (I' := I14) d_Mo_runs_169 a_M_23 hi eI14 ?_
            exact go_lv [1, 2, 3, 0, 4] rfl (j_Mo_runs_170 l d0 (L_Mo_runs_12 x1 x3 n) x1 x3 (x4 - 1) x5 I14 h (fun z4 z5 Iw hh => ih z4 z5 Iw hh hX) hX)
          · rw [if_pos hc] at h
            refine go_aload_n (k := 0) d_Mo_runs_105 rfl rfl ?_
            refine go_getr (ci := 10) (k := 42) (r := 23) d_Mo_runs_106 a_M_0 rfl (by decide) f_Mo_80 rfl ?_
            refine go_iload (k := 3) d_Mo_runs_109 rfl ?_
            refine go_iconst (v := 1) d_Mo_runs_111 (by decide) ?_
            refine go_isub d_Mo_runs_112 ?_
            refine go_iconst (v := 1) d_Mo_runs_113 (by decide) ?_
            refine go_aload_n (k := 0) d_Mo_runs_114 rfl rfl ?_
            refine go_getr (ci := 10) (k := 42) (r := 23) d_Mo_runs_115 a_M_0 rfl (by decide) f_Mo_80 rfl ?_
            refine go_iload (k := 3) d_Mo_runs_118 rfl ?_
            refine go_iconst (v := 1) d_Mo_runs_120 (by decide) ?_
            refine go_isub d_Mo_runs_121 ?_
            obtain ⟨hi, v15, ev15, h⟩ := flod_e h
            refine go_iald2 d_Mo_runs_122 a_M_23 hi ev15 ?_
            refine go_isub d_Mo_runs_123 ?_
            obtain ⟨hi, I16, eI16, h⟩ := fsto_e h
            refine go_iast (I' := I16) d_Mo_runs_124 a_M_23 hi eI16 ?_
            refine go_goto (tgt := 170) d_Mo_runs_125 (by decide) ?_
            exact go_lv [0, 1, 2, 3, 4] rfl (j_Mo_runs_170 l d0 (L_Mo_runs_12 x1 x3 n) x1 x3 x4 x5 I16 h (fun z4 z5 Iw hh => ih z4 z5 Iw hh hX) hX)
        · rw [if_pos hc] at h
          exact go_lv [0, 1, 2, 3, 4] rfl (j_Mo_runs_45 l d0 (L_Mo_runs_12 x1 x3 n) x1 x3 x4 x5 I h (fun z4 z5 Iw hh => ih z4 z5 Iw hh hX) hX)
def F_Mo_runs (x1 x2 x3 : Int32) (I : gb_Mem) : Option (Int32 × gb_Mem) :=
  flt ((400 * x1) + x2) fun y1 =>
  fbd (L_Mo_runs_12 x1 x3 5000 0 y1 I) fun I17 =>
  some (I17 23 0, I17)
set_option maxRecDepth 4000 in
theorem c_Mo_runs (l : Launch) (d0 : Nat) (x1 x2 x3 : Int32) (I : gb_Mem) {rz : Int32} {Iz : gb_Mem} (h : F_Mo_runs x1 x2 x3 I = some (rz, Iz)) : gb_Cs l yMo_runs (d0 + 1) [.inr (some 0), .inl x1, .inl x2, .inl x3] shM I (some (.inl rz)) Iz := by
  refine gb_Ct.of (lv := [(0, .inr (some 0)), (1, .inl x1), (2, .inl x2), (3, .inl x3)]) rfl (Nat.le_of_ble_eq_true rfl) rfl ?_
  unfold F_Mo_runs at h
  show gb_Go l yMo_runs (d0 + 1) 0 0 0 [(0, .inr (some 0)), (1, .inl x1), (2, .inl x2), (3, .inl x3)] [] shM I (gb_po shM (some (.inl rz)) Iz)
  refine go_iconst (v := 0) d_Mo_runs_0 (by decide) ?_
  refine go_istore (lv' := [(4, .inl 0), (0, .inr (some 0)), (1, .inl x1), (2, .inl x2), (3, .inl x3)]) d_Mo_runs_1 (by decide) rfl ?_
  refine go_sipush (v := 400) d_Mo_runs_3 (by decide) ?_
  refine go_iload_n (k := 2) d_Mo_runs_6 rfl rfl ?_
  refine go_imul d_Mo_runs_7 ?_
  refine go_iload_n (k := 3) d_Mo_runs_8 rfl rfl ?_
  refine go_iadd d_Mo_runs_9 ?_
  obtain ⟨y1, ey1, h⟩ := flt_e h
  refine go_top ey1 ?_
  refine go_istore (lv' := [(5, .inl y1), (4, .inl 0), (0, .inr (some 0)), (1, .inl x1), (2, .inl x2), (3, .inl x3)]) d_Mo_runs_10 (by decide) rfl ?_
  refine go_lv [2, 3, 5, 1, 0] (lv' := [(0, .inr (some 0)), (1, .inl x1), (3, .inl x3), (4, .inl 0), (5, .inl y1)]) rfl ?_
  obtain ⟨I17, w1, h⟩ := fbd_e h
  refine l_Mo_runs_12 l d0 x1 x3 5000 0 y1 I w1 (fun I17_ e => ?_)
  cases e
  refine go_aload_n (k := 0) d_Mo_runs_176 rfl rfl ?_
  refine go_getr (ci := 10) (k := 42) (r := 23) d_Mo_runs_177 a_M_0 rfl (by decide) f_Mo_80 rfl ?_
  refine go_iconst (v := 0) d_Mo_runs_180 (by decide) ?_
  refine go_iald2 (v := I17 23 0) d_Mo_runs_181 a_M_23 (inb_iff.mp (by decide)) rfl ?_
  cases h
  exact go_ireturn d_Mo_runs_182 rfl gb_po_i
theorem d_Mo_saidBy_0 : decode yMo_saidBy.2.1 0 = .ok (.iconst 0, 1) := by decide +kernel
theorem d_Mo_saidBy_1 : decode yMo_saidBy.2.1 1 = .ok (.istore_n 2, 1) := by decide +kernel
theorem d_Mo_saidBy_2 : decode yMo_saidBy.2.1 2 = .ok (.iconst 0, 1) := by decide +kernel
theorem d_Mo_saidBy_3 : decode yMo_saidBy.2.1 3 = .ok (.istore_n 3, 1) := by decide +kernel
theorem d_Mo_saidBy_4 : decode yMo_saidBy.2.1 4 = .ok (.iload_n 3, 1) := by decide +kernel
theorem d_Mo_saidBy_5 : decode yMo_saidBy.2.1 5 = .ok (.iconst 4, 1) := by decide +kernel
theorem d_Mo_saidBy_6 : decode yMo_saidBy.2.1 6 = .ok (.if_icmp .ge 31, 3) := by decide +kernel
theorem d_Mo_saidBy_9 : decode yMo_saidBy.2.1 9 = .ok (.aload_n 0, 1) := by decide +kernel
theorem d_Mo_saidBy_10 : decode yMo_saidBy.2.1 10 = .ok (.iload_n 1, 1) := by decide +kernel
theorem d_Mo_saidBy_11 : decode yMo_saidBy.2.1 11 = .ok (.iconst 3, 1) := by decide +kernel
theorem d_Mo_saidBy_12 : decode yMo_saidBy.2.1 12 = .ok (.iload_n 3, 1) := by decide +kernel
theorem d_Mo_saidBy_13 : decode yMo_saidBy.2.1 13 = .ok (.imul, 1) := by decide +kernel
theorem d_Mo_saidBy_14 : decode yMo_saidBy.2.1 14 = .ok (.ishr, 1) := by decide +kernel
theorem d_Mo_saidBy_15 : decode yMo_saidBy.2.1 15 = .ok (.bipush 7, 2) := by decide +kernel
theorem d_Mo_saidBy_17 : decode yMo_saidBy.2.1 17 = .ok (.iand, 1) := by decide +kernel
theorem d_Mo_saidBy_18 : decode yMo_saidBy.2.1 18 = .ok (.invokevirtual 438, 3) := by decide +kernel
theorem d_Mo_saidBy_21 : decode yMo_saidBy.2.1 21 = .ok (.iconst 1, 1) := by decide +kernel
theorem d_Mo_saidBy_22 : decode yMo_saidBy.2.1 22 = .ok (.if_icmp .le 9, 3) := by decide +kernel
theorem d_Mo_saidBy_25 : decode yMo_saidBy.2.1 25 = .ok (.iload_n 2, 1) := by decide +kernel
theorem d_Mo_saidBy_26 : decode yMo_saidBy.2.1 26 = .ok (.iconst 1, 1) := by decide +kernel
theorem d_Mo_saidBy_27 : decode yMo_saidBy.2.1 27 = .ok (.iload_n 3, 1) := by decide +kernel
theorem d_Mo_saidBy_28 : decode yMo_saidBy.2.1 28 = .ok (.ishl, 1) := by decide +kernel
theorem d_Mo_saidBy_29 : decode yMo_saidBy.2.1 29 = .ok (.ior, 1) := by decide +kernel
theorem d_Mo_saidBy_30 : decode yMo_saidBy.2.1 30 = .ok (.istore_n 2, 1) := by decide +kernel
theorem d_Mo_saidBy_31 : decode yMo_saidBy.2.1 31 = .ok (.iinc 3 1, 3) := by decide +kernel
theorem d_Mo_saidBy_34 : decode yMo_saidBy.2.1 34 = .ok (.goto (-30), 3) := by decide +kernel
theorem d_Mo_saidBy_37 : decode yMo_saidBy.2.1 37 = .ok (.iload_n 2, 1) := by decide +kernel
theorem d_Mo_saidBy_38 : decode yMo_saidBy.2.1 38 = .ok (.ireturn, 1) := by decide +kernel
def J_Mo_saidBy_31 (k : Int32 → Int32 → Option (Int32)) (x1 x2 x3 : Int32) (I : gb_Mem) : Option (Int32) :=
  k x2 (x3 + 1)
set_option maxRecDepth 4000 in
theorem j_Mo_saidBy_31 (l : Launch) (d0 : Nat) {post : Option gb_AV → List gb_Ce → gb_Mem → Prop} (k : Int32 → Int32 → Option (Int32)) (x1 x2 x3 : Int32) (I : gb_Mem) {ρ : Int32} (h : J_Mo_saidBy_31 k x1 x2 x3 I = some ρ) (hk : ∀ (z2 z3 : Int32), k z2 z3 = some ρ → gb_Go l yMo_saidBy (d0 + 1) 0 0 4 [(0, .inr (some 0)), (1, .inl x1), (2, .inl z2), (3, .inl z3)] [] shM I post) (hX : ∀ (o2 : Int32), ρ = o2 → gb_Go l yMo_saidBy (d0 + 1) 0 0 37 [(2, .inl o2)] [] shM I post) : gb_Go l yMo_saidBy (d0 + 1) 0 0 31 [(0, .inr (some 0)), (1, .inl x1), (2, .inl x2), (3, .inl x3)] [] shM I post := by
  unfold J_Mo_saidBy_31 at h
  refine go_iinc (k := 3) (v := x3 + 1) (lv' := [(3, .inl (x3 + 1)), (0, .inr (some 0)), (1, .inl x1), (2, .inl x2)]) d_Mo_saidBy_31 rfl rfl (by decide) rfl ?_
  refine go_goto (tgt := 4) d_Mo_saidBy_34 (by decide) ?_
  exact go_lv [1, 2, 3, 0] rfl (hk _ _ h)
def L_Mo_saidBy_4 (x1 : Int32) (I : gb_Mem) : Nat → Int32 → Int32 → Option (Int32)
  | 0, _, _ => none
  | n + 1, x2, x3 =>
    if 4 ≤ x3 then
      some x2
    else
      fbd (F_Mo_onesOf ((x1 >>> ((3 * x3) &&& 31)) &&& 7) I) fun r1 =>
      if r1 ≤ 1 then
        J_Mo_saidBy_31 (L_Mo_saidBy_4 x1 I n) x1 x2 x3 I
      else
        flt (x2 ||| (1 <<< (x3 &&& 31))) fun y2 =>
        J_Mo_saidBy_31 (L_Mo_saidBy_4 x1 I n) x1 y2 x3 I
set_option maxRecDepth 4000 in
theorem l_Mo_saidBy_4 (l : Launch) (d0 : Nat) (x1 : Int32) (I : gb_Mem) {post : Option gb_AV → List gb_Ce → gb_Mem → Prop} : ∀ (n : Nat) (x2 x3 : Int32) {ρ : Int32} (h : L_Mo_saidBy_4 x1 I n x2 x3 = some ρ) (hX : ∀ (o2 : Int32), ρ = o2 → gb_Go l yMo_saidBy (d0 + 1) 0 0 37 [(2, .inl o2)] [] shM I post) , gb_Go l yMo_saidBy (d0 + 1) 0 0 4 [(0, .inr (some 0)), (1, .inl x1), (2, .inl x2), (3, .inl x3)] [] shM I post := by
  intro n
  induction n with
  | zero => intro x2 x3 ρ h hX; cases h
  | succ n ih =>
    intro x2 x3 ρ h hX
    rw [L_Mo_saidBy_4] at h
    refine go_iload_n (k := 3) d_Mo_saidBy_4 rfl rfl ?_
    refine go_iconst (v := 4) d_Mo_saidBy_5 (by decide) ?_
    refine go_cmp_ge (tgt := 37) d_Mo_saidBy_6 (by decide) (fun hc => ?_) (fun hc => ?_)
    · rw [if_pos hc] at h
      exact go_lv [2] rfl (hX _ (Option.some.inj h).symm)
    · rw [if_neg hc] at h
      refine go_aload_n (k := 0) d_Mo_saidBy_9 rfl rfl ?_
      refine go_iload_n (k := 1) d_Mo_saidBy_10 rfl rfl ?_
      refine go_iconst (v := 3) d_Mo_saidBy_11 (by decide) ?_
      refine go_iload_n (k := 3) d_Mo_saidBy_12 rfl rfl ?_
      refine go_imul d_Mo_saidBy_13 ?_
      refine go_ishr d_Mo_saidBy_14 ?_
      refine go_bipush (v := 7) d_Mo_saidBy_15 (by decide) ?_
      refine go_iand d_Mo_saidBy_17 ?_
      obtain ⟨r1, w1, h⟩ := fbd_e h
      refine go_callV (y := yMo_onesOf) (asr := [.inl ((x1 >>> ((3 * x3) &&& 31)) &&& 7)]) (v := some (.inl r1)) (I' := I) (st1 := [.inl r1]) d_Mo_saidBy_18 s_yMo_onesOf m_Mo_438 a_M_0 rfl rfl rfl (Nat.le_of_ble_eq_true rfl) rfl rfl (c_Mo_onesOf l (d0 + 0) ((x1 >>> ((3 * x3) &&& 31)) &&& 7) I w1) ?_
      refine go_iconst (v := 1) d_Mo_saidBy_21 (by decide) ?_
      refine go_cmp_le (tgt := 31) d_Mo_saidBy_22 (by decide) (fun hc => ?_) (fun hc => ?_)
      · rw [if_pos hc] at h
        exact go_lv [0, 1, 2, 3] rfl (j_Mo_saidBy_31 l d0 (L_Mo_saidBy_4 x1 I n) x1 x2 x3 I h (fun z2 z3 hh => ih z2 z3 hh hX) hX)
      · rw [if_neg hc] at h
        refine go_iload_n (k := 2) d_Mo_saidBy_25 rfl rfl ?_
        refine go_iconst (v := 1) d_Mo_saidBy_26 (by decide) ?_
        refine go_iload_n (k := 3) d_Mo_saidBy_27 rfl rfl ?_
        refine go_ishl d_Mo_saidBy_28 ?_
        refine go_ior d_Mo_saidBy_29 ?_
        obtain ⟨y2, ey2, h⟩ := flt_e h
        refine go_top ey2 ?_
        refine go_istore_n (lv' := [(2, .inl y2), (0, .inr (some 0)), (1, .inl x1), (3, .inl x3)]) d_Mo_saidBy_30 rfl (by decide) rfl ?_
        exact go_lv [1, 2, 0, 3] rfl (j_Mo_saidBy_31 l d0 (L_Mo_saidBy_4 x1 I n) x1 y2 x3 I h (fun z2 z3 hh => ih z2 z3 hh hX) hX)
def F_Mo_saidBy (x1 : Int32) (I : gb_Mem) : Option (Int32) :=
  fbd (L_Mo_saidBy_4 x1 I 5000 0 0) fun o3 =>
  some o3
set_option maxRecDepth 4000 in
theorem c_Mo_saidBy (l : Launch) (d0 : Nat) (x1 : Int32) (I : gb_Mem) {rz : Int32} (h : F_Mo_saidBy x1 I = some rz) : gb_Cs l yMo_saidBy (d0 + 1) [.inr (some 0), .inl x1] shM I (some (.inl rz)) I := by
  refine gb_Ct.of (lv := [(0, .inr (some 0)), (1, .inl x1)]) rfl (Nat.le_of_ble_eq_true rfl) rfl ?_
  unfold F_Mo_saidBy at h
  show gb_Go l yMo_saidBy (d0 + 1) 0 0 0 [(0, .inr (some 0)), (1, .inl x1)] [] shM I (gb_po shM (some (.inl rz)) I)
  refine go_iconst (v := 0) d_Mo_saidBy_0 (by decide) ?_
  refine go_istore_n (lv' := [(2, .inl 0), (0, .inr (some 0)), (1, .inl x1)]) d_Mo_saidBy_1 rfl (by decide) rfl ?_
  refine go_iconst (v := 0) d_Mo_saidBy_2 (by decide) ?_
  refine go_istore_n (lv' := [(3, .inl 0), (2, .inl 0), (0, .inr (some 0)), (1, .inl x1)]) d_Mo_saidBy_3 rfl (by decide) rfl ?_
  refine go_lv [2, 3, 1, 0] (lv' := [(0, .inr (some 0)), (1, .inl x1), (2, .inl 0), (3, .inl 0)]) rfl ?_
  obtain ⟨o3, w1, h⟩ := fbd_e h
  refine l_Mo_saidBy_4 l d0 x1 I 5000 0 0 w1 (fun o3_ e => ?_)
  cases e
  refine go_iload_n (k := 0) d_Mo_saidBy_37 rfl rfl ?_
  cases h
  exact go_ireturn d_Mo_saidBy_38 rfl gb_po_i
theorem d_Mo_salts_0 : decode yMo_salts.2.1 0 = .ok (.aload_n 0, 1) := by decide +kernel
theorem d_Mo_salts_1 : decode yMo_salts.2.1 1 = .ok (.iconst 4, 1) := by decide +kernel
theorem d_Mo_salts_2 : decode yMo_salts.2.1 2 = .ok (.iload_n 1, 1) := by decide +kernel
theorem d_Mo_salts_3 : decode yMo_salts.2.1 3 = .ok (.aload_n 0, 1) := by decide +kernel
theorem d_Mo_salts_4 : decode yMo_salts.2.1 4 = .ok (.getfield 7, 3) := by decide +kernel
theorem d_Mo_salts_7 : decode yMo_salts.2.1 7 = .ok (.bipush 18, 2) := by decide +kernel
theorem d_Mo_salts_9 : decode yMo_salts.2.1 9 = .ok (.iload_n 1, 1) := by decide +kernel
theorem d_Mo_salts_10 : decode yMo_salts.2.1 10 = .ok (.iadd, 1) := by decide +kernel
theorem d_Mo_salts_11 : decode yMo_salts.2.1 11 = .ok (.iaload, 1) := by decide +kernel
theorem d_Mo_salts_12 : decode yMo_salts.2.1 12 = .ok (.invokevirtual 354, 3) := by decide +kernel
theorem d_Mo_salts_15 : decode yMo_salts.2.1 15 = .ok (.aload_n 0, 1) := by decide +kernel
theorem d_Mo_salts_16 : decode yMo_salts.2.1 16 = .ok (.getfield 7, 3) := by decide +kernel
theorem d_Mo_salts_19 : decode yMo_salts.2.1 19 = .ok (.bipush 18, 2) := by decide +kernel
theorem d_Mo_salts_21 : decode yMo_salts.2.1 21 = .ok (.iload_n 1, 1) := by decide +kernel
theorem d_Mo_salts_22 : decode yMo_salts.2.1 22 = .ok (.iadd, 1) := by decide +kernel
theorem d_Mo_salts_23 : decode yMo_salts.2.1 23 = .ok (.iconst 0, 1) := by decide +kernel
theorem d_Mo_salts_24 : decode yMo_salts.2.1 24 = .ok (.iastore, 1) := by decide +kernel
theorem d_Mo_salts_25 : decode yMo_salts.2.1 25 = .ok (.return_, 1) := by decide +kernel
def F_Mo_salts (x1 : Int32) (I : gb_Mem) : Option (gb_Mem) :=
  flod I 1 80 (18 + x1) fun v1 =>
  fbd (F_Mo_notes 4 x1 v1 I) fun I2 =>
  fsto I2 1 80 (18 + x1) 0 fun I3 =>
  some I3
set_option maxRecDepth 4000 in
theorem c_Mo_salts (l : Launch) (d0 : Nat) (x1 : Int32) (I : gb_Mem) {Iz : gb_Mem} (h : F_Mo_salts x1 I = some Iz) : gb_Cs l yMo_salts (d0 + 1) [.inr (some 0), .inl x1] shM I none Iz := by
  refine gb_Ct.of (lv := [(0, .inr (some 0)), (1, .inl x1)]) rfl (Nat.le_of_ble_eq_true rfl) rfl ?_
  unfold F_Mo_salts at h
  show gb_Go l yMo_salts (d0 + 1) 0 0 0 [(0, .inr (some 0)), (1, .inl x1)] [] shM I (gb_po shM none Iz)
  refine go_aload_n (k := 0) d_Mo_salts_0 rfl rfl ?_
  refine go_iconst (v := 4) d_Mo_salts_1 (by decide) ?_
  refine go_iload_n (k := 1) d_Mo_salts_2 rfl rfl ?_
  refine go_aload_n (k := 0) d_Mo_salts_3 rfl rfl ?_
  refine go_getr (ci := 10) (k := 1) (r := 1) d_Mo_salts_4 a_M_0 rfl (by decide) f_Mo_7 rfl ?_
  refine go_bipush (v := 18) d_Mo_salts_7 (by decide) ?_
  refine go_iload_n (k := 1) d_Mo_salts_9 rfl rfl ?_
  refine go_iadd d_Mo_salts_10 ?_
  obtain ⟨hi, v1, ev1, h⟩ := flod_e h
  refine go_iald2 d_Mo_salts_11 a_M_1 hi ev1 ?_
  obtain ⟨I2, w1, h⟩ := fbd_e h
  refine go_callV (y := yMo_notes) (asr := [.inl 4, .inl x1, .inl v1]) (v := none) (I' := I2) (st1 := []) d_Mo_salts_12 s_yMo_notes m_Mo_354 a_M_0 rfl rfl rfl (Nat.le_of_ble_eq_true rfl) rfl rfl (c_Mo_notes l (d0 + 0) 4 x1 v1 I w1) ?_
  refine go_aload_n (k := 0) d_Mo_salts_15 rfl rfl ?_
  refine go_getr (ci := 10) (k := 1) (r := 1) d_Mo_salts_16 a_M_0 rfl (by decide) f_Mo_7 rfl ?_
  refine go_bipush (v := 18) d_Mo_salts_19 (by decide) ?_
  refine go_iload_n (k := 1) d_Mo_salts_21 rfl rfl ?_
  refine go_iadd d_Mo_salts_22 ?_
  refine go_iconst (v := 0) d_Mo_salts_23 (by decide) ?_
  obtain ⟨hi, I3, eI3, h⟩ := fsto_e h
  refine go_iast (I' := I3) d_Mo_salts_24 a_M_1 hi eI3 ?_
  cases h
  exact go_return d_Mo_salts_25 rfl gb_po_i
theorem d_Mo_sayingOf_0 : decode yMo_sayingOf.2.1 0 = .ok (.iconst 0, 1) := by decide +kernel
theorem d_Mo_sayingOf_1 : decode yMo_sayingOf.2.1 1 = .ok (.istore_n 2, 1) := by decide +kernel
theorem d_Mo_sayingOf_2 : decode yMo_sayingOf.2.1 2 = .ok (.iconst 0, 1) := by decide +kernel
theorem d_Mo_sayingOf_3 : decode yMo_sayingOf.2.1 3 = .ok (.istore_n 3, 1) := by decide +kernel
theorem d_Mo_sayingOf_4 : decode yMo_sayingOf.2.1 4 = .ok (.iload_n 3, 1) := by decide +kernel
theorem d_Mo_sayingOf_5 : decode yMo_sayingOf.2.1 5 = .ok (.aload_n 0, 1) := by decide +kernel
theorem d_Mo_sayingOf_6 : decode yMo_sayingOf.2.1 6 = .ok (.getfield 471, 3) := by decide +kernel
theorem d_Mo_sayingOf_9 : decode yMo_sayingOf.2.1 9 = .ok (.if_icmp .ge 33, 3) := by decide +kernel
theorem d_Mo_sayingOf_12 : decode yMo_sayingOf.2.1 12 = .ok (.aload_n 0, 1) := by decide +kernel
theorem d_Mo_sayingOf_13 : decode yMo_sayingOf.2.1 13 = .ok (.iload_n 1, 1) := by decide +kernel
theorem d_Mo_sayingOf_14 : decode yMo_sayingOf.2.1 14 = .ok (.aload_n 0, 1) := by decide +kernel
theorem d_Mo_sayingOf_15 : decode yMo_sayingOf.2.1 15 = .ok (.getfield 122, 3) := by decide +kernel
theorem d_Mo_sayingOf_18 : decode yMo_sayingOf.2.1 18 = .ok (.iload_n 3, 1) := by decide +kernel
theorem d_Mo_sayingOf_19 : decode yMo_sayingOf.2.1 19 = .ok (.iaload, 1) := by decide +kernel
theorem d_Mo_sayingOf_20 : decode yMo_sayingOf.2.1 20 = .ok (.aload_n 0, 1) := by decide +kernel
theorem d_Mo_sayingOf_21 : decode yMo_sayingOf.2.1 21 = .ok (.getfield 125, 3) := by decide +kernel
theorem d_Mo_sayingOf_24 : decode yMo_sayingOf.2.1 24 = .ok (.iload_n 3, 1) := by decide +kernel
theorem d_Mo_sayingOf_25 : decode yMo_sayingOf.2.1 25 = .ok (.iaload, 1) := by decide +kernel
theorem d_Mo_sayingOf_26 : decode yMo_sayingOf.2.1 26 = .ok (.invokevirtual 157, 3) := by decide +kernel
theorem d_Mo_sayingOf_29 : decode yMo_sayingOf.2.1 29 = .ok (.ifCond .eq 7, 3) := by decide +kernel
theorem d_Mo_sayingOf_32 : decode yMo_sayingOf.2.1 32 = .ok (.iload_n 2, 1) := by decide +kernel
theorem d_Mo_sayingOf_33 : decode yMo_sayingOf.2.1 33 = .ok (.iconst 1, 1) := by decide +kernel
theorem d_Mo_sayingOf_34 : decode yMo_sayingOf.2.1 34 = .ok (.iadd, 1) := by decide +kernel
theorem d_Mo_sayingOf_35 : decode yMo_sayingOf.2.1 35 = .ok (.istore_n 2, 1) := by decide +kernel
theorem d_Mo_sayingOf_36 : decode yMo_sayingOf.2.1 36 = .ok (.iinc 3 1, 3) := by decide +kernel
theorem d_Mo_sayingOf_39 : decode yMo_sayingOf.2.1 39 = .ok (.goto (-35), 3) := by decide +kernel
theorem d_Mo_sayingOf_42 : decode yMo_sayingOf.2.1 42 = .ok (.iload_n 2, 1) := by decide +kernel
theorem d_Mo_sayingOf_43 : decode yMo_sayingOf.2.1 43 = .ok (.ireturn, 1) := by decide +kernel
def J_Mo_sayingOf_36 (k : Int32 → Int32 → Option (Int32)) (x1 x2 x3 : Int32) (I : gb_Mem) : Option (Int32) :=
  k x2 (x3 + 1)
set_option maxRecDepth 4000 in
theorem j_Mo_sayingOf_36 (l : Launch) (d0 : Nat) {post : Option gb_AV → List gb_Ce → gb_Mem → Prop} (k : Int32 → Int32 → Option (Int32)) (x1 x2 x3 : Int32) (I : gb_Mem) {ρ : Int32} (h : J_Mo_sayingOf_36 k x1 x2 x3 I = some ρ) (hk : ∀ (z2 z3 : Int32), k z2 z3 = some ρ → gb_Go l yMo_sayingOf (d0 + 1) 0 0 4 [(0, .inr (some 0)), (1, .inl x1), (2, .inl z2), (3, .inl z3)] [] shM I post) (hX : ∀ (o2 : Int32), ρ = o2 → gb_Go l yMo_sayingOf (d0 + 1) 0 0 42 [(2, .inl o2)] [] shM I post) : gb_Go l yMo_sayingOf (d0 + 1) 0 0 36 [(0, .inr (some 0)), (1, .inl x1), (2, .inl x2), (3, .inl x3)] [] shM I post := by
  unfold J_Mo_sayingOf_36 at h
  refine go_iinc (k := 3) (v := x3 + 1) (lv' := [(3, .inl (x3 + 1)), (0, .inr (some 0)), (1, .inl x1), (2, .inl x2)]) d_Mo_sayingOf_36 rfl rfl (by decide) rfl ?_
  refine go_goto (tgt := 4) d_Mo_sayingOf_39 (by decide) ?_
  exact go_lv [1, 2, 3, 0] rfl (hk _ _ h)
def L_Mo_sayingOf_4 (x1 : Int32) (I : gb_Mem) : Nat → Int32 → Int32 → Option (Int32)
  | 0, _, _ => none
  | n + 1, x2, x3 =>
    if (I 0 61) ≤ x3 then
      some x2
    else
      flod I 37 8 x3 fun v1 =>
      flod I 38 8 x3 fun v2 =>
      if (F_Mo_isIn x1 v1 v2 I) = 0 then
        J_Mo_sayingOf_36 (L_Mo_sayingOf_4 x1 I n) x1 x2 x3 I
      else
        J_Mo_sayingOf_36 (L_Mo_sayingOf_4 x1 I n) x1 (x2 + 1) x3 I
set_option maxRecDepth 4000 in
theorem l_Mo_sayingOf_4 (l : Launch) (d0 : Nat) (x1 : Int32) (I : gb_Mem) {post : Option gb_AV → List gb_Ce → gb_Mem → Prop} : ∀ (n : Nat) (x2 x3 : Int32) {ρ : Int32} (h : L_Mo_sayingOf_4 x1 I n x2 x3 = some ρ) (hX : ∀ (o2 : Int32), ρ = o2 → gb_Go l yMo_sayingOf (d0 + 1) 0 0 42 [(2, .inl o2)] [] shM I post) , gb_Go l yMo_sayingOf (d0 + 1) 0 0 4 [(0, .inr (some 0)), (1, .inl x1), (2, .inl x2), (3, .inl x3)] [] shM I post := by
  intro n
  induction n with
  | zero => intro x2 x3 ρ h hX; cases h
  | succ n ih =>
    intro x2 x3 ρ h hX
    rw [L_Mo_sayingOf_4] at h
    refine go_iload_n (k := 3) d_Mo_sayingOf_4 rfl rfl ?_
    refine go_aload_n (k := 0) d_Mo_sayingOf_5 rfl rfl ?_
    refine go_geti (ci := 10) (k := 61) d_Mo_sayingOf_6 a_M_0 rfl (by decide) f_Mo_471 rfl ?_
    refine go_cmp_ge (tgt := 42) d_Mo_sayingOf_9 (by decide) (fun hc => ?_) (fun hc => ?_)
    · rw [if_pos hc] at h
      exact go_lv [2] rfl (hX _ (Option.some.inj h).symm)
    · rw [if_neg hc] at h
      refine go_aload_n (k := 0) d_Mo_sayingOf_12 rfl rfl ?_
      refine go_iload_n (k := 1) d_Mo_sayingOf_13 rfl rfl ?_
      refine go_aload_n (k := 0) d_Mo_sayingOf_14 rfl rfl ?_
      refine go_getr (ci := 10) (k := 62) (r := 37) d_Mo_sayingOf_15 a_M_0 rfl (by decide) f_Mo_122 rfl ?_
      refine go_iload_n (k := 3) d_Mo_sayingOf_18 rfl rfl ?_
      obtain ⟨hi, v1, ev1, h⟩ := flod_e h
      refine go_iald2 d_Mo_sayingOf_19 a_M_37 hi ev1 ?_
      refine go_aload_n (k := 0) d_Mo_sayingOf_20 rfl rfl ?_
      refine go_getr (ci := 10) (k := 63) (r := 38) d_Mo_sayingOf_21 a_M_0 rfl (by decide) f_Mo_125 rfl ?_
      refine go_iload_n (k := 3) d_Mo_sayingOf_24 rfl rfl ?_
      obtain ⟨hi, v2, ev2, h⟩ := flod_e h
      refine go_iald2 d_Mo_sayingOf_25 a_M_38 hi ev2 ?_
      refine go_callV (y := yMo_isIn) (asr := [.inl x1, .inl v1, .inl v2]) (v := some (.inl (F_Mo_isIn x1 v1 v2 I))) (I' := I) (st1 := [.inl (F_Mo_isIn x1 v1 v2 I)]) d_Mo_sayingOf_26 s_yMo_isIn m_Mo_157 a_M_0 rfl rfl rfl (Nat.le_of_ble_eq_true rfl) rfl rfl (c_Mo_isIn l (d0 + 0) x1 v1 v2 I) ?_
      refine go_if_eq (tgt := 36) d_Mo_sayingOf_29 (by decide) (fun hc => ?_) (fun hc => ?_)
      · rw [if_pos hc] at h
        exact go_lv [0, 1, 2, 3] rfl (j_Mo_sayingOf_36 l d0 (L_Mo_sayingOf_4 x1 I n) x1 x2 x3 I h (fun z2 z3 hh => ih z2 z3 hh hX) hX)
      · rw [if_neg hc] at h
        refine go_iload_n (k := 2) d_Mo_sayingOf_32 rfl rfl ?_
        refine go_iconst (v := 1) d_Mo_sayingOf_33 (by decide) ?_
        refine go_iadd d_Mo_sayingOf_34 ?_
        refine go_istore_n (lv' := [(2, .inl (x2 + 1)), (0, .inr (some 0)), (1, .inl x1), (3, .inl x3)]) d_Mo_sayingOf_35 rfl (by decide) rfl ?_
        exact go_lv [1, 2, 0, 3] rfl (j_Mo_sayingOf_36 l d0 (L_Mo_sayingOf_4 x1 I n) x1 (x2 + 1) x3 I h (fun z2 z3 hh => ih z2 z3 hh hX) hX)
def F_Mo_sayingOf (x1 : Int32) (I : gb_Mem) : Option (Int32) :=
  fbd (L_Mo_sayingOf_4 x1 I 5000 0 0) fun o3 =>
  some o3
set_option maxRecDepth 4000 in
theorem c_Mo_sayingOf (l : Launch) (d0 : Nat) (x1 : Int32) (I : gb_Mem) {rz : Int32} (h : F_Mo_sayingOf x1 I = some rz) : gb_Cs l yMo_sayingOf (d0 + 1) [.inr (some 0), .inl x1] shM I (some (.inl rz)) I := by
  refine gb_Ct.of (lv := [(0, .inr (some 0)), (1, .inl x1)]) rfl (Nat.le_of_ble_eq_true rfl) rfl ?_
  unfold F_Mo_sayingOf at h
  show gb_Go l yMo_sayingOf (d0 + 1) 0 0 0 [(0, .inr (some 0)), (1, .inl x1)] [] shM I (gb_po shM (some (.inl rz)) I)
  refine go_iconst (v := 0) d_Mo_sayingOf_0 (by decide) ?_
  refine go_istore_n (lv' := [(2, .inl 0), (0, .inr (some 0)), (1, .inl x1)]) d_Mo_sayingOf_1 rfl (by decide) rfl ?_
  refine go_iconst (v := 0) d_Mo_sayingOf_2 (by decide) ?_
  refine go_istore_n (lv' := [(3, .inl 0), (2, .inl 0), (0, .inr (some 0)), (1, .inl x1)]) d_Mo_sayingOf_3 rfl (by decide) rfl ?_
  refine go_lv [2, 3, 1, 0] (lv' := [(0, .inr (some 0)), (1, .inl x1), (2, .inl 0), (3, .inl 0)]) rfl ?_
  obtain ⟨o3, w1, h⟩ := fbd_e h
  refine l_Mo_sayingOf_4 l d0 x1 I 5000 0 0 w1 (fun o3_ e => ?_)
  cases e
  refine go_iload_n (k := 0) d_Mo_sayingOf_42 rfl rfl ?_
  cases h
  exact go_ireturn d_Mo_sayingOf_43 rfl gb_po_i
theorem d_Mo_seat_0 : decode yMo_seat.2.1 0 = .ok (.aload_n 0, 1) := by decide +kernel
theorem d_Mo_seat_1 : decode yMo_seat.2.1 1 = .ok (.iconst 0, 1) := by decide +kernel
theorem d_Mo_seat_2 : decode yMo_seat.2.1 2 = .ok (.putfield 137, 3) := by decide +kernel
theorem d_Mo_seat_5 : decode yMo_seat.2.1 5 = .ok (.aload_n 0, 1) := by decide +kernel
theorem d_Mo_seat_6 : decode yMo_seat.2.1 6 = .ok (.iload_n 1, 1) := by decide +kernel
theorem d_Mo_seat_7 : decode yMo_seat.2.1 7 = .ok (.invokevirtual 161, 3) := by decide +kernel
theorem d_Mo_seat_10 : decode yMo_seat.2.1 10 = .ok (.ifCond .ne 6, 3) := by decide +kernel
theorem d_Mo_seat_13 : decode yMo_seat.2.1 13 = .ok (.bipush (-100), 2) := by decide +kernel
theorem d_Mo_seat_15 : decode yMo_seat.2.1 15 = .ok (.ireturn, 1) := by decide +kernel
theorem d_Mo_seat_16 : decode yMo_seat.2.1 16 = .ok (.iload_n 2, 1) := by decide +kernel
theorem d_Mo_seat_17 : decode yMo_seat.2.1 17 = .ok (.ifCond .ne 9, 3) := by decide +kernel
theorem d_Mo_seat_20 : decode yMo_seat.2.1 20 = .ok (.aload_n 0, 1) := by decide +kernel
theorem d_Mo_seat_21 : decode yMo_seat.2.1 21 = .ok (.iload_n 1, 1) := by decide +kernel
theorem d_Mo_seat_22 : decode yMo_seat.2.1 22 = .ok (.invokevirtual 330, 3) := by decide +kernel
theorem d_Mo_seat_25 : decode yMo_seat.2.1 25 = .ok (.ireturn, 1) := by decide +kernel
theorem d_Mo_seat_26 : decode yMo_seat.2.1 26 = .ok (.iload_n 2, 1) := by decide +kernel
theorem d_Mo_seat_27 : decode yMo_seat.2.1 27 = .ok (.iconst 1, 1) := by decide +kernel
theorem d_Mo_seat_28 : decode yMo_seat.2.1 28 = .ok (.if_icmp .ne 10, 3) := by decide +kernel
theorem d_Mo_seat_31 : decode yMo_seat.2.1 31 = .ok (.aload_n 0, 1) := by decide +kernel
theorem d_Mo_seat_32 : decode yMo_seat.2.1 32 = .ok (.getfield 22, 3) := by decide +kernel
theorem d_Mo_seat_35 : decode yMo_seat.2.1 35 = .ok (.iload_n 1, 1) := by decide +kernel
theorem d_Mo_seat_36 : decode yMo_seat.2.1 36 = .ok (.iaload, 1) := by decide +kernel
theorem d_Mo_seat_37 : decode yMo_seat.2.1 37 = .ok (.ireturn, 1) := by decide +kernel
theorem d_Mo_seat_38 : decode yMo_seat.2.1 38 = .ok (.iload_n 2, 1) := by decide +kernel
theorem d_Mo_seat_39 : decode yMo_seat.2.1 39 = .ok (.iconst 2, 1) := by decide +kernel
theorem d_Mo_seat_40 : decode yMo_seat.2.1 40 = .ok (.if_icmp .ne 13, 3) := by decide +kernel
theorem d_Mo_seat_43 : decode yMo_seat.2.1 43 = .ok (.aload_n 0, 1) := by decide +kernel
theorem d_Mo_seat_44 : decode yMo_seat.2.1 44 = .ok (.getfield 7, 3) := by decide +kernel
theorem d_Mo_seat_47 : decode yMo_seat.2.1 47 = .ok (.bipush 6, 2) := by decide +kernel
theorem d_Mo_seat_49 : decode yMo_seat.2.1 49 = .ok (.iload_n 1, 1) := by decide +kernel
theorem d_Mo_seat_50 : decode yMo_seat.2.1 50 = .ok (.iadd, 1) := by decide +kernel
theorem d_Mo_seat_51 : decode yMo_seat.2.1 51 = .ok (.iaload, 1) := by decide +kernel
theorem d_Mo_seat_52 : decode yMo_seat.2.1 52 = .ok (.ireturn, 1) := by decide +kernel
theorem d_Mo_seat_53 : decode yMo_seat.2.1 53 = .ok (.iload_n 2, 1) := by decide +kernel
theorem d_Mo_seat_54 : decode yMo_seat.2.1 54 = .ok (.iconst 3, 1) := by decide +kernel
theorem d_Mo_seat_55 : decode yMo_seat.2.1 55 = .ok (.if_icmp .ne 10, 3) := by decide +kernel
theorem d_Mo_seat_58 : decode yMo_seat.2.1 58 = .ok (.aload_n 0, 1) := by decide +kernel
theorem d_Mo_seat_59 : decode yMo_seat.2.1 59 = .ok (.getfield 25, 3) := by decide +kernel
theorem d_Mo_seat_62 : decode yMo_seat.2.1 62 = .ok (.iload_n 1, 1) := by decide +kernel
theorem d_Mo_seat_63 : decode yMo_seat.2.1 63 = .ok (.iaload, 1) := by decide +kernel
theorem d_Mo_seat_64 : decode yMo_seat.2.1 64 = .ok (.ireturn, 1) := by decide +kernel
theorem d_Mo_seat_65 : decode yMo_seat.2.1 65 = .ok (.iload_n 2, 1) := by decide +kernel
theorem d_Mo_seat_66 : decode yMo_seat.2.1 66 = .ok (.iconst 4, 1) := by decide +kernel
theorem d_Mo_seat_67 : decode yMo_seat.2.1 67 = .ok (.if_icmp .ne 15, 3) := by decide +kernel
theorem d_Mo_seat_70 : decode yMo_seat.2.1 70 = .ok (.aload_n 0, 1) := by decide +kernel
theorem d_Mo_seat_71 : decode yMo_seat.2.1 71 = .ok (.getfield 7, 3) := by decide +kernel
theorem d_Mo_seat_74 : decode yMo_seat.2.1 74 = .ok (.bipush 18, 2) := by decide +kernel
theorem d_Mo_seat_76 : decode yMo_seat.2.1 76 = .ok (.iload_n 1, 1) := by decide +kernel
theorem d_Mo_seat_77 : decode yMo_seat.2.1 77 = .ok (.iadd, 1) := by decide +kernel
theorem d_Mo_seat_78 : decode yMo_seat.2.1 78 = .ok (.iaload, 1) := by decide +kernel
theorem d_Mo_seat_79 : decode yMo_seat.2.1 79 = .ok (.goto 18, 3) := by decide +kernel
theorem d_Mo_seat_82 : decode yMo_seat.2.1 82 = .ok (.iload_n 2, 1) := by decide +kernel
theorem d_Mo_seat_83 : decode yMo_seat.2.1 83 = .ok (.iconst 5, 1) := by decide +kernel
theorem d_Mo_seat_84 : decode yMo_seat.2.1 84 = .ok (.if_icmp .ne 11, 3) := by decide +kernel
theorem d_Mo_seat_87 : decode yMo_seat.2.1 87 = .ok (.aload_n 0, 1) := by decide +kernel
theorem d_Mo_seat_88 : decode yMo_seat.2.1 88 = .ok (.iload_n 1, 1) := by decide +kernel
theorem d_Mo_seat_89 : decode yMo_seat.2.1 89 = .ok (.invokevirtual 388, 3) := by decide +kernel
theorem d_Mo_seat_92 : decode yMo_seat.2.1 92 = .ok (.goto 5, 3) := by decide +kernel
theorem d_Mo_seat_95 : decode yMo_seat.2.1 95 = .ok (.bipush (-100), 2) := by decide +kernel
theorem d_Mo_seat_97 : decode yMo_seat.2.1 97 = .ok (.ireturn, 1) := by decide +kernel
def F_Mo_seat (x1 x2 : Int32) (I : gb_Mem) : Option (Int32 × gb_Mem) :=
  fstf I 0 0 0 fun I1 =>
  if (F_Mo_isSeat x1 I1) = 0 then
    some ((-100), I1)
  else
    if x2 = 0 then
      fbd (F_Mo_steady x1 I1) fun r7 =>
      some (r7, I1)
    else
      if x2 = 1 then
        flod I1 5 12 x1 fun v6 =>
        some (v6, I1)
      else
        if x2 = 2 then
          flod I1 1 80 (6 + x1) fun v5 =>
          some (v5, I1)
        else
          if x2 = 3 then
            flod I1 6 12 x1 fun v4 =>
            some (v4, I1)
          else
            if x2 = 4 then
              flod I1 1 80 (18 + x1) fun v3 =>
              some (v3, I1)
            else
              if x2 = 5 then
                fbd (F_Mo_reachOf x1 I1) fun r2 =>
                some (r2, I1)
              else
                some ((-100), I1)
set_option maxRecDepth 4000 in
theorem c_Mo_seat (l : Launch) (d0 : Nat) (x1 x2 : Int32) (I : gb_Mem) {rz : Int32} {Iz : gb_Mem} (h : F_Mo_seat x1 x2 I = some (rz, Iz)) : gb_Cs l yMo_seat (d0 + 1) [.inr (some 0), .inl x1, .inl x2] shM I (some (.inl rz)) Iz := by
  refine gb_Ct.of (lv := [(0, .inr (some 0)), (1, .inl x1), (2, .inl x2)]) rfl (Nat.le_of_ble_eq_true rfl) rfl ?_
  unfold F_Mo_seat at h
  show gb_Go l yMo_seat (d0 + 1) 0 0 0 [(0, .inr (some 0)), (1, .inl x1), (2, .inl x2)] [] shM I (gb_po shM (some (.inl rz)) Iz)
  refine go_aload_n (k := 0) d_Mo_seat_0 rfl rfl ?_
  refine go_iconst (v := 0) d_Mo_seat_1 (by decide) ?_
  obtain ⟨I1, eI1, h⟩ := fstf_e h
  refine go_putT (ci := 10) (k := 0) (I' := I1) d_Mo_seat_2 a_M_0 rfl (by decide) f_Mo_137 rfl rfl rfl rfl rfl eI1 ?_
  refine go_aload_n (k := 0) d_Mo_seat_5 rfl rfl ?_
  refine go_iload_n (k := 1) d_Mo_seat_6 rfl rfl ?_
  refine go_callV (y := yMo_isSeat) (asr := [.inl x1]) (v := some (.inl (F_Mo_isSeat x1 I1))) (I' := I1) (st1 := [.inl (F_Mo_isSeat x1 I1)]) d_Mo_seat_7 s_yMo_isSeat m_Mo_161 a_M_0 rfl rfl rfl (Nat.le_of_ble_eq_true rfl) rfl rfl (c_Mo_isSeat l (d0 + 0) x1 I1) ?_
  refine go_if_ne (tgt := 16) d_Mo_seat_10 (by decide) (fun hc => ?_) (fun hc => ?_)
  · rw [if_neg hc] at h
    refine go_iload_n (k := 2) d_Mo_seat_16 rfl rfl ?_
    refine go_if_ne (tgt := 26) d_Mo_seat_17 (by decide) (fun hc => ?_) (fun hc => ?_)
    · rw [if_neg hc] at h
      refine go_iload_n (k := 2) d_Mo_seat_26 rfl rfl ?_
      refine go_iconst (v := 1) d_Mo_seat_27 (by decide) ?_
      refine go_cmp_ne (tgt := 38) d_Mo_seat_28 (by decide) (fun hc => ?_) (fun hc => ?_)
      · rw [if_neg hc] at h
        refine go_iload_n (k := 2) d_Mo_seat_38 rfl rfl ?_
        refine go_iconst (v := 2) d_Mo_seat_39 (by decide) ?_
        refine go_cmp_ne (tgt := 53) d_Mo_seat_40 (by decide) (fun hc => ?_) (fun hc => ?_)
        · rw [if_neg hc] at h
          refine go_iload_n (k := 2) d_Mo_seat_53 rfl rfl ?_
          refine go_iconst (v := 3) d_Mo_seat_54 (by decide) ?_
          refine go_cmp_ne (tgt := 65) d_Mo_seat_55 (by decide) (fun hc => ?_) (fun hc => ?_)
          · rw [if_neg hc] at h
            refine go_iload_n (k := 2) d_Mo_seat_65 rfl rfl ?_
            refine go_iconst (v := 4) d_Mo_seat_66 (by decide) ?_
            refine go_cmp_ne (tgt := 82) d_Mo_seat_67 (by decide) (fun hc => ?_) (fun hc => ?_)
            · rw [if_neg hc] at h
              refine go_iload_n (k := 2) d_Mo_seat_82 rfl rfl ?_
              refine go_iconst (v := 5) d_Mo_seat_83 (by decide) ?_
              refine go_cmp_ne (tgt := 95) d_Mo_seat_84 (by decide) (fun hc => ?_) (fun hc => ?_)
              · rw [if_neg hc] at h
                refine go_bipush (v := (-100)) d_Mo_seat_95 (by decide) ?_
                cases h
                exact go_ireturn d_Mo_seat_97 rfl gb_po_i
              · rw [if_pos hc] at h
                refine go_aload_n (k := 0) d_Mo_seat_87 rfl rfl ?_
                refine go_iload_n (k := 1) d_Mo_seat_88 rfl rfl ?_
                obtain ⟨r2, w1, h⟩ := fbd_e h
                refine go_callV (y := yMo_reachOf) (asr := [.inl x1]) (v := some (.inl r2)) (I' := I1) (st1 := [.inl r2]) d_Mo_seat_89 s_yMo_reachOf m_Mo_388 a_M_0 rfl rfl rfl (Nat.le_of_ble_eq_true rfl) rfl rfl (c_Mo_reachOf l (d0 + 0) x1 I1 w1) ?_
                refine go_goto (tgt := 97) d_Mo_seat_92 (by decide) ?_
                cases h
                exact go_ireturn d_Mo_seat_97 rfl gb_po_i
            · rw [if_pos hc] at h
              refine go_aload_n (k := 0) d_Mo_seat_70 rfl rfl ?_
              refine go_getr (ci := 10) (k := 1) (r := 1) d_Mo_seat_71 a_M_0 rfl (by decide) f_Mo_7 rfl ?_
              refine go_bipush (v := 18) d_Mo_seat_74 (by decide) ?_
              refine go_iload_n (k := 1) d_Mo_seat_76 rfl rfl ?_
              refine go_iadd d_Mo_seat_77 ?_
              obtain ⟨hi, v3, ev3, h⟩ := flod_e h
              refine go_iald2 d_Mo_seat_78 a_M_1 hi ev3 ?_
              refine go_goto (tgt := 97) d_Mo_seat_79 (by decide) ?_
              cases h
              exact go_ireturn d_Mo_seat_97 rfl gb_po_i
          · rw [if_pos hc] at h
            refine go_aload_n (k := 0) d_Mo_seat_58 rfl rfl ?_
            refine go_getr (ci := 10) (k := 9) (r := 6) d_Mo_seat_59 a_M_0 rfl (by decide) f_Mo_25 rfl ?_
            refine go_iload_n (k := 1) d_Mo_seat_62 rfl rfl ?_
            obtain ⟨hi, v4, ev4, h⟩ := flod_e h
            refine go_iald2 d_Mo_seat_63 a_M_6 hi ev4 ?_
            cases h
            exact go_ireturn d_Mo_seat_64 rfl gb_po_i
        · rw [if_pos hc] at h
          refine go_aload_n (k := 0) d_Mo_seat_43 rfl rfl ?_
          refine go_getr (ci := 10) (k := 1) (r := 1) d_Mo_seat_44 a_M_0 rfl (by decide) f_Mo_7 rfl ?_
          refine go_bipush (v := 6) d_Mo_seat_47 (by decide) ?_
          refine go_iload_n (k := 1) d_Mo_seat_49 rfl rfl ?_
          refine go_iadd d_Mo_seat_50 ?_
          obtain ⟨hi, v5, ev5, h⟩ := flod_e h
          refine go_iald2 d_Mo_seat_51 a_M_1 hi ev5 ?_
          cases h
          exact go_ireturn d_Mo_seat_52 rfl gb_po_i
      · rw [if_pos hc] at h
        refine go_aload_n (k := 0) d_Mo_seat_31 rfl rfl ?_
        refine go_getr (ci := 10) (k := 8) (r := 5) d_Mo_seat_32 a_M_0 rfl (by decide) f_Mo_22 rfl ?_
        refine go_iload_n (k := 1) d_Mo_seat_35 rfl rfl ?_
        obtain ⟨hi, v6, ev6, h⟩ := flod_e h
        refine go_iald2 d_Mo_seat_36 a_M_5 hi ev6 ?_
        cases h
        exact go_ireturn d_Mo_seat_37 rfl gb_po_i
    · rw [if_pos hc] at h
      refine go_aload_n (k := 0) d_Mo_seat_20 rfl rfl ?_
      refine go_iload_n (k := 1) d_Mo_seat_21 rfl rfl ?_
      obtain ⟨r7, w1, h⟩ := fbd_e h
      refine go_callV (y := yMo_steady) (asr := [.inl x1]) (v := some (.inl r7)) (I' := I1) (st1 := [.inl r7]) d_Mo_seat_22 s_yMo_steady m_Mo_330 a_M_0 rfl rfl rfl (Nat.le_of_ble_eq_true rfl) rfl rfl (c_Mo_steady l (d0 + 0) x1 I1 w1) ?_
      cases h
      exact go_ireturn d_Mo_seat_25 rfl gb_po_i
  · rw [if_pos hc] at h
    refine go_bipush (v := (-100)) d_Mo_seat_13 (by decide) ?_
    cases h
    exact go_ireturn d_Mo_seat_15 rfl gb_po_i
theorem d_Mo_settles_0 : decode yMo_settles.2.1 0 = .ok (.aload_n 0, 1) := by decide +kernel
theorem d_Mo_settles_1 : decode yMo_settles.2.1 1 = .ok (.getfield 241, 3) := by decide +kernel
theorem d_Mo_settles_4 : decode yMo_settles.2.1 4 = .ok (.ifCond .le 53, 3) := by decide +kernel
theorem d_Mo_settles_7 : decode yMo_settles.2.1 7 = .ok (.aload_n 0, 1) := by decide +kernel
theorem d_Mo_settles_8 : decode yMo_settles.2.1 8 = .ok (.getfield 61, 3) := by decide +kernel
theorem d_Mo_settles_11 : decode yMo_settles.2.1 11 = .ok (.aload_n 0, 1) := by decide +kernel
theorem d_Mo_settles_12 : decode yMo_settles.2.1 12 = .ok (.getfield 241, 3) := by decide +kernel
theorem d_Mo_settles_15 : decode yMo_settles.2.1 15 = .ok (.iconst 1, 1) := by decide +kernel
theorem d_Mo_settles_16 : decode yMo_settles.2.1 16 = .ok (.isub, 1) := by decide +kernel
theorem d_Mo_settles_17 : decode yMo_settles.2.1 17 = .ok (.iaload, 1) := by decide +kernel
theorem d_Mo_settles_18 : decode yMo_settles.2.1 18 = .ok (.iload_n 1, 1) := by decide +kernel
theorem d_Mo_settles_19 : decode yMo_settles.2.1 19 = .ok (.if_icmp .ne 38, 3) := by decide +kernel
theorem d_Mo_settles_22 : decode yMo_settles.2.1 22 = .ok (.aload_n 0, 1) := by decide +kernel
theorem d_Mo_settles_23 : decode yMo_settles.2.1 23 = .ok (.aload_n 0, 1) := by decide +kernel
theorem d_Mo_settles_24 : decode yMo_settles.2.1 24 = .ok (.getfield 241, 3) := by decide +kernel
theorem d_Mo_settles_27 : decode yMo_settles.2.1 27 = .ok (.iconst 1, 1) := by decide +kernel
theorem d_Mo_settles_28 : decode yMo_settles.2.1 28 = .ok (.isub, 1) := by decide +kernel
theorem d_Mo_settles_29 : decode yMo_settles.2.1 29 = .ok (.putfield 241, 3) := by decide +kernel
theorem d_Mo_settles_32 : decode yMo_settles.2.1 32 = .ok (.aload_n 0, 1) := by decide +kernel
theorem d_Mo_settles_33 : decode yMo_settles.2.1 33 = .ok (.iload_n 1, 1) := by decide +kernel
theorem d_Mo_settles_34 : decode yMo_settles.2.1 34 = .ok (.iconst 0, 1) := by decide +kernel
theorem d_Mo_settles_35 : decode yMo_settles.2.1 35 = .ok (.invokevirtual 221, 3) := by decide +kernel
theorem d_Mo_settles_38 : decode yMo_settles.2.1 38 = .ok (.iload_n 1, 1) := by decide +kernel
theorem d_Mo_settles_39 : decode yMo_settles.2.1 39 = .ok (.bipush 9, 2) := by decide +kernel
theorem d_Mo_settles_41 : decode yMo_settles.2.1 41 = .ok (.if_icmp .ne (-41), 3) := by decide +kernel
theorem d_Mo_settles_44 : decode yMo_settles.2.1 44 = .ok (.aload_n 0, 1) := by decide +kernel
theorem d_Mo_settles_45 : decode yMo_settles.2.1 45 = .ok (.aload_n 0, 1) := by decide +kernel
theorem d_Mo_settles_46 : decode yMo_settles.2.1 46 = .ok (.getfield 244, 3) := by decide +kernel
theorem d_Mo_settles_49 : decode yMo_settles.2.1 49 = .ok (.iconst 1, 1) := by decide +kernel
theorem d_Mo_settles_50 : decode yMo_settles.2.1 50 = .ok (.isub, 1) := by decide +kernel
theorem d_Mo_settles_51 : decode yMo_settles.2.1 51 = .ok (.putfield 244, 3) := by decide +kernel
theorem d_Mo_settles_54 : decode yMo_settles.2.1 54 = .ok (.goto (-54), 3) := by decide +kernel
theorem d_Mo_settles_57 : decode yMo_settles.2.1 57 = .ok (.return_, 1) := by decide +kernel
def L_Mo_settles_0 (x1 : Int32) : Nat → gb_Mem → Option (gb_Mem)
  | 0, _ => none
  | n + 1, I =>
    if (I 0 30) ≤ 0 then
      some I
    else
      flod I 18 40 ((I 0 30) - 1) fun v1 =>
      if v1 = x1 then
        fstf I 0 30 ((I 0 30) - 1) fun I2 =>
        fbd (F_Mo_emits x1 0 I2) fun I3 =>
        if x1 = 9 then
          fstf I3 0 28 ((I3 0 28) - 1) fun I4 =>
          L_Mo_settles_0 x1 n I4
        else
          L_Mo_settles_0 x1 n I3
      else
        some I
set_option maxRecDepth 4000 in
theorem l_Mo_settles_0 (l : Launch) (d0 : Nat) (x1 : Int32) {post : Option gb_AV → List gb_Ce → gb_Mem → Prop} : ∀ (n : Nat) (I : gb_Mem) {ρ : gb_Mem} (h : L_Mo_settles_0 x1 n I = some ρ) (hX : ∀ (I2 : gb_Mem), ρ = I2 → gb_Go l yMo_settles (d0 + 1) 0 0 57 [] [] shM I2 post) , gb_Go l yMo_settles (d0 + 1) 0 0 0 [(0, .inr (some 0)), (1, .inl x1)] [] shM I post := by
  intro n
  induction n with
  | zero => intro I ρ h hX; cases h
  | succ n ih =>
    intro I ρ h hX
    rw [L_Mo_settles_0] at h
    refine go_aload_n (k := 0) d_Mo_settles_0 rfl rfl ?_
    refine go_geti (ci := 10) (k := 30) d_Mo_settles_1 a_M_0 rfl (by decide) f_Mo_241 rfl ?_
    refine go_if_le (tgt := 57) d_Mo_settles_4 (by decide) (fun hc => ?_) (fun hc => ?_)
    · rw [if_pos hc] at h
      exact go_lv [] rfl (hX _ (Option.some.inj h).symm)
    · rw [if_neg hc] at h
      refine go_aload_n (k := 0) d_Mo_settles_7 rfl rfl ?_
      refine go_getr (ci := 10) (k := 29) (r := 18) d_Mo_settles_8 a_M_0 rfl (by decide) f_Mo_61 rfl ?_
      refine go_aload_n (k := 0) d_Mo_settles_11 rfl rfl ?_
      refine go_geti (ci := 10) (k := 30) d_Mo_settles_12 a_M_0 rfl (by decide) f_Mo_241 rfl ?_
      refine go_iconst (v := 1) d_Mo_settles_15 (by decide) ?_
      refine go_isub d_Mo_settles_16 ?_
      obtain ⟨hi, v1, ev1, h⟩ := flod_e h
      refine go_iald2 d_Mo_settles_17 a_M_18 hi ev1 ?_
      refine go_iload_n (k := 1) d_Mo_settles_18 rfl rfl ?_
      refine go_cmp_ne (tgt := 57) d_Mo_settles_19 (by decide) (fun hc => ?_) (fun hc => ?_)
      · rw [if_neg hc] at h
        exact go_lv [] rfl (hX _ (Option.some.inj h).symm)
      · rw [if_pos hc] at h
        refine go_aload_n (k := 0) d_Mo_settles_22 rfl rfl ?_
        refine go_aload_n (k := 0) d_Mo_settles_23 rfl rfl ?_
        refine go_geti (ci := 10) (k := 30) d_Mo_settles_24 a_M_0 rfl (by decide) f_Mo_241 rfl ?_
        refine go_iconst (v := 1) d_Mo_settles_27 (by decide) ?_
        refine go_isub d_Mo_settles_28 ?_
        obtain ⟨I2, eI2, h⟩ := fstf_e h
        refine go_putT (ci := 10) (k := 30) (I' := I2) d_Mo_settles_29 a_M_0 rfl (by decide) f_Mo_241 rfl rfl rfl rfl rfl eI2 ?_
        refine go_aload_n (k := 0) d_Mo_settles_32 rfl rfl ?_
        refine go_iload_n (k := 1) d_Mo_settles_33 rfl rfl ?_
        refine go_iconst (v := 0) d_Mo_settles_34 (by decide) ?_
        obtain ⟨I3, w1, h⟩ := fbd_e h
        refine go_callV (y := yMo_emits) (asr := [.inl x1, .inl 0]) (v := none) (I' := I3) (st1 := []) d_Mo_settles_35 s_yMo_emits m_Mo_221 a_M_0 rfl rfl rfl (Nat.le_of_ble_eq_true rfl) rfl rfl (c_Mo_emits l (d0 + 0) x1 0 I2 w1) ?_
        refine go_iload_n (k := 1) d_Mo_settles_38 rfl rfl ?_
        refine go_bipush (v := 9) d_Mo_settles_39 (by decide) ?_
        refine go_cmp_ne (tgt := 0) d_Mo_settles_41 (by decide) (fun hc => ?_) (fun hc => ?_)
        · rw [if_neg hc] at h
          exact go_lv [0, 1] rfl (ih  I3 h hX)
        · rw [if_pos hc] at h
          refine go_aload_n (k := 0) d_Mo_settles_44 rfl rfl ?_
          refine go_aload_n (k := 0) d_Mo_settles_45 rfl rfl ?_
          refine go_geti (ci := 10) (k := 28) d_Mo_settles_46 a_M_0 rfl (by decide) f_Mo_244 rfl ?_
          refine go_iconst (v := 1) d_Mo_settles_49 (by decide) ?_
          refine go_isub d_Mo_settles_50 ?_
          obtain ⟨I4, eI4, h⟩ := fstf_e h
          refine go_putT (ci := 10) (k := 28) (I' := I4) d_Mo_settles_51 a_M_0 rfl (by decide) f_Mo_244 rfl rfl rfl rfl rfl eI4 ?_
          refine go_goto (tgt := 0) d_Mo_settles_54 (by decide) ?_
          exact go_lv [0, 1] rfl (ih  I4 h hX)
def F_Mo_settles (x1 : Int32) (I : gb_Mem) : Option (gb_Mem) :=
  fbd (L_Mo_settles_0 x1 5000 I) fun I5 =>
  some I5
set_option maxRecDepth 4000 in
theorem c_Mo_settles (l : Launch) (d0 : Nat) (x1 : Int32) (I : gb_Mem) {Iz : gb_Mem} (h : F_Mo_settles x1 I = some Iz) : gb_Cs l yMo_settles (d0 + 1) [.inr (some 0), .inl x1] shM I none Iz := by
  refine gb_Ct.of (lv := [(0, .inr (some 0)), (1, .inl x1)]) rfl (Nat.le_of_ble_eq_true rfl) rfl ?_
  unfold F_Mo_settles at h
  show gb_Go l yMo_settles (d0 + 1) 0 0 0 [(0, .inr (some 0)), (1, .inl x1)] [] shM I (gb_po shM none Iz)
  refine go_lv [0, 1] (lv' := [(0, .inr (some 0)), (1, .inl x1)]) rfl ?_
  obtain ⟨I5, w1, h⟩ := fbd_e h
  refine l_Mo_settles_0 l d0 x1 5000  I w1 (fun I5_ e => ?_)
  cases e
  cases h
  exact go_return d_Mo_settles_57 rfl gb_po_i
theorem d_Mo_stained_0 : decode yMo_stained.2.1 0 = .ok (.aload_n 0, 1) := by decide +kernel
theorem d_Mo_stained_1 : decode yMo_stained.2.1 1 = .ok (.iconst 0, 1) := by decide +kernel
theorem d_Mo_stained_2 : decode yMo_stained.2.1 2 = .ok (.putfield 137, 3) := by decide +kernel
theorem d_Mo_stained_5 : decode yMo_stained.2.1 5 = .ok (.aload_n 0, 1) := by decide +kernel
theorem d_Mo_stained_6 : decode yMo_stained.2.1 6 = .ok (.iload_n 1, 1) := by decide +kernel
theorem d_Mo_stained_7 : decode yMo_stained.2.1 7 = .ok (.iconst 0, 1) := by decide +kernel
theorem d_Mo_stained_8 : decode yMo_stained.2.1 8 = .ok (.iconst 2, 1) := by decide +kernel
theorem d_Mo_stained_9 : decode yMo_stained.2.1 9 = .ok (.invokevirtual 157, 3) := by decide +kernel
theorem d_Mo_stained_12 : decode yMo_stained.2.1 12 = .ok (.ifCond .ne 5, 3) := by decide +kernel
theorem d_Mo_stained_15 : decode yMo_stained.2.1 15 = .ok (.iconst (-1), 1) := by decide +kernel
theorem d_Mo_stained_16 : decode yMo_stained.2.1 16 = .ok (.ireturn, 1) := by decide +kernel
theorem d_Mo_stained_17 : decode yMo_stained.2.1 17 = .ok (.iconst 0, 1) := by decide +kernel
theorem d_Mo_stained_18 : decode yMo_stained.2.1 18 = .ok (.istore_n 2, 1) := by decide +kernel
theorem d_Mo_stained_19 : decode yMo_stained.2.1 19 = .ok (.iconst (-1), 1) := by decide +kernel
theorem d_Mo_stained_20 : decode yMo_stained.2.1 20 = .ok (.istore_n 3, 1) := by decide +kernel
theorem d_Mo_stained_21 : decode yMo_stained.2.1 21 = .ok (.iconst (-1), 1) := by decide +kernel
theorem d_Mo_stained_22 : decode yMo_stained.2.1 22 = .ok (.istore 4, 2) := by decide +kernel
theorem d_Mo_stained_24 : decode yMo_stained.2.1 24 = .ok (.iconst 0, 1) := by decide +kernel
theorem d_Mo_stained_25 : decode yMo_stained.2.1 25 = .ok (.istore 5, 2) := by decide +kernel
theorem d_Mo_stained_27 : decode yMo_stained.2.1 27 = .ok (.iconst 0, 1) := by decide +kernel
theorem d_Mo_stained_28 : decode yMo_stained.2.1 28 = .ok (.istore 6, 2) := by decide +kernel
theorem d_Mo_stained_30 : decode yMo_stained.2.1 30 = .ok (.iload 6, 2) := by decide +kernel
theorem d_Mo_stained_32 : decode yMo_stained.2.1 32 = .ok (.bipush 12, 2) := by decide +kernel
theorem d_Mo_stained_34 : decode yMo_stained.2.1 34 = .ok (.if_icmp .ge 123, 3) := by decide +kernel
theorem d_Mo_stained_37 : decode yMo_stained.2.1 37 = .ok (.aload_n 0, 1) := by decide +kernel
theorem d_Mo_stained_38 : decode yMo_stained.2.1 38 = .ok (.getfield 7, 3) := by decide +kernel
theorem d_Mo_stained_41 : decode yMo_stained.2.1 41 = .ok (.bipush 18, 2) := by decide +kernel
theorem d_Mo_stained_43 : decode yMo_stained.2.1 43 = .ok (.iload 6, 2) := by decide +kernel
theorem d_Mo_stained_45 : decode yMo_stained.2.1 45 = .ok (.iadd, 1) := by decide +kernel
theorem d_Mo_stained_46 : decode yMo_stained.2.1 46 = .ok (.iaload, 1) := by decide +kernel
theorem d_Mo_stained_47 : decode yMo_stained.2.1 47 = .ok (.ifCond .ne 6, 3) := by decide +kernel
theorem d_Mo_stained_50 : decode yMo_stained.2.1 50 = .ok (.goto 101, 3) := by decide +kernel
theorem d_Mo_stained_53 : decode yMo_stained.2.1 53 = .ok (.iload 6, 2) := by decide +kernel
theorem d_Mo_stained_55 : decode yMo_stained.2.1 55 = .ok (.ifCond .le 21, 3) := by decide +kernel
theorem d_Mo_stained_58 : decode yMo_stained.2.1 58 = .ok (.aload_n 0, 1) := by decide +kernel
theorem d_Mo_stained_59 : decode yMo_stained.2.1 59 = .ok (.getfield 7, 3) := by decide +kernel
theorem d_Mo_stained_62 : decode yMo_stained.2.1 62 = .ok (.bipush 18, 2) := by decide +kernel
theorem d_Mo_stained_64 : decode yMo_stained.2.1 64 = .ok (.iload 6, 2) := by decide +kernel
theorem d_Mo_stained_66 : decode yMo_stained.2.1 66 = .ok (.iadd, 1) := by decide +kernel
theorem d_Mo_stained_67 : decode yMo_stained.2.1 67 = .ok (.iconst 1, 1) := by decide +kernel
theorem d_Mo_stained_68 : decode yMo_stained.2.1 68 = .ok (.isub, 1) := by decide +kernel
theorem d_Mo_stained_69 : decode yMo_stained.2.1 69 = .ok (.iaload, 1) := by decide +kernel
theorem d_Mo_stained_70 : decode yMo_stained.2.1 70 = .ok (.ifCond .le 6, 3) := by decide +kernel
theorem d_Mo_stained_73 : decode yMo_stained.2.1 73 = .ok (.goto 78, 3) := by decide +kernel
theorem d_Mo_stained_76 : decode yMo_stained.2.1 76 = .ok (.iload_n 2, 1) := by decide +kernel
theorem d_Mo_stained_77 : decode yMo_stained.2.1 77 = .ok (.iconst 1, 1) := by decide +kernel
theorem d_Mo_stained_78 : decode yMo_stained.2.1 78 = .ok (.iadd, 1) := by decide +kernel
theorem d_Mo_stained_79 : decode yMo_stained.2.1 79 = .ok (.istore_n 2, 1) := by decide +kernel
theorem d_Mo_stained_80 : decode yMo_stained.2.1 80 = .ok (.iconst 0, 1) := by decide +kernel
theorem d_Mo_stained_81 : decode yMo_stained.2.1 81 = .ok (.istore 5, 2) := by decide +kernel
theorem d_Mo_stained_83 : decode yMo_stained.2.1 83 = .ok (.iload 6, 2) := by decide +kernel
theorem d_Mo_stained_85 : decode yMo_stained.2.1 85 = .ok (.istore 7, 2) := by decide +kernel
theorem d_Mo_stained_87 : decode yMo_stained.2.1 87 = .ok (.iload 7, 2) := by decide +kernel
theorem d_Mo_stained_89 : decode yMo_stained.2.1 89 = .ok (.bipush 12, 2) := by decide +kernel
theorem d_Mo_stained_91 : decode yMo_stained.2.1 91 = .ok (.if_icmp .ge 37, 3) := by decide +kernel
theorem d_Mo_stained_94 : decode yMo_stained.2.1 94 = .ok (.aload_n 0, 1) := by decide +kernel
theorem d_Mo_stained_95 : decode yMo_stained.2.1 95 = .ok (.getfield 7, 3) := by decide +kernel
theorem d_Mo_stained_98 : decode yMo_stained.2.1 98 = .ok (.bipush 18, 2) := by decide +kernel
theorem d_Mo_stained_100 : decode yMo_stained.2.1 100 = .ok (.iload 7, 2) := by decide +kernel
theorem d_Mo_stained_102 : decode yMo_stained.2.1 102 = .ok (.iadd, 1) := by decide +kernel
theorem d_Mo_stained_103 : decode yMo_stained.2.1 103 = .ok (.iaload, 1) := by decide +kernel
theorem d_Mo_stained_104 : decode yMo_stained.2.1 104 = .ok (.ifCond .le 24, 3) := by decide +kernel
theorem d_Mo_stained_107 : decode yMo_stained.2.1 107 = .ok (.iload 5, 2) := by decide +kernel
theorem d_Mo_stained_109 : decode yMo_stained.2.1 109 = .ok (.aload_n 0, 1) := by decide +kernel
theorem d_Mo_stained_110 : decode yMo_stained.2.1 110 = .ok (.getfield 7, 3) := by decide +kernel
theorem d_Mo_stained_113 : decode yMo_stained.2.1 113 = .ok (.bipush 18, 2) := by decide +kernel
theorem d_Mo_stained_115 : decode yMo_stained.2.1 115 = .ok (.iload 7, 2) := by decide +kernel
theorem d_Mo_stained_117 : decode yMo_stained.2.1 117 = .ok (.iadd, 1) := by decide +kernel
theorem d_Mo_stained_118 : decode yMo_stained.2.1 118 = .ok (.iaload, 1) := by decide +kernel
theorem d_Mo_stained_119 : decode yMo_stained.2.1 119 = .ok (.iadd, 1) := by decide +kernel
theorem d_Mo_stained_120 : decode yMo_stained.2.1 120 = .ok (.istore 5, 2) := by decide +kernel
theorem d_Mo_stained_122 : decode yMo_stained.2.1 122 = .ok (.iinc 7 1, 3) := by decide +kernel
theorem d_Mo_stained_125 : decode yMo_stained.2.1 125 = .ok (.goto (-38), 3) := by decide +kernel
theorem d_Mo_stained_128 : decode yMo_stained.2.1 128 = .ok (.iload 5, 2) := by decide +kernel
theorem d_Mo_stained_130 : decode yMo_stained.2.1 130 = .ok (.iload_n 3, 1) := by decide +kernel
theorem d_Mo_stained_131 : decode yMo_stained.2.1 131 = .ok (.if_icmp .le 8, 3) := by decide +kernel
theorem d_Mo_stained_134 : decode yMo_stained.2.1 134 = .ok (.iload 6, 2) := by decide +kernel
theorem d_Mo_stained_136 : decode yMo_stained.2.1 136 = .ok (.goto 5, 3) := by decide +kernel
theorem d_Mo_stained_139 : decode yMo_stained.2.1 139 = .ok (.iload 4, 2) := by decide +kernel
theorem d_Mo_stained_141 : decode yMo_stained.2.1 141 = .ok (.istore 4, 2) := by decide +kernel
theorem d_Mo_stained_143 : decode yMo_stained.2.1 143 = .ok (.aload_n 0, 1) := by decide +kernel
theorem d_Mo_stained_144 : decode yMo_stained.2.1 144 = .ok (.iload_n 3, 1) := by decide +kernel
theorem d_Mo_stained_145 : decode yMo_stained.2.1 145 = .ok (.iload 5, 2) := by decide +kernel
theorem d_Mo_stained_147 : decode yMo_stained.2.1 147 = .ok (.invokevirtual 351, 3) := by decide +kernel
theorem d_Mo_stained_150 : decode yMo_stained.2.1 150 = .ok (.istore_n 3, 1) := by decide +kernel
theorem d_Mo_stained_151 : decode yMo_stained.2.1 151 = .ok (.iinc 6 1, 3) := by decide +kernel
theorem d_Mo_stained_154 : decode yMo_stained.2.1 154 = .ok (.goto (-124), 3) := by decide +kernel
theorem d_Mo_stained_157 : decode yMo_stained.2.1 157 = .ok (.iload_n 1, 1) := by decide +kernel
theorem d_Mo_stained_158 : decode yMo_stained.2.1 158 = .ok (.ifCond .ne 7, 3) := by decide +kernel
theorem d_Mo_stained_161 : decode yMo_stained.2.1 161 = .ok (.iload_n 2, 1) := by decide +kernel
theorem d_Mo_stained_162 : decode yMo_stained.2.1 162 = .ok (.goto 14, 3) := by decide +kernel
theorem d_Mo_stained_165 : decode yMo_stained.2.1 165 = .ok (.iload_n 1, 1) := by decide +kernel
theorem d_Mo_stained_166 : decode yMo_stained.2.1 166 = .ok (.iconst 1, 1) := by decide +kernel
theorem d_Mo_stained_167 : decode yMo_stained.2.1 167 = .ok (.if_icmp .ne 7, 3) := by decide +kernel
theorem d_Mo_stained_170 : decode yMo_stained.2.1 170 = .ok (.iload_n 3, 1) := by decide +kernel
theorem d_Mo_stained_171 : decode yMo_stained.2.1 171 = .ok (.goto 5, 3) := by decide +kernel
theorem d_Mo_stained_174 : decode yMo_stained.2.1 174 = .ok (.iload 4, 2) := by decide +kernel
theorem d_Mo_stained_176 : decode yMo_stained.2.1 176 = .ok (.ireturn, 1) := by decide +kernel
def L_Mo_stained_87 (x1 x2 x3 x4 x6 : Int32) (I : gb_Mem) : Nat → Int32 → Int32 → Option (Int32)
  | 0, _, _ => none
  | n + 1, x5, x7 =>
    if 12 ≤ x7 then
      some x5
    else
      flod I 1 80 (18 + x7) fun v3 =>
      if v3 ≤ 0 then
        some x5
      else
        flod I 1 80 (18 + x7) fun v4 =>
        L_Mo_stained_87 x1 x2 x3 x4 x6 I n (x5 + v4) (x7 + 1)
set_option maxRecDepth 4000 in
theorem l_Mo_stained_87 (l : Launch) (d0 : Nat) (x1 x2 x3 x4 x6 : Int32) (I : gb_Mem) {post : Option gb_AV → List gb_Ce → gb_Mem → Prop} : ∀ (n : Nat) (x5 x7 : Int32) {ρ : Int32} (h : L_Mo_stained_87 x1 x2 x3 x4 x6 I n x5 x7 = some ρ) (hX : ∀ (o5 : Int32), ρ = o5 → gb_Go l yMo_stained (d0 + 1) 0 0 128 [(0, .inr (some 0)), (1, .inl x1), (2, .inl x2), (3, .inl x3), (4, .inl x4), (5, .inl o5), (6, .inl x6)] [] shM I post) , gb_Go l yMo_stained (d0 + 1) 0 0 87 [(0, .inr (some 0)), (1, .inl x1), (2, .inl x2), (3, .inl x3), (4, .inl x4), (5, .inl x5), (6, .inl x6), (7, .inl x7)] [] shM I post := by
  intro n
  induction n with
  | zero => intro x5 x7 ρ h hX; cases h
  | succ n ih =>
    intro x5 x7 ρ h hX
    rw [L_Mo_stained_87] at h
    refine go_iload (k := 7) d_Mo_stained_87 rfl ?_
    refine go_bipush (v := 12) d_Mo_stained_89 (by decide) ?_
    refine go_cmp_ge (tgt := 128) d_Mo_stained_91 (by decide) (fun hc => ?_) (fun hc => ?_)
    · rw [if_pos hc] at h
      exact go_lv [0, 1, 2, 3, 4, 5, 6] rfl (hX _ (Option.some.inj h).symm)
    · rw [if_neg hc] at h
      refine go_aload_n (k := 0) d_Mo_stained_94 rfl rfl ?_
      refine go_getr (ci := 10) (k := 1) (r := 1) d_Mo_stained_95 a_M_0 rfl (by decide) f_Mo_7 rfl ?_
      refine go_bipush (v := 18) d_Mo_stained_98 (by decide) ?_
      refine go_iload (k := 7) d_Mo_stained_100 rfl ?_
      refine go_iadd d_Mo_stained_102 ?_
      obtain ⟨hi, v3, ev3, h⟩ := flod_e h
      refine go_iald2 d_Mo_stained_103 a_M_1 hi ev3 ?_
      refine go_if_le (tgt := 128) d_Mo_stained_104 (by decide) (fun hc => ?_) (fun hc => ?_)
      · rw [if_pos hc] at h
        exact go_lv [0, 1, 2, 3, 4, 5, 6] rfl (hX _ (Option.some.inj h).symm)
      · rw [if_neg hc] at h
        refine go_iload (k := 5) d_Mo_stained_107 rfl ?_
        refine go_aload_n (k := 0) d_Mo_stained_109 rfl rfl ?_
        refine go_getr (ci := 10) (k := 1) (r := 1) d_Mo_stained_110 a_M_0 rfl (by decide) f_Mo_7 rfl ?_
        refine go_bipush (v := 18) d_Mo_stained_113 (by decide) ?_
        refine go_iload (k := 7) d_Mo_stained_115 rfl ?_
        refine go_iadd d_Mo_stained_117 ?_
        obtain ⟨hi, v4, ev4, h⟩ := flod_e h
        refine go_iald2 d_Mo_stained_118 a_M_1 hi ev4 ?_
        refine go_iadd d_Mo_stained_119 ?_
        refine go_istore (lv' := [(5, .inl (x5 + v4)), (0, .inr (some 0)), (1, .inl x1), (2, .inl x2), (3, .inl x3), (4, .inl x4), (6, .inl x6), (7, .inl x7)]) d_Mo_stained_120 (by decide) rfl ?_
        refine go_iinc (k := 7) (v := x7 + 1) (lv' := [(7, .inl (x7 + 1)), (5, .inl (x5 + v4)), (0, .inr (some 0)), (1, .inl x1), (2, .inl x2), (3, .inl x3), (4, .inl x4), (6, .inl x6)]) d_Mo_stained_122 rfl rfl (by decide) rfl ?_
        refine go_goto (tgt := 87) d_Mo_stained_125 (by decide) ?_
        exact go_lv [2, 3, 4, 5, 6, 1, 7, 0] rfl (ih (x5 + v4) (x7 + 1) h hX)
def J_Mo_stained_151 (k : Int32 → Int32 → Int32 → Int32 → Option (Int32 × Int32 × Int32)) (x1 x2 x3 x4 x6 : Int32) (I : gb_Mem) : Option (Int32 × Int32 × Int32) :=
  k x2 x3 x4 (x6 + 1)
set_option maxRecDepth 4000 in
theorem j_Mo_stained_151 (l : Launch) (d0 : Nat) {post : Option gb_AV → List gb_Ce → gb_Mem → Prop} (k : Int32 → Int32 → Int32 → Int32 → Option (Int32 × Int32 × Int32)) (x1 x2 x3 x4 x6 : Int32) (I : gb_Mem) {ρ : Int32 × Int32 × Int32} (h : J_Mo_stained_151 k x1 x2 x3 x4 x6 I = some ρ) (hk : ∀ (z2 z3 z4 z6 : Int32), k z2 z3 z4 z6 = some ρ → gb_Go l yMo_stained (d0 + 1) 0 0 30 [(0, .inr (some 0)), (1, .inl x1), (2, .inl z2), (3, .inl z3), (4, .inl z4), (6, .inl z6)] [] shM I post) (hX : ∀ (o2 : Int32) (o3 : Int32) (o4 : Int32), ρ = (o2, o3, o4) → gb_Go l yMo_stained (d0 + 1) 0 0 157 [(1, .inl x1), (2, .inl o2), (3, .inl o3), (4, .inl o4)] [] shM I post) : gb_Go l yMo_stained (d0 + 1) 0 0 151 [(0, .inr (some 0)), (1, .inl x1), (2, .inl x2), (3, .inl x3), (4, .inl x4), (6, .inl x6)] [] shM I post := by
  unfold J_Mo_stained_151 at h
  refine go_iinc (k := 5) (v := x6 + 1) (lv' := [(6, .inl (x6 + 1)), (0, .inr (some 0)), (1, .inl x1), (2, .inl x2), (3, .inl x3), (4, .inl x4)]) d_Mo_stained_151 rfl rfl (by decide) rfl ?_
  refine go_goto (tgt := 30) d_Mo_stained_154 (by decide) ?_
  exact go_lv [1, 2, 3, 4, 5, 0] rfl (hk _ _ _ _ h)
def J_Mo_stained_141 (k : Int32 → Int32 → Int32 → Int32 → Option (Int32 × Int32 × Int32)) (x1 x2 x3 x5 x6 s0 : Int32) (I : gb_Mem) : Option (Int32 × Int32 × Int32) :=
  flt (F_Mo_greater x3 x5 I) fun y6 =>
  J_Mo_stained_151 k x1 x2 y6 s0 x6 I
set_option maxRecDepth 4000 in
theorem j_Mo_stained_141 (l : Launch) (d0 : Nat) {post : Option gb_AV → List gb_Ce → gb_Mem → Prop} (k : Int32 → Int32 → Int32 → Int32 → Option (Int32 × Int32 × Int32)) (x1 x2 x3 x5 x6 s0 : Int32) (I : gb_Mem) {ρ : Int32 × Int32 × Int32} (h : J_Mo_stained_141 k x1 x2 x3 x5 x6 s0 I = some ρ) (hk : ∀ (z2 z3 z4 z6 : Int32), k z2 z3 z4 z6 = some ρ → gb_Go l yMo_stained (d0 + 1) 0 0 30 [(0, .inr (some 0)), (1, .inl x1), (2, .inl z2), (3, .inl z3), (4, .inl z4), (6, .inl z6)] [] shM I post) (hX : ∀ (o2 : Int32) (o3 : Int32) (o4 : Int32), ρ = (o2, o3, o4) → gb_Go l yMo_stained (d0 + 1) 0 0 157 [(1, .inl x1), (2, .inl o2), (3, .inl o3), (4, .inl o4)] [] shM I post) : gb_Go l yMo_stained (d0 + 1) 0 0 141 [(0, .inr (some 0)), (1, .inl x1), (2, .inl x2), (3, .inl x3), (5, .inl x5), (6, .inl x6)] [.inl s0] shM I post := by
  unfold J_Mo_stained_141 at h
  refine go_istore (lv' := [(4, .inl s0), (0, .inr (some 0)), (1, .inl x1), (2, .inl x2), (3, .inl x3), (5, .inl x5), (6, .inl x6)]) d_Mo_stained_141 (by decide) rfl ?_
  refine go_aload_n (k := 1) d_Mo_stained_143 rfl rfl ?_
  refine go_iload_n (k := 4) d_Mo_stained_144 rfl rfl ?_
  refine go_iload (k := 5) d_Mo_stained_145 rfl ?_
  refine go_callV (y := yMo_greater) (asr := [.inl x3, .inl x5]) (v := some (.inl (F_Mo_greater x3 x5 I))) (I' := I) (st1 := [.inl (F_Mo_greater x3 x5 I)]) d_Mo_stained_147 s_yMo_greater m_Mo_351 a_M_0 rfl rfl rfl (Nat.le_of_ble_eq_true rfl) rfl rfl (c_Mo_greater l (d0 + 0) x3 x5 I) ?_
  obtain ⟨y6, ey6, h⟩ := flt_e h
  refine go_top ey6 ?_
  refine go_istore_n (lv' := [(3, .inl y6), (4, .inl s0), (0, .inr (some 0)), (1, .inl x1), (2, .inl x2), (5, .inl x5), (6, .inl x6)]) d_Mo_stained_150 rfl (by decide) rfl ?_
  exact go_lv [2, 3, 4, 0, 1, 6] rfl (j_Mo_stained_151 l d0 k x1 x2 y6 s0 x6 I h hk hX)
def J_Mo_stained_128 (k : Int32 → Int32 → Int32 → Int32 → Option (Int32 × Int32 × Int32)) (x1 x2 x3 x4 x5 x6 : Int32) (I : gb_Mem) : Option (Int32 × Int32 × Int32) :=
  if x5 ≤ x3 then
    J_Mo_stained_141 k x1 x2 x3 x5 x6 x4 I
  else
    J_Mo_stained_141 k x1 x2 x3 x5 x6 x6 I
set_option maxRecDepth 4000 in
theorem j_Mo_stained_128 (l : Launch) (d0 : Nat) {post : Option gb_AV → List gb_Ce → gb_Mem → Prop} (k : Int32 → Int32 → Int32 → Int32 → Option (Int32 × Int32 × Int32)) (x1 x2 x3 x4 x5 x6 : Int32) (I : gb_Mem) {ρ : Int32 × Int32 × Int32} (h : J_Mo_stained_128 k x1 x2 x3 x4 x5 x6 I = some ρ) (hk : ∀ (z2 z3 z4 z6 : Int32), k z2 z3 z4 z6 = some ρ → gb_Go l yMo_stained (d0 + 1) 0 0 30 [(0, .inr (some 0)), (1, .inl x1), (2, .inl z2), (3, .inl z3), (4, .inl z4), (6, .inl z6)] [] shM I post) (hX : ∀ (o2 : Int32) (o3 : Int32) (o4 : Int32), ρ = (o2, o3, o4) → gb_Go l yMo_stained (d0 + 1) 0 0 157 [(1, .inl x1), (2, .inl o2), (3, .inl o3), (4, .inl o4)] [] shM I post) : gb_Go l yMo_stained (d0 + 1) 0 0 128 [(0, .inr (some 0)), (1, .inl x1), (2, .inl x2), (3, .inl x3), (4, .inl x4), (5, .inl x5), (6, .inl x6)] [] shM I post := by
  unfold J_Mo_stained_128 at h
  refine go_iload (k := 5) d_Mo_stained_128 rfl ?_
  refine go_iload_n (k := 3) d_Mo_stained_130 rfl rfl ?_
  refine go_cmp_le (tgt := 139) d_Mo_stained_131 (by decide) (fun hc => ?_) (fun hc => ?_)
  · rw [if_pos hc] at h
    refine go_iload (k := 4) d_Mo_stained_139 rfl ?_
    exact go_lv [0, 1, 2, 3, 5, 6] rfl (j_Mo_stained_141 l d0 k x1 x2 x3 x5 x6 x4 I h hk hX)
  · rw [if_neg hc] at h
    refine go_iload (k := 6) d_Mo_stained_134 rfl ?_
    refine go_goto (tgt := 141) d_Mo_stained_136 (by decide) ?_
    exact go_lv [0, 1, 2, 3, 5, 6] rfl (j_Mo_stained_141 l d0 k x1 x2 x3 x5 x6 x6 I h hk hX)
def J_Mo_stained_76 (k : Int32 → Int32 → Int32 → Int32 → Option (Int32 × Int32 × Int32)) (x1 x2 x3 x4 x6 : Int32) (I : gb_Mem) : Option (Int32 × Int32 × Int32) :=
  fbd (L_Mo_stained_87 x1 (x2 + 1) x3 x4 x6 I 5000 0 x6) fun o5 =>
  J_Mo_stained_128 k x1 (x2 + 1) x3 x4 o5 x6 I
set_option maxRecDepth 4000 in
theorem j_Mo_stained_76 (l : Launch) (d0 : Nat) {post : Option gb_AV → List gb_Ce → gb_Mem → Prop} (k : Int32 → Int32 → Int32 → Int32 → Option (Int32 × Int32 × Int32)) (x1 x2 x3 x4 x6 : Int32) (I : gb_Mem) {ρ : Int32 × Int32 × Int32} (h : J_Mo_stained_76 k x1 x2 x3 x4 x6 I = some ρ) (hk : ∀ (z2 z3 z4 z6 : Int32), k z2 z3 z4 z6 = some ρ → gb_Go l yMo_stained (d0 + 1) 0 0 30 [(0, .inr (some 0)), (1, .inl x1), (2, .inl z2), (3, .inl z3), (4, .inl z4), (6, .inl z6)] [] shM I post) (hX : ∀ (o2 : Int32) (o3 : Int32) (o4 : Int32), ρ = (o2, o3, o4) → gb_Go l yMo_stained (d0 + 1) 0 0 157 [(1, .inl x1), (2, .inl o2), (3, .inl o3), (4, .inl o4)] [] shM I post) : gb_Go l yMo_stained (d0 + 1) 0 0 76 [(0, .inr (some 0)), (1, .inl x1), (2, .inl x2), (3, .inl x3), (4, .inl x4), (6, .inl x6)] [] shM I post := by
  unfold J_Mo_stained_76 at h
  refine go_iload_n (k := 2) d_Mo_stained_76 rfl rfl ?_
  refine go_iconst (v := 1) d_Mo_stained_77 (by decide) ?_
  refine go_iadd d_Mo_stained_78 ?_
  refine go_istore_n (lv' := [(2, .inl (x2 + 1)), (0, .inr (some 0)), (1, .inl x1), (3, .inl x3), (4, .inl x4), (6, .inl x6)]) d_Mo_stained_79 rfl (by decide) rfl ?_
  refine go_iconst (v := 0) d_Mo_stained_80 (by decide) ?_
  refine go_istore (lv' := [(5, .inl 0), (2, .inl (x2 + 1)), (0, .inr (some 0)), (1, .inl x1), (3, .inl x3), (4, .inl x4), (6, .inl x6)]) d_Mo_stained_81 (by decide) rfl ?_
  refine go_iload (k := 6) d_Mo_stained_83 rfl ?_
  refine go_istore (lv' := [(7, .inl x6), (5, .inl 0), (2, .inl (x2 + 1)), (0, .inr (some 0)), (1, .inl x1), (3, .inl x3), (4, .inl x4), (6, .inl x6)]) d_Mo_stained_85 (by decide) rfl ?_
  refine go_lv [3, 4, 2, 5, 6, 1, 7, 0] (lv' := [(0, .inr (some 0)), (1, .inl x1), (2, .inl (x2 + 1)), (3, .inl x3), (4, .inl x4), (5, .inl 0), (6, .inl x6), (7, .inl x6)]) rfl ?_
  obtain ⟨o5, w1, h⟩ := fbd_e h
  refine l_Mo_stained_87 l d0 x1 (x2 + 1) x3 x4 x6 I 5000 0 x6 w1 (fun o5_ e => ?_)
  cases e
  exact go_lv [0, 1, 2, 3, 4, 5, 6] rfl (j_Mo_stained_128 l d0 k x1 (x2 + 1) x3 x4 o5 x6 I h hk hX)
def L_Mo_stained_30 (x1 : Int32) (I : gb_Mem) : Nat → Int32 → Int32 → Int32 → Int32 → Option (Int32 × Int32 × Int32)
  | 0, _, _, _, _ => none
  | n + 1, x2, x3, x4, x6 =>
    if 12 ≤ x6 then
      some (x2, x3, x4)
    else
      flod I 1 80 (18 + x6) fun v2 =>
      if v2 = 0 then
        J_Mo_stained_151 (L_Mo_stained_30 x1 I n) x1 x2 x3 x4 x6 I
      else
        if x6 ≤ 0 then
          J_Mo_stained_76 (L_Mo_stained_30 x1 I n) x1 x2 x3 x4 x6 I
        else
          flod I 1 80 ((18 + x6) - 1) fun v7 =>
          if v7 ≤ 0 then
            J_Mo_stained_76 (L_Mo_stained_30 x1 I n) x1 x2 x3 x4 x6 I
          else
            J_Mo_stained_151 (L_Mo_stained_30 x1 I n) x1 x2 x3 x4 x6 I
set_option maxRecDepth 4000 in
theorem l_Mo_stained_30 (l : Launch) (d0 : Nat) (x1 : Int32) (I : gb_Mem) {post : Option gb_AV → List gb_Ce → gb_Mem → Prop} : ∀ (n : Nat) (x2 x3 x4 x6 : Int32) {ρ : Int32 × Int32 × Int32} (h : L_Mo_stained_30 x1 I n x2 x3 x4 x6 = some ρ) (hX : ∀ (o2 : Int32) (o3 : Int32) (o4 : Int32), ρ = (o2, o3, o4) → gb_Go l yMo_stained (d0 + 1) 0 0 157 [(1, .inl x1), (2, .inl o2), (3, .inl o3), (4, .inl o4)] [] shM I post) , gb_Go l yMo_stained (d0 + 1) 0 0 30 [(0, .inr (some 0)), (1, .inl x1), (2, .inl x2), (3, .inl x3), (4, .inl x4), (6, .inl x6)] [] shM I post := by
  intro n
  induction n with
  | zero => intro x2 x3 x4 x6 ρ h hX; cases h
  | succ n ih =>
    intro x2 x3 x4 x6 ρ h hX
    rw [L_Mo_stained_30] at h
    refine go_iload (k := 5) d_Mo_stained_30 rfl ?_
    refine go_bipush (v := 12) d_Mo_stained_32 (by decide) ?_
    refine go_cmp_ge (tgt := 157) d_Mo_stained_34 (by decide) (fun hc => ?_) (fun hc => ?_)
    · rw [if_pos hc] at h
      exact go_lv [1, 2, 3, 4] rfl (hX _ _ _ (Option.some.inj h).symm)
    · rw [if_neg hc] at h
      refine go_aload_n (k := 0) d_Mo_stained_37 rfl rfl ?_
      refine go_getr (ci := 10) (k := 1) (r := 1) d_Mo_stained_38 a_M_0 rfl (by decide) f_Mo_7 rfl ?_
      refine go_bipush (v := 18) d_Mo_stained_41 (by decide) ?_
      refine go_iload (k := 5) d_Mo_stained_43 rfl ?_
      refine go_iadd d_Mo_stained_45 ?_
      obtain ⟨hi, v2, ev2, h⟩ := flod_e h
      refine go_iald2 d_Mo_stained_46 a_M_1 hi ev2 ?_
      refine go_if_ne (tgt := 53) d_Mo_stained_47 (by decide) (fun hc => ?_) (fun hc => ?_)
      · rw [if_neg hc] at h
        refine go_iload (k := 5) d_Mo_stained_53 rfl ?_
        refine go_if_le (tgt := 76) d_Mo_stained_55 (by decide) (fun hc => ?_) (fun hc => ?_)
        · rw [if_pos hc] at h
          exact go_lv [0, 1, 2, 3, 4, 5] rfl (j_Mo_stained_76 l d0 (L_Mo_stained_30 x1 I n) x1 x2 x3 x4 x6 I h (fun z2 z3 z4 z6 hh => ih z2 z3 z4 z6 hh hX) hX)
        · rw [if_neg hc] at h
          refine go_aload_n (k := 0) d_Mo_stained_58 rfl rfl ?_
          refine go_getr (ci := 10) (k := 1) (r := 1) d_Mo_stained_59 a_M_0 rfl (by decide) f_Mo_7 rfl ?_
          refine go_bipush (v := 18) d_Mo_stained_62 (by decide) ?_
          refine go_iload (k := 5) d_Mo_stained_64 rfl ?_
          refine go_iadd d_Mo_stained_66 ?_
          refine go_iconst (v := 1) d_Mo_stained_67 (by decide) ?_
          refine go_isub d_Mo_stained_68 ?_
          obtain ⟨hi, v7, ev7, h⟩ := flod_e h
          refine go_iald2 d_Mo_stained_69 a_M_1 hi ev7 ?_
          refine go_if_le (tgt := 76) d_Mo_stained_70 (by decide) (fun hc => ?_) (fun hc => ?_)
          · rw [if_pos hc] at h
            exact go_lv [0, 1, 2, 3, 4, 5] rfl (j_Mo_stained_76 l d0 (L_Mo_stained_30 x1 I n) x1 x2 x3 x4 x6 I h (fun z2 z3 z4 z6 hh => ih z2 z3 z4 z6 hh hX) hX)
          · rw [if_neg hc] at h
            refine go_goto (tgt := 151) d_Mo_stained_73 (by decide) ?_
            exact go_lv [0, 1, 2, 3, 4, 5] rfl (j_Mo_stained_151 l d0 (L_Mo_stained_30 x1 I n) x1 x2 x3 x4 x6 I h (fun z2 z3 z4 z6 hh => ih z2 z3 z4 z6 hh hX) hX)
      · rw [if_pos hc] at h
        refine go_goto (tgt := 151) d_Mo_stained_50 (by decide) ?_
        exact go_lv [0, 1, 2, 3, 4, 5] rfl (j_Mo_stained_151 l d0 (L_Mo_stained_30 x1 I n) x1 x2 x3 x4 x6 I h (fun z2 z3 z4 z6 hh => ih z2 z3 z4 z6 hh hX) hX)
def F_Mo_stained (x1 : Int32) (I : gb_Mem) : Option (Int32 × gb_Mem) :=
  fstf I 0 0 0 fun I1 =>
  if (F_Mo_isIn x1 0 2 I1) = 0 then
    some ((-1), I1)
  else
    fbd (L_Mo_stained_30 x1 I1 5000 0 (-1) (-1) 0) fun (o8, o9, o10) =>
    if x1 = 0 then
      some (o8, I1)
    else
      if x1 = 1 then
        some (o9, I1)
      else
        some (o10, I1)
set_option maxRecDepth 4000 in
theorem c_Mo_stained (l : Launch) (d0 : Nat) (x1 : Int32) (I : gb_Mem) {rz : Int32} {Iz : gb_Mem} (h : F_Mo_stained x1 I = some (rz, Iz)) : gb_Cs l yMo_stained (d0 + 1) [.inr (some 0), .inl x1] shM I (some (.inl rz)) Iz := by
  refine gb_Ct.of (lv := [(0, .inr (some 0)), (1, .inl x1)]) rfl (Nat.le_of_ble_eq_true rfl) rfl ?_
  unfold F_Mo_stained at h
  show gb_Go l yMo_stained (d0 + 1) 0 0 0 [(0, .inr (some 0)), (1, .inl x1)] [] shM I (gb_po shM (some (.inl rz)) Iz)
  refine go_aload_n (k := 0) d_Mo_stained_0 rfl rfl ?_
  refine go_iconst (v := 0) d_Mo_stained_1 (by decide) ?_
  obtain ⟨I1, eI1, h⟩ := fstf_e h
  refine go_putT (ci := 10) (k := 0) (I' := I1) d_Mo_stained_2 a_M_0 rfl (by decide) f_Mo_137 rfl rfl rfl rfl rfl eI1 ?_
  refine go_aload_n (k := 0) d_Mo_stained_5 rfl rfl ?_
  refine go_iload_n (k := 1) d_Mo_stained_6 rfl rfl ?_
  refine go_iconst (v := 0) d_Mo_stained_7 (by decide) ?_
  refine go_iconst (v := 2) d_Mo_stained_8 (by decide) ?_
  refine go_callV (y := yMo_isIn) (asr := [.inl x1, .inl 0, .inl 2]) (v := some (.inl (F_Mo_isIn x1 0 2 I1))) (I' := I1) (st1 := [.inl (F_Mo_isIn x1 0 2 I1)]) d_Mo_stained_9 s_yMo_isIn m_Mo_157 a_M_0 rfl rfl rfl (Nat.le_of_ble_eq_true rfl) rfl rfl (c_Mo_isIn l (d0 + 0) x1 0 2 I1) ?_
  refine go_if_ne (tgt := 17) d_Mo_stained_12 (by decide) (fun hc => ?_) (fun hc => ?_)
  · rw [if_neg hc] at h
    refine go_iconst (v := 0) d_Mo_stained_17 (by decide) ?_
    refine go_istore_n (lv' := [(2, .inl 0), (0, .inr (some 0)), (1, .inl x1)]) d_Mo_stained_18 rfl (by decide) rfl ?_
    refine go_iconst (v := (-1)) d_Mo_stained_19 (by decide) ?_
    refine go_istore_n (lv' := [(3, .inl (-1)), (2, .inl 0), (0, .inr (some 0)), (1, .inl x1)]) d_Mo_stained_20 rfl (by decide) rfl ?_
    refine go_iconst (v := (-1)) d_Mo_stained_21 (by decide) ?_
    refine go_istore (lv' := [(4, .inl (-1)), (3, .inl (-1)), (2, .inl 0), (0, .inr (some 0)), (1, .inl x1)]) d_Mo_stained_22 (by decide) rfl ?_
    refine go_iconst (v := 0) d_Mo_stained_24 (by decide) ?_
    refine go_istore (lv' := [(5, .inl 0), (4, .inl (-1)), (3, .inl (-1)), (2, .inl 0), (0, .inr (some 0)), (1, .inl x1)]) d_Mo_stained_25 (by decide) rfl ?_
    refine go_iconst (v := 0) d_Mo_stained_27 (by decide) ?_
    refine go_istore (lv' := [(6, .inl 0), (5, .inl 0), (4, .inl (-1)), (3, .inl (-1)), (2, .inl 0), (0, .inr (some 0)), (1, .inl x1)]) d_Mo_stained_28 (by decide) rfl ?_
    refine go_lv [5, 6, 4, 3, 2, 0] (lv' := [(0, .inr (some 0)), (1, .inl x1), (2, .inl 0), (3, .inl (-1)), (4, .inl (-1)), (6, .inl 0)]) rfl ?_
    obtain ⟨⟨o8, o9, o10⟩, w1, h⟩ := fbd_e h
    try dsimp only at h
    refine l_Mo_stained_30 l d0 x1 I1 5000 0 (-1) (-1) 0 w1 (fun o8_ o9_ o10_ e => ?_)
    cases e
    refine go_iload_n (k := 0) d_Mo_stained_157 rfl rfl ?_
    refine go_if_ne (tgt := 165) d_Mo_stained_158 (by decide) (fun hc => ?_) (fun hc => ?_)
    · rw [if_neg hc] at h
      refine go_iload_n (k := 0) d_Mo_stained_165 rfl rfl ?_
      refine go_iconst (v := 1) d_Mo_stained_166 (by decide) ?_
      refine go_cmp_ne (tgt := 174) d_Mo_stained_167 (by decide) (fun hc => ?_) (fun hc => ?_)
      · rw [if_neg hc] at h
        refine go_iload (k := 3) d_Mo_stained_174 rfl ?_
        cases h
        exact go_ireturn d_Mo_stained_176 rfl gb_po_i
      · rw [if_pos hc] at h
        refine go_iload_n (k := 2) d_Mo_stained_170 rfl rfl ?_
        refine go_goto (tgt := 176) d_Mo_stained_171 (by decide) ?_
        cases h
        exact go_ireturn d_Mo_stained_176 rfl gb_po_i
    · rw [if_pos hc] at h
      refine go_iload_n (k := 1) d_Mo_stained_161 rfl rfl ?_
      refine go_goto (tgt := 176) d_Mo_stained_162 (by decide) ?_
      cases h
      exact go_ireturn d_Mo_stained_176 rfl gb_po_i
  · rw [if_pos hc] at h
    refine go_iconst (v := (-1)) d_Mo_stained_15 (by decide) ?_
    cases h
    exact go_ireturn d_Mo_stained_16 rfl gb_po_i
